set_option maxRecDepth 100000 in
set_option maxHeartbeats 4000000 in
theorem mX7_forget (l : Launch) (Δ : zE) (ad : Nat → Nat) (thr : Int32) (saved : Int32) (mlen : Int32) (spot : Int32) (reads : Int32) (hash : Int64) (ms : Nat → Int32) (mpast : Nat → Int32) (mtext : Nat → Int32) (mread : Nat → Int32) (x1 : Int32) {res : Int32 × Int32 × Int32 × (Nat → Int32) × (Nat → Int32)} (hf : fX7_forget thr saved ms mpast x1 = some res) : zMet l Δ yX7_forget cX7_forget 4 (some .int) 2 42 [.ref (ad 0), .int x1] (wX7 Δ ad thr saved mlen spot reads hash ms mpast mtext mread) (wX7 Δ ad res.2.1 res.2.2.1 mlen spot reads hash res.2.2.2.1 res.2.2.2.2 mtext mread) (some (.int res.1)) := by
  refine z_start (by decide +kernel) (Nat.le_of_ble_eq_true rfl) ?_
  intro p e s m args below meth c A ls X Z hl
  have hl : lv_has ls 4 [(0, .ref (ad 0)), (1, .int x1)] := hl
  have L29 : ∀ (k : Nat) (thr : Int32) (saved : Int32) (ms : Nat → Int32) (mpast : Nat → Int32) (v1 : Int32) (v2 : Int32) (v3 : Int32), fX7_forget_29 k thr saved ms mpast v1 v2 v3 = some res → ∀ (H : Heap) (locs : List Loc) (ls : Array Slot), zW Δ A s.heap (wX7 Δ ad thr saved mlen spot reads hash ms mpast mtext mread) H locs → lv_has ls 4 [(0, .ref (ad 0)), (1, .int v1), (2, .int v2), (3, .int v3)] → W p l e { frames := 2, cells := 0, slots := 0, locals := 42 } s m args below meth c H locs 0 0 (zEnd Δ below args s 0 0 A (some (.int res.1)) (wX7 Δ ad res.2.1 res.2.2.1 mlen spot reads hash res.2.2.2.1 res.2.2.2.2 mtext mread)) (F0 m 29 ls []) := by
    intro k
    induction k with
    | zero =>
      intro thr saved ms mpast v1 v2 v3 hf
      rw [fX7_forget_29.eq_1] at hf
      cases hf
    | succ k ih =>
      intro thr saved ms mpast v1 v2 v3 hf H locs ls Z hl
      rw [fX7_forget_29.eq_2] at hf
      refine lv_iload_n X.x X.b dX7_forget_29 rfl (lv_at hl 3 rfl) ?_
      refine lv_aload_n X.x X.b dX7_forget_30 rfl (lv_at hl 0 rfl) ?_
      refine z_gf inG_X7 (ci := 7) rfl 1 (Nat.le_of_ble_eq_true rfl) rfl X Z wd_823 0 rfl (v := .ref (ad 1)) rfl dX7_forget_31 ?_
      refine lv_iconst (v := 0) X.x X.b dX7_forget_34 ki_0 ?_
      refine z_iald X Z 1 rfl (zvin (by decide)) dX7_forget_35 ?_
      refine lv_icmp_ge (tgt := 65) X.x X.b dX7_forget_36 (by decide) (fun b1 => ?_) (fun b1 => ?_)
      · have hf := zif_t b1 hf
        refine lv_iload_n X.x X.b dX7_forget_65 rfl (lv_at hl 2 rfl) ?_
        cases hf
        exact z_iret X Z dX7_forget_66
      · have hf := zif_f b1 hf
        refine lv_aload_n X.x X.b dX7_forget_39 rfl (lv_at hl 0 rfl) ?_
        refine lv_iload_n X.x X.b dX7_forget_40 rfl (lv_at hl 1 rfl) ?_
        refine lv_iload_n X.x X.b dX7_forget_41 rfl (lv_at hl 3 rfl) ?_
        obtain ⟨q1, hq1, hf⟩ := zb_ok hf
        refine z_callV X Z hl (mX7_known l Δ ad thr saved mlen spot reads hash ms mpast mtext mread v1 v3 hq1) wd_908 wd_910 wd_25 wd_68 wd_911 ok_X7_known 7 rfl 0 rfl (w' := (wX7 Δ ad thr saved mlen spot reads hash ms mpast mtext mread)) su_16 fs_16 pu_16 rfl (rest := []) rfl (Nat.le_of_ble_eq_true rfl) ⟨Nat.le_of_ble_eq_true rfl, Nat.le_of_ble_eq_true rfl⟩ ⟨Nat.zero_le _, Nat.zero_le _⟩ (st1 := [.int q1]) rfl dX7_forget_42 (fun H locs Z => ?_)
        refine lv_iconst (v := 1) X.x X.b dX7_forget_45 ki_1 ?_
        refine lv_icmp_ne (tgt := 59) X.x X.b dX7_forget_46 (by decide) (fun b2 => ?_) (fun b2 => ?_)
        · have hf := zif_f b2 hf
          refine lv_iinc (v := (v3 + 1)) (lv' := [(3, .int (v3 + 1)), (0, .ref (ad 0)), (1, .int v1), (2, .int v2)]) X.x X.b dX7_forget_59 hl (k := 3) rfl (congrArg _ ki_1) (Nat.le_of_ble_eq_true rfl) rfl (fun ls hl => ?_)
          refine lv_goto (tgt := 29) X.x X.b dX7_forget_62 (by decide) ?_
          exact ih thr saved ms mpast v1 v2 (v3 + 1) hf _ _ _ Z (lv_sub hl [1, 2, 3, 0] rfl)
        · have hf := zif_t b2 hf
          refine lv_aload_n X.x X.b dX7_forget_49 rfl (lv_at hl 0 rfl) ?_
          refine lv_iload_n X.x X.b dX7_forget_50 rfl (lv_at hl 1 rfl) ?_
          refine lv_iload_n X.x X.b dX7_forget_51 rfl (lv_at hl 3 rfl) ?_
          refine lv_iconst (v := 0) X.x X.b dX7_forget_52 ki_0 ?_
          obtain ⟨q2, hq2, hf⟩ := zb_ok hf
          refine z_callV X Z hl (mX7_learns l Δ ad thr saved mlen spot reads hash ms mpast mtext mread v1 v3 0 hq2) wd_884 wd_886 wd_21 wd_68 wd_887 ok_X7_learns 7 rfl 0 rfl (w' := (wX7 Δ ad thr saved mlen spot reads hash q2 mpast mtext mread)) su_16 fs_16 pu_16 rfl (rest := []) rfl (Nat.le_of_ble_eq_true rfl) ⟨Nat.le_of_ble_eq_true rfl, Nat.le_of_ble_eq_true rfl⟩ ⟨Nat.zero_le _, Nat.zero_le _⟩ (st1 := []) rfl dX7_forget_53 (fun H locs Z => ?_)
          refine lv_iinc (v := (v2 + 1)) (lv' := [(2, .int (v2 + 1)), (0, .ref (ad 0)), (1, .int v1), (3, .int v3)]) X.x X.b dX7_forget_56 hl (k := 2) rfl (congrArg _ ki_1) (Nat.le_of_ble_eq_true rfl) rfl (fun ls hl => ?_)
          refine lv_iinc (v := (v3 + 1)) (lv' := [(3, .int (v3 + 1)), (2, .int (v2 + 1)), (0, .ref (ad 0)), (1, .int v1)]) X.x X.b dX7_forget_59 hl (k := 3) rfl (congrArg _ ki_1) (Nat.le_of_ble_eq_true rfl) rfl (fun ls hl => ?_)
          refine lv_goto (tgt := 29) X.x X.b dX7_forget_62 (by decide) ?_
          exact ih thr saved q2 mpast v1 (v2 + 1) (v3 + 1) hf _ _ _ Z (lv_sub hl [2, 3, 1, 0] rfl)
  rw [fX7_forget.eq_1] at hf
  refine lv_aload_n X.x X.b dX7_forget_0 rfl (lv_at hl 0 rfl) ?_
  refine lv_iload_n X.x X.b dX7_forget_1 rfl (lv_at hl 1 rfl) ?_
  obtain ⟨q1, hq1, hf⟩ := zb_ok hf
  refine z_callS X Z hl (mX7_isReader l Δ  x1 hq1) wd_923 wd_924 wd_68 wd_925 ok_X7_isReader (w' := (wX7 Δ ad thr saved mlen spot reads hash ms mpast mtext mread)) zSub_nil rfl zput_nil rfl (rest := [.ref (ad 0)]) rfl (Nat.le_of_ble_eq_true rfl) ⟨Nat.le_of_ble_eq_true rfl, Nat.le_of_ble_eq_true rfl⟩ ⟨Nat.zero_le _, Nat.zero_le _⟩ (st1 := [.int q1, .ref (ad 0)]) rfl dX7_forget_2 (fun H locs Z => ?_)
  refine lv_if_eq (tgt := 12) X.x X.b dX7_forget_5 (by decide) (fun b1 => ?_) (fun b1 => ?_)
  · have hf := zif_t b1 hf
    refine lv_iconst (v := 1) X.x X.b dX7_forget_12 ki_1 ?_
    obtain ⟨q2, hq2, hf⟩ := zb_ok hf
    refine z_callV X Z hl (mX7_refuses l Δ ad thr saved mlen spot reads hash ms mpast mtext mread 1 hq2) wd_862 wd_864 wd_18 wd_68 wd_865 ok_X7_refuses 7 rfl 0 rfl (w' := (wX7 Δ ad q2.2 saved mlen spot reads hash ms mpast mtext mread)) su_16 fs_16 pu_16 rfl (rest := []) rfl (Nat.le_of_ble_eq_true rfl) ⟨Nat.le_of_ble_eq_true rfl, Nat.le_of_ble_eq_true rfl⟩ ⟨Nat.zero_le _, Nat.zero_le _⟩ (st1 := [.int q2.1]) rfl dX7_forget_13 (fun H locs Z => ?_)
    refine lv_if_eq (tgt := 21) X.x X.b dX7_forget_16 (by decide) (fun b2 => ?_) (fun b2 => ?_)
    · have hf := zif_t b2 hf
      refine lv_aload_n X.x X.b dX7_forget_21 rfl (lv_at hl 0 rfl) ?_
      obtain ⟨q3, hq3, hf⟩ := zb_ok hf
      refine z_callV X Z hl (mX7_saves l Δ ad q2.2 saved mlen spot reads hash ms mpast mtext mread hq3) wd_876 wd_878 wd_19 wd_68 wd_879 ok_X7_saves 7 rfl 0 rfl (w' := (wX7 Δ ad q2.2 q3.1 mlen spot reads hash ms q3.2 mtext mread)) su_16 fs_16 pu_16 rfl (rest := []) rfl (Nat.le_of_ble_eq_true rfl) ⟨Nat.le_of_ble_eq_true rfl, Nat.le_of_ble_eq_true rfl⟩ ⟨Nat.zero_le _, Nat.zero_le _⟩ (st1 := []) rfl dX7_forget_22 (fun H locs Z => ?_)
      refine lv_iconst (v := 0) X.x X.b dX7_forget_25 ki_0 ?_
      refine lv_istore_n (lv' := [(2, .int 0), (0, .ref (ad 0)), (1, .int x1)]) X.x X.b dX7_forget_26 rfl hl (Nat.le_of_ble_eq_true rfl) rfl (fun ls hl => ?_)
      refine lv_iconst (v := 0) X.x X.b dX7_forget_27 ki_0 ?_
      refine lv_istore_n (lv' := [(3, .int 0), (2, .int 0), (0, .ref (ad 0)), (1, .int x1)]) X.x X.b dX7_forget_28 rfl hl (Nat.le_of_ble_eq_true rfl) rfl (fun ls hl => ?_)
      exact L29 zfuel q2.2 q3.1 ms q3.2 x1 0 0 hf _ _ _ Z (lv_sub hl [2, 3, 1, 0] rfl)
    · have hf := zif_f b2 hf
      refine lv_iconst (v := 0) X.x X.b dX7_forget_19 ki_0 ?_
      cases hf
      exact z_iret X Z dX7_forget_20
  · have hf := zif_f b1 hf
    refine lv_iconst (v := 0) X.x X.b dX7_forget_8 ki_0 ?_
    refine lv_goto (tgt := 13) X.x X.b dX7_forget_9 (by decide) ?_
    obtain ⟨q4, hq4, hf⟩ := zb_ok hf
    refine z_callV X Z hl (mX7_refuses l Δ ad thr saved mlen spot reads hash ms mpast mtext mread 0 hq4) wd_862 wd_864 wd_18 wd_68 wd_865 ok_X7_refuses 7 rfl 0 rfl (w' := (wX7 Δ ad q4.2 saved mlen spot reads hash ms mpast mtext mread)) su_16 fs_16 pu_16 rfl (rest := []) rfl (Nat.le_of_ble_eq_true rfl) ⟨Nat.le_of_ble_eq_true rfl, Nat.le_of_ble_eq_true rfl⟩ ⟨Nat.zero_le _, Nat.zero_le _⟩ (st1 := [.int q4.1]) rfl dX7_forget_13 (fun H locs Z => ?_)
    refine lv_if_eq (tgt := 21) X.x X.b dX7_forget_16 (by decide) (fun b3 => ?_) (fun b3 => ?_)
    · have hf := zif_t b3 hf
      refine lv_aload_n X.x X.b dX7_forget_21 rfl (lv_at hl 0 rfl) ?_
      obtain ⟨q5, hq5, hf⟩ := zb_ok hf
      refine z_callV X Z hl (mX7_saves l Δ ad q4.2 saved mlen spot reads hash ms mpast mtext mread hq5) wd_876 wd_878 wd_19 wd_68 wd_879 ok_X7_saves 7 rfl 0 rfl (w' := (wX7 Δ ad q4.2 q5.1 mlen spot reads hash ms q5.2 mtext mread)) su_16 fs_16 pu_16 rfl (rest := []) rfl (Nat.le_of_ble_eq_true rfl) ⟨Nat.le_of_ble_eq_true rfl, Nat.le_of_ble_eq_true rfl⟩ ⟨Nat.zero_le _, Nat.zero_le _⟩ (st1 := []) rfl dX7_forget_22 (fun H locs Z => ?_)
      refine lv_iconst (v := 0) X.x X.b dX7_forget_25 ki_0 ?_
      refine lv_istore_n (lv' := [(2, .int 0), (0, .ref (ad 0)), (1, .int x1)]) X.x X.b dX7_forget_26 rfl hl (Nat.le_of_ble_eq_true rfl) rfl (fun ls hl => ?_)
      refine lv_iconst (v := 0) X.x X.b dX7_forget_27 ki_0 ?_
      refine lv_istore_n (lv' := [(3, .int 0), (2, .int 0), (0, .ref (ad 0)), (1, .int x1)]) X.x X.b dX7_forget_28 rfl hl (Nat.le_of_ble_eq_true rfl) rfl (fun ls hl => ?_)
      exact L29 zfuel q4.2 q5.1 ms q5.2 x1 0 0 hf _ _ _ Z (lv_sub hl [2, 3, 1, 0] rfl)
    · have hf := zif_f b3 hf
      refine lv_iconst (v := 0) X.x X.b dX7_forget_19 ki_0 ?_
      cases hf
      exact z_iret X Z dX7_forget_20
set_option maxRecDepth 100000 in
set_option maxHeartbeats 4000000 in
theorem mX7_catchUp (l : Launch) (Δ : zE) (ad : Nat → Nat) (thr : Int32) (saved : Int32) (mlen : Int32) (spot : Int32) (reads : Int32) (hash : Int64) (ms : Nat → Int32) (mpast : Nat → Int32) (mtext : Nat → Int32) (mread : Nat → Int32) (x1 : Int32) {res : Int32 × Int32 × Int32 × (Nat → Int32) × (Nat → Int32)} (hf : fX7_catchUp thr saved ms mpast x1 = some res) : zMet l Δ yX7_catchUp cX7_catchUp 5 (some .int) 5 118 [.ref (ad 0), .int x1] (wX7 Δ ad thr saved mlen spot reads hash ms mpast mtext mread) (wX7 Δ ad res.2.1 res.2.2.1 mlen spot reads hash res.2.2.2.1 res.2.2.2.2 mtext mread) (some (.int res.1)) := by
  refine z_start (by decide +kernel) (Nat.le_of_ble_eq_true rfl) ?_
  intro p e s m args below meth c A ls X Z hl
  have hl : lv_has ls 5 [(0, .ref (ad 0)), (1, .int x1)] := hl
  have L39 : ∀ (k : Nat) (thr : Int32) (saved : Int32) (ms : Nat → Int32) (mpast : Nat → Int32) (v1 : Int32) (v2 : Int32) (v3 : Int32), fX7_catchUp_39 k thr saved ms mpast v1 v2 v3 = some res → ∀ (H : Heap) (locs : List Loc) (ls : Array Slot), zW Δ A s.heap (wX7 Δ ad thr saved mlen spot reads hash ms mpast mtext mread) H locs → lv_has ls 5 [(0, .ref (ad 0)), (1, .int v1), (2, .int v2), (3, .int v3)] → W p l e { frames := 5, cells := 0, slots := 0, locals := 118 } s m args below meth c H locs 0 0 (zEnd Δ below args s 0 0 A (some (.int res.1)) (wX7 Δ ad res.2.1 res.2.2.1 mlen spot reads hash res.2.2.2.1 res.2.2.2.2 mtext mread)) (F0 m 39 ls []) := by
    intro k
    induction k with
    | zero =>
      intro thr saved ms mpast v1 v2 v3 hf
      rw [fX7_catchUp_39.eq_1] at hf
      cases hf
    | succ k ih =>
      intro thr saved ms mpast v1 v2 v3 hf H locs ls Z hl
      rw [fX7_catchUp_39.eq_2] at hf
      refine lv_iload_n X.x X.b dX7_catchUp_39 rfl (lv_at hl 3 rfl) ?_
      refine lv_aload_n X.x X.b dX7_catchUp_40 rfl (lv_at hl 0 rfl) ?_
      refine z_gf inG_X7 (ci := 7) rfl 1 (Nat.le_of_ble_eq_true rfl) rfl X Z wd_823 0 rfl (v := .ref (ad 1)) rfl dX7_catchUp_41 ?_
      refine lv_iconst (v := 0) X.x X.b dX7_catchUp_44 ki_0 ?_
      refine z_iald X Z 1 rfl (zvin (by decide)) dX7_catchUp_45 ?_
      refine lv_icmp_ge (tgt := 77) X.x X.b dX7_catchUp_46 (by decide) (fun b1 => ?_) (fun b1 => ?_)
      · have hf := zif_t b1 hf
        refine lv_aload_n X.x X.b dX7_catchUp_77 rfl (lv_at hl 0 rfl) ?_
        refine z_gf inG_X7 (ci := 7) rfl 1 (Nat.le_of_ble_eq_true rfl) rfl X Z wd_823 0 rfl (v := .ref (ad 1)) rfl dX7_catchUp_78 ?_
        refine lv_bipush (v := 65) X.x X.b dX7_catchUp_81 kb_65 ?_
        refine lv_iconst (v := 3) X.x X.b dX7_catchUp_83 ki_3 ?_
        refine lv_iload_n X.x X.b dX7_catchUp_84 rfl (lv_at hl 1 rfl) ?_
        refine lv_imul X.x X.b dX7_catchUp_85 ?_
        refine lv_iadd X.x X.b dX7_catchUp_86 ?_
        obtain ⟨b2, hf⟩ := zg_in hf
        refine z_iald X Z 1 rfl b2 dX7_catchUp_87 ?_
        refine lv_iload_n X.x X.b dX7_catchUp_88 rfl (lv_at hl 2 rfl) ?_
        refine lv_isub X.x X.b dX7_catchUp_89 ?_
        cases hf
        exact z_iret X Z dX7_catchUp_90
      · have hf := zif_f b1 hf
        refine lv_aload_n X.x X.b dX7_catchUp_49 rfl (lv_at hl 0 rfl) ?_
        refine lv_iload_n X.x X.b dX7_catchUp_50 rfl (lv_at hl 1 rfl) ?_
        refine lv_iload_n X.x X.b dX7_catchUp_51 rfl (lv_at hl 3 rfl) ?_
        obtain ⟨q1, hq1, hf⟩ := zb_ok hf
        refine z_callV X Z hl (mX7_known l Δ ad thr saved mlen spot reads hash ms mpast mtext mread v1 v3 hq1) wd_908 wd_910 wd_25 wd_68 wd_911 ok_X7_known 7 rfl 0 rfl (w' := (wX7 Δ ad thr saved mlen spot reads hash ms mpast mtext mread)) su_16 fs_16 pu_16 rfl (rest := []) rfl (Nat.le_of_ble_eq_true rfl) ⟨Nat.le_of_ble_eq_true rfl, Nat.le_of_ble_eq_true rfl⟩ ⟨Nat.zero_le _, Nat.zero_le _⟩ (st1 := [.int q1]) rfl dX7_catchUp_52 (fun H locs Z => ?_)
        refine lv_iconst (v := 2) X.x X.b dX7_catchUp_55 ki_2 ?_
        refine lv_icmp_ne (tgt := 63) X.x X.b dX7_catchUp_56 (by decide) (fun b3 => ?_) (fun b3 => ?_)
        · have hf := zif_f b3 hf
          refine lv_aload_n X.x X.b dX7_catchUp_63 rfl (lv_at hl 0 rfl) ?_
          refine lv_iload_n X.x X.b dX7_catchUp_64 rfl (lv_at hl 1 rfl) ?_
          refine lv_iload_n X.x X.b dX7_catchUp_65 rfl (lv_at hl 3 rfl) ?_
          obtain ⟨q2, hq2, hf⟩ := zb_ok hf
          refine z_callV X Z hl (mX7_reaches l Δ ad thr saved mlen spot reads hash ms mpast mtext mread v1 v3 hq2) wd_926 wd_928 wd_26 wd_68 wd_929 ok_X7_reaches 7 rfl 0 rfl (w' := (wX7 Δ ad thr saved mlen spot reads hash q2.2 mpast mtext mread)) su_16 fs_16 pu_16 rfl (rest := []) rfl (Nat.le_of_ble_eq_true rfl) ⟨Nat.le_of_ble_eq_true rfl, Nat.le_of_ble_eq_true rfl⟩ ⟨Nat.zero_le _, Nat.zero_le _⟩ (st1 := [.int q2.1]) rfl dX7_catchUp_66 (fun H locs Z => ?_)
          refine lv_istore (lv' := [(4, .int q2.1), (0, .ref (ad 0)), (1, .int v1), (2, .int v2), (3, .int v3)]) X.x X.b dX7_catchUp_69 hl (Nat.le_of_ble_eq_true rfl) rfl (fun ls hl => ?_)
          refine lv_iinc (v := (v3 + 1)) (lv' := [(3, .int (v3 + 1)), (4, .int q2.1), (0, .ref (ad 0)), (1, .int v1), (2, .int v2)]) X.x X.b dX7_catchUp_71 hl (k := 4) rfl (congrArg _ ki_1) (Nat.le_of_ble_eq_true rfl) rfl (fun ls hl => ?_)
          refine lv_goto (tgt := 39) X.x X.b dX7_catchUp_74 (by decide) ?_
          exact ih thr saved q2.2 mpast v1 v2 (v3 + 1) hf _ _ _ Z (lv_sub hl [2, 3, 4, 0] rfl)
        · have hf := zif_t b3 hf
          refine lv_iconst (v := 0) X.x X.b dX7_catchUp_59 ki_0 ?_
          refine lv_goto (tgt := 69) X.x X.b dX7_catchUp_60 (by decide) ?_
          refine lv_istore (lv' := [(4, .int 0), (0, .ref (ad 0)), (1, .int v1), (2, .int v2), (3, .int v3)]) X.x X.b dX7_catchUp_69 hl (Nat.le_of_ble_eq_true rfl) rfl (fun ls hl => ?_)
          refine lv_iinc (v := (v3 + 1)) (lv' := [(3, .int (v3 + 1)), (4, .int 0), (0, .ref (ad 0)), (1, .int v1), (2, .int v2)]) X.x X.b dX7_catchUp_71 hl (k := 4) rfl (congrArg _ ki_1) (Nat.le_of_ble_eq_true rfl) rfl (fun ls hl => ?_)
          refine lv_goto (tgt := 39) X.x X.b dX7_catchUp_74 (by decide) ?_
          exact ih thr saved ms mpast v1 v2 (v3 + 1) hf _ _ _ Z (lv_sub hl [2, 3, 4, 0] rfl)
  rw [fX7_catchUp.eq_1] at hf
  refine lv_aload_n X.x X.b dX7_catchUp_0 rfl (lv_at hl 0 rfl) ?_
  refine lv_iload_n X.x X.b dX7_catchUp_1 rfl (lv_at hl 1 rfl) ?_
  obtain ⟨q1, hq1, hf⟩ := zb_ok hf
  refine z_callS X Z hl (mX7_isReader l Δ  x1 hq1) wd_923 wd_924 wd_68 wd_925 ok_X7_isReader (w' := (wX7 Δ ad thr saved mlen spot reads hash ms mpast mtext mread)) zSub_nil rfl zput_nil rfl (rest := [.ref (ad 0)]) rfl (Nat.le_of_ble_eq_true rfl) ⟨Nat.le_of_ble_eq_true rfl, Nat.le_of_ble_eq_true rfl⟩ ⟨Nat.zero_le _, Nat.zero_le _⟩ (st1 := [.int q1, .ref (ad 0)]) rfl dX7_catchUp_2 (fun H locs Z => ?_)
  refine lv_if_eq (tgt := 12) X.x X.b dX7_catchUp_5 (by decide) (fun b1 => ?_) (fun b1 => ?_)
  · have hf := zif_t b1 hf
    refine lv_iconst (v := 1) X.x X.b dX7_catchUp_12 ki_1 ?_
    obtain ⟨q2, hq2, hf⟩ := zb_ok hf
    refine z_callV X Z hl (mX7_refuses l Δ ad thr saved mlen spot reads hash ms mpast mtext mread 1 hq2) wd_862 wd_864 wd_18 wd_68 wd_865 ok_X7_refuses 7 rfl 0 rfl (w' := (wX7 Δ ad q2.2 saved mlen spot reads hash ms mpast mtext mread)) su_16 fs_16 pu_16 rfl (rest := []) rfl (Nat.le_of_ble_eq_true rfl) ⟨Nat.le_of_ble_eq_true rfl, Nat.le_of_ble_eq_true rfl⟩ ⟨Nat.zero_le _, Nat.zero_le _⟩ (st1 := [.int q2.1]) rfl dX7_catchUp_13 (fun H locs Z => ?_)
    refine lv_if_eq (tgt := 21) X.x X.b dX7_catchUp_16 (by decide) (fun b2 => ?_) (fun b2 => ?_)
    · have hf := zif_t b2 hf
      refine lv_aload_n X.x X.b dX7_catchUp_21 rfl (lv_at hl 0 rfl) ?_
      obtain ⟨q3, hq3, hf⟩ := zb_ok hf
      refine z_callV X Z hl (mX7_saves l Δ ad q2.2 saved mlen spot reads hash ms mpast mtext mread hq3) wd_876 wd_878 wd_19 wd_68 wd_879 ok_X7_saves 7 rfl 0 rfl (w' := (wX7 Δ ad q2.2 q3.1 mlen spot reads hash ms q3.2 mtext mread)) su_16 fs_16 pu_16 rfl (rest := []) rfl (Nat.le_of_ble_eq_true rfl) ⟨Nat.le_of_ble_eq_true rfl, Nat.le_of_ble_eq_true rfl⟩ ⟨Nat.zero_le _, Nat.zero_le _⟩ (st1 := []) rfl dX7_catchUp_22 (fun H locs Z => ?_)
      refine lv_aload_n X.x X.b dX7_catchUp_25 rfl (lv_at hl 0 rfl) ?_
      refine z_gf inG_X7 (ci := 7) rfl 1 (Nat.le_of_ble_eq_true rfl) rfl X Z wd_823 0 rfl (v := .ref (ad 1)) rfl dX7_catchUp_26 ?_
      refine lv_bipush (v := 65) X.x X.b dX7_catchUp_29 kb_65 ?_
      refine lv_iconst (v := 3) X.x X.b dX7_catchUp_31 ki_3 ?_
      refine lv_iload_n X.x X.b dX7_catchUp_32 rfl (lv_at hl 1 rfl) ?_
      refine lv_imul X.x X.b dX7_catchUp_33 ?_
      refine lv_iadd X.x X.b dX7_catchUp_34 ?_
      obtain ⟨b3, hf⟩ := zg_in hf
      refine z_iald X Z 1 rfl b3 dX7_catchUp_35 ?_
      refine lv_istore_n (lv' := [(2, .int (ms (65 + (3 * x1)).toNatClampNeg)), (0, .ref (ad 0)), (1, .int x1)]) X.x X.b dX7_catchUp_36 rfl hl (Nat.le_of_ble_eq_true rfl) rfl (fun ls hl => ?_)
      refine lv_iconst (v := 0) X.x X.b dX7_catchUp_37 ki_0 ?_
      refine lv_istore_n (lv' := [(3, .int 0), (2, .int (ms (65 + (3 * x1)).toNatClampNeg)), (0, .ref (ad 0)), (1, .int x1)]) X.x X.b dX7_catchUp_38 rfl hl (Nat.le_of_ble_eq_true rfl) rfl (fun ls hl => ?_)
      exact L39 zfuel q2.2 q3.1 ms q3.2 x1 (ms (65 + (3 * x1)).toNatClampNeg) 0 hf _ _ _ Z (lv_sub hl [2, 3, 1, 0] rfl)
    · have hf := zif_f b2 hf
      refine lv_iconst (v := 0) X.x X.b dX7_catchUp_19 ki_0 ?_
      cases hf
      exact z_iret X Z dX7_catchUp_20
  · have hf := zif_f b1 hf
    refine lv_iconst (v := 0) X.x X.b dX7_catchUp_8 ki_0 ?_
    refine lv_goto (tgt := 13) X.x X.b dX7_catchUp_9 (by decide) ?_
    obtain ⟨q4, hq4, hf⟩ := zb_ok hf
    refine z_callV X Z hl (mX7_refuses l Δ ad thr saved mlen spot reads hash ms mpast mtext mread 0 hq4) wd_862 wd_864 wd_18 wd_68 wd_865 ok_X7_refuses 7 rfl 0 rfl (w' := (wX7 Δ ad q4.2 saved mlen spot reads hash ms mpast mtext mread)) su_16 fs_16 pu_16 rfl (rest := []) rfl (Nat.le_of_ble_eq_true rfl) ⟨Nat.le_of_ble_eq_true rfl, Nat.le_of_ble_eq_true rfl⟩ ⟨Nat.zero_le _, Nat.zero_le _⟩ (st1 := [.int q4.1]) rfl dX7_catchUp_13 (fun H locs Z => ?_)
    refine lv_if_eq (tgt := 21) X.x X.b dX7_catchUp_16 (by decide) (fun b4 => ?_) (fun b4 => ?_)
    · have hf := zif_t b4 hf
      refine lv_aload_n X.x X.b dX7_catchUp_21 rfl (lv_at hl 0 rfl) ?_
      obtain ⟨q5, hq5, hf⟩ := zb_ok hf
      refine z_callV X Z hl (mX7_saves l Δ ad q4.2 saved mlen spot reads hash ms mpast mtext mread hq5) wd_876 wd_878 wd_19 wd_68 wd_879 ok_X7_saves 7 rfl 0 rfl (w' := (wX7 Δ ad q4.2 q5.1 mlen spot reads hash ms q5.2 mtext mread)) su_16 fs_16 pu_16 rfl (rest := []) rfl (Nat.le_of_ble_eq_true rfl) ⟨Nat.le_of_ble_eq_true rfl, Nat.le_of_ble_eq_true rfl⟩ ⟨Nat.zero_le _, Nat.zero_le _⟩ (st1 := []) rfl dX7_catchUp_22 (fun H locs Z => ?_)
      refine lv_aload_n X.x X.b dX7_catchUp_25 rfl (lv_at hl 0 rfl) ?_
      refine z_gf inG_X7 (ci := 7) rfl 1 (Nat.le_of_ble_eq_true rfl) rfl X Z wd_823 0 rfl (v := .ref (ad 1)) rfl dX7_catchUp_26 ?_
      refine lv_bipush (v := 65) X.x X.b dX7_catchUp_29 kb_65 ?_
      refine lv_iconst (v := 3) X.x X.b dX7_catchUp_31 ki_3 ?_
      refine lv_iload_n X.x X.b dX7_catchUp_32 rfl (lv_at hl 1 rfl) ?_
      refine lv_imul X.x X.b dX7_catchUp_33 ?_
      refine lv_iadd X.x X.b dX7_catchUp_34 ?_
      obtain ⟨b5, hf⟩ := zg_in hf
      refine z_iald X Z 1 rfl b5 dX7_catchUp_35 ?_
      refine lv_istore_n (lv' := [(2, .int (ms (65 + (3 * x1)).toNatClampNeg)), (0, .ref (ad 0)), (1, .int x1)]) X.x X.b dX7_catchUp_36 rfl hl (Nat.le_of_ble_eq_true rfl) rfl (fun ls hl => ?_)
      refine lv_iconst (v := 0) X.x X.b dX7_catchUp_37 ki_0 ?_
      refine lv_istore_n (lv' := [(3, .int 0), (2, .int (ms (65 + (3 * x1)).toNatClampNeg)), (0, .ref (ad 0)), (1, .int x1)]) X.x X.b dX7_catchUp_38 rfl hl (Nat.le_of_ble_eq_true rfl) rfl (fun ls hl => ?_)
      exact L39 zfuel q4.2 q5.1 ms q5.2 x1 (ms (65 + (3 * x1)).toNatClampNeg) 0 hf _ _ _ Z (lv_sub hl [2, 3, 1, 0] rfl)
    · have hf := zif_f b4 hf
      refine lv_iconst (v := 0) X.x X.b dX7_catchUp_19 ki_0 ?_
      cases hf
      exact z_iret X Z dX7_catchUp_20
set_option maxRecDepth 100000 in
set_option maxHeartbeats 4000000 in
theorem mX7_append (l : Launch) (Δ : zE) (ad : Nat → Nat) (thr : Int32) (saved : Int32) (mlen : Int32) (spot : Int32) (reads : Int32) (hash : Int64) (ms : Nat → Int32) (mpast : Nat → Int32) (mtext : Nat → Int32) (mread : Nat → Int32) (x1 : Int32) {res : Int32 × Int32 × Int32 × (Nat → Int32)} (hf : fX7_append thr mlen mtext x1 = some res) : zMet l Δ yX7_append cX7_append 2 (some .int) 1 22 [.ref (ad 0), .int x1] (wX7 Δ ad thr saved mlen spot reads hash ms mpast mtext mread) (wX7 Δ ad res.2.1 saved res.2.2.1 spot reads hash ms mpast res.2.2.2 mread) (some (.int res.1)) := by
  refine z_start (by decide +kernel) (Nat.le_of_ble_eq_true rfl) ?_
  intro p e s m args below meth c A ls X Z hl
  have hl : lv_has ls 2 [(0, .ref (ad 0)), (1, .int x1)] := hl
  rw [fX7_append.eq_1] at hf
  refine lv_aload_n X.x X.b dX7_append_0 rfl (lv_at hl 0 rfl) ?_
  refine lv_iload_n X.x X.b dX7_append_1 rfl (lv_at hl 1 rfl) ?_
  refine lv_bipush (v := 33) X.x X.b dX7_append_2 kb_33 ?_
  refine lv_bipush (v := 126) X.x X.b dX7_append_4 kb_126 ?_
  obtain ⟨q1, hq1, hf⟩ := zb_ok hf
  refine z_callS X Z hl (mX7_in l Δ  x1 33 126 hq1) wd_870 wd_871 wd_68 wd_872 ok_X7_in (w' := (wX7 Δ ad thr saved mlen spot reads hash ms mpast mtext mread)) zSub_nil rfl zput_nil rfl (rest := [.ref (ad 0)]) rfl (Nat.le_of_ble_eq_true rfl) ⟨Nat.le_of_ble_eq_true rfl, Nat.le_of_ble_eq_true rfl⟩ ⟨Nat.zero_le _, Nat.zero_le _⟩ (st1 := [.int q1, .ref (ad 0)]) rfl dX7_append_6 (fun H locs Z => ?_)
  refine lv_if_ne (tgt := 16) X.x X.b dX7_append_9 (by decide) (fun b1 => ?_) (fun b1 => ?_)
  · have hf := zif_f b1 hf
    refine lv_aload_n X.x X.b dX7_append_16 rfl (lv_at hl 0 rfl) ?_
    refine z_gf inG_X7 (ci := 7) rfl 5 (Nat.le_of_ble_eq_true rfl) rfl X Z wd_827 0 rfl (v := .int mlen) rfl dX7_append_17 ?_
    refine lv_bipush (v := 60) X.x X.b dX7_append_20 kb_60 ?_
    refine lv_icmp_ne (tgt := 29) X.x X.b dX7_append_22 (by decide) (fun b2 => ?_) (fun b2 => ?_)
    · have hf := zif_f b2 hf
      refine lv_iconst (v := 0) X.x X.b dX7_append_29 ki_0 ?_
      obtain ⟨q2, hq2, hf⟩ := zb_ok hf
      refine z_callV X Z hl (mX7_refuses l Δ ad thr saved mlen spot reads hash ms mpast mtext mread 0 hq2) wd_862 wd_864 wd_18 wd_68 wd_865 ok_X7_refuses 7 rfl 0 rfl (w' := (wX7 Δ ad q2.2 saved mlen spot reads hash ms mpast mtext mread)) su_16 fs_16 pu_16 rfl (rest := []) rfl (Nat.le_of_ble_eq_true rfl) ⟨Nat.le_of_ble_eq_true rfl, Nat.le_of_ble_eq_true rfl⟩ ⟨Nat.zero_le _, Nat.zero_le _⟩ (st1 := [.int q2.1]) rfl dX7_append_30 (fun H locs Z => ?_)
      refine lv_if_eq (tgt := 38) X.x X.b dX7_append_33 (by decide) (fun b3 => ?_) (fun b3 => ?_)
      · have hf := zif_t b3 hf
        refine lv_aload_n X.x X.b dX7_append_38 rfl (lv_at hl 0 rfl) ?_
        refine z_gf inG_X7 (ci := 7) rfl 4 (Nat.le_of_ble_eq_true rfl) rfl X Z wd_826 0 rfl (v := .ref (ad 3)) rfl dX7_append_39 ?_
        refine lv_aload_n X.x X.b dX7_append_42 rfl (lv_at hl 0 rfl) ?_
        refine z_gf inG_X7 (ci := 7) rfl 5 (Nat.le_of_ble_eq_true rfl) rfl X Z wd_827 0 rfl (v := .int mlen) rfl dX7_append_43 ?_
        refine lv_iload_n X.x X.b dX7_append_46 rfl (lv_at hl 1 rfl) ?_
        refine lv_i2c (v := ((x1 : Int32).toUInt32 % 65536).toInt32) X.x X.b dX7_append_47 rfl ?_
        obtain ⟨b4, hf⟩ := zg_in hf
        refine z_cast (w' := (wX7 Δ ad q2.2 saved mlen spot reads hash ms mpast (upd mtext mlen.toNatClampNeg (vp_nar .char (((x1 : Int32).toUInt32 % 65536).toInt32))) mread)) X Z 3 rfl b4 rfl dX7_append_48 (fun H locs Z => ?_)
        refine lv_aload_n X.x X.b dX7_append_49 rfl (lv_at hl 0 rfl) ?_
        refine lv_dup X.x X.b dX7_append_50 rfl ?_
        refine z_gf inG_X7 (ci := 7) rfl 5 (Nat.le_of_ble_eq_true rfl) rfl X Z wd_827 0 rfl (v := .int mlen) rfl dX7_append_51 ?_
        refine lv_iconst (v := 1) X.x X.b dX7_append_54 ki_1 ?_
        refine lv_iadd X.x X.b dX7_append_55 ?_
        refine z_pf (w' := (wX7 Δ ad q2.2 saved (mlen + 1) spot reads hash ms mpast (upd mtext mlen.toNatClampNeg (vp_nar .char (((x1 : Int32).toUInt32 % 65536).toInt32))) mread)) inG_X7 (ci := 7) rfl tyX7 tyX7_ok nmX7 5 (Nat.le_of_ble_eq_true rfl) rfl rfl X Z wd_827 0 rfl rfl rfl (Nat.le_of_ble_eq_true rfl) rfl dX7_append_56 (fun H locs Z => ?_)
        refine lv_aload_n X.x X.b dX7_append_59 rfl (lv_at hl 0 rfl) ?_
        refine z_gf inG_X7 (ci := 7) rfl 5 (Nat.le_of_ble_eq_true rfl) rfl X Z wd_827 0 rfl (v := .int (mlen + 1)) rfl dX7_append_60 ?_
        cases hf
        exact z_iret X Z dX7_append_63
      · have hf := zif_f b3 hf
        refine lv_iconst (v := 0) X.x X.b dX7_append_36 ki_0 ?_
        cases hf
        exact z_iret X Z dX7_append_37
    · have hf := zif_t b2 hf
      refine lv_iconst (v := 2) X.x X.b dX7_append_25 ki_2 ?_
      refine lv_goto (tgt := 30) X.x X.b dX7_append_26 (by decide) ?_
      obtain ⟨q3, hq3, hf⟩ := zb_ok hf
      refine z_callV X Z hl (mX7_refuses l Δ ad thr saved mlen spot reads hash ms mpast mtext mread 2 hq3) wd_862 wd_864 wd_18 wd_68 wd_865 ok_X7_refuses 7 rfl 0 rfl (w' := (wX7 Δ ad q3.2 saved mlen spot reads hash ms mpast mtext mread)) su_16 fs_16 pu_16 rfl (rest := []) rfl (Nat.le_of_ble_eq_true rfl) ⟨Nat.le_of_ble_eq_true rfl, Nat.le_of_ble_eq_true rfl⟩ ⟨Nat.zero_le _, Nat.zero_le _⟩ (st1 := [.int q3.1]) rfl dX7_append_30 (fun H locs Z => ?_)
      refine lv_if_eq (tgt := 38) X.x X.b dX7_append_33 (by decide) (fun b5 => ?_) (fun b5 => ?_)
      · have hf := zif_t b5 hf
        refine lv_aload_n X.x X.b dX7_append_38 rfl (lv_at hl 0 rfl) ?_
        refine z_gf inG_X7 (ci := 7) rfl 4 (Nat.le_of_ble_eq_true rfl) rfl X Z wd_826 0 rfl (v := .ref (ad 3)) rfl dX7_append_39 ?_
        refine lv_aload_n X.x X.b dX7_append_42 rfl (lv_at hl 0 rfl) ?_
        refine z_gf inG_X7 (ci := 7) rfl 5 (Nat.le_of_ble_eq_true rfl) rfl X Z wd_827 0 rfl (v := .int mlen) rfl dX7_append_43 ?_
        refine lv_iload_n X.x X.b dX7_append_46 rfl (lv_at hl 1 rfl) ?_
        refine lv_i2c (v := ((x1 : Int32).toUInt32 % 65536).toInt32) X.x X.b dX7_append_47 rfl ?_
        obtain ⟨b6, hf⟩ := zg_in hf
        refine z_cast (w' := (wX7 Δ ad q3.2 saved mlen spot reads hash ms mpast (upd mtext mlen.toNatClampNeg (vp_nar .char (((x1 : Int32).toUInt32 % 65536).toInt32))) mread)) X Z 3 rfl b6 rfl dX7_append_48 (fun H locs Z => ?_)
        refine lv_aload_n X.x X.b dX7_append_49 rfl (lv_at hl 0 rfl) ?_
        refine lv_dup X.x X.b dX7_append_50 rfl ?_
        refine z_gf inG_X7 (ci := 7) rfl 5 (Nat.le_of_ble_eq_true rfl) rfl X Z wd_827 0 rfl (v := .int mlen) rfl dX7_append_51 ?_
        refine lv_iconst (v := 1) X.x X.b dX7_append_54 ki_1 ?_
        refine lv_iadd X.x X.b dX7_append_55 ?_
        refine z_pf (w' := (wX7 Δ ad q3.2 saved (mlen + 1) spot reads hash ms mpast (upd mtext mlen.toNatClampNeg (vp_nar .char (((x1 : Int32).toUInt32 % 65536).toInt32))) mread)) inG_X7 (ci := 7) rfl tyX7 tyX7_ok nmX7 5 (Nat.le_of_ble_eq_true rfl) rfl rfl X Z wd_827 0 rfl rfl rfl (Nat.le_of_ble_eq_true rfl) rfl dX7_append_56 (fun H locs Z => ?_)
        refine lv_aload_n X.x X.b dX7_append_59 rfl (lv_at hl 0 rfl) ?_
        refine z_gf inG_X7 (ci := 7) rfl 5 (Nat.le_of_ble_eq_true rfl) rfl X Z wd_827 0 rfl (v := .int (mlen + 1)) rfl dX7_append_60 ?_
        cases hf
        exact z_iret X Z dX7_append_63
      · have hf := zif_f b5 hf
        refine lv_iconst (v := 0) X.x X.b dX7_append_36 ki_0 ?_
        cases hf
        exact z_iret X Z dX7_append_37
  · have hf := zif_t b1 hf
    refine lv_iconst (v := 1) X.x X.b dX7_append_12 ki_1 ?_
    refine lv_goto (tgt := 30) X.x X.b dX7_append_13 (by decide) ?_
    obtain ⟨q4, hq4, hf⟩ := zb_ok hf
    refine z_callV X Z hl (mX7_refuses l Δ ad thr saved mlen spot reads hash ms mpast mtext mread 1 hq4) wd_862 wd_864 wd_18 wd_68 wd_865 ok_X7_refuses 7 rfl 0 rfl (w' := (wX7 Δ ad q4.2 saved mlen spot reads hash ms mpast mtext mread)) su_16 fs_16 pu_16 rfl (rest := []) rfl (Nat.le_of_ble_eq_true rfl) ⟨Nat.le_of_ble_eq_true rfl, Nat.le_of_ble_eq_true rfl⟩ ⟨Nat.zero_le _, Nat.zero_le _⟩ (st1 := [.int q4.1]) rfl dX7_append_30 (fun H locs Z => ?_)
    refine lv_if_eq (tgt := 38) X.x X.b dX7_append_33 (by decide) (fun b7 => ?_) (fun b7 => ?_)
    · have hf := zif_t b7 hf
      refine lv_aload_n X.x X.b dX7_append_38 rfl (lv_at hl 0 rfl) ?_
      refine z_gf inG_X7 (ci := 7) rfl 4 (Nat.le_of_ble_eq_true rfl) rfl X Z wd_826 0 rfl (v := .ref (ad 3)) rfl dX7_append_39 ?_
      refine lv_aload_n X.x X.b dX7_append_42 rfl (lv_at hl 0 rfl) ?_
      refine z_gf inG_X7 (ci := 7) rfl 5 (Nat.le_of_ble_eq_true rfl) rfl X Z wd_827 0 rfl (v := .int mlen) rfl dX7_append_43 ?_
      refine lv_iload_n X.x X.b dX7_append_46 rfl (lv_at hl 1 rfl) ?_
      refine lv_i2c (v := ((x1 : Int32).toUInt32 % 65536).toInt32) X.x X.b dX7_append_47 rfl ?_
      obtain ⟨b8, hf⟩ := zg_in hf
      refine z_cast (w' := (wX7 Δ ad q4.2 saved mlen spot reads hash ms mpast (upd mtext mlen.toNatClampNeg (vp_nar .char (((x1 : Int32).toUInt32 % 65536).toInt32))) mread)) X Z 3 rfl b8 rfl dX7_append_48 (fun H locs Z => ?_)
      refine lv_aload_n X.x X.b dX7_append_49 rfl (lv_at hl 0 rfl) ?_
      refine lv_dup X.x X.b dX7_append_50 rfl ?_
      refine z_gf inG_X7 (ci := 7) rfl 5 (Nat.le_of_ble_eq_true rfl) rfl X Z wd_827 0 rfl (v := .int mlen) rfl dX7_append_51 ?_
      refine lv_iconst (v := 1) X.x X.b dX7_append_54 ki_1 ?_
      refine lv_iadd X.x X.b dX7_append_55 ?_
      refine z_pf (w' := (wX7 Δ ad q4.2 saved (mlen + 1) spot reads hash ms mpast (upd mtext mlen.toNatClampNeg (vp_nar .char (((x1 : Int32).toUInt32 % 65536).toInt32))) mread)) inG_X7 (ci := 7) rfl tyX7 tyX7_ok nmX7 5 (Nat.le_of_ble_eq_true rfl) rfl rfl X Z wd_827 0 rfl rfl rfl (Nat.le_of_ble_eq_true rfl) rfl dX7_append_56 (fun H locs Z => ?_)
      refine lv_aload_n X.x X.b dX7_append_59 rfl (lv_at hl 0 rfl) ?_
      refine z_gf inG_X7 (ci := 7) rfl 5 (Nat.le_of_ble_eq_true rfl) rfl X Z wd_827 0 rfl (v := .int (mlen + 1)) rfl dX7_append_60 ?_
      cases hf
      exact z_iret X Z dX7_append_63
    · have hf := zif_f b7 hf
      refine lv_iconst (v := 0) X.x X.b dX7_append_36 ki_0 ?_
      cases hf
      exact z_iret X Z dX7_append_37
set_option maxRecDepth 100000 in
set_option maxHeartbeats 4000000 in
theorem mX7_clearBuffer (l : Launch) (Δ : zE) (ad : Nat → Nat) (thr : Int32) (saved : Int32) (mlen : Int32) (spot : Int32) (reads : Int32) (hash : Int64) (ms : Nat → Int32) (mpast : Nat → Int32) (mtext : Nat → Int32) (mread : Nat → Int32)  {res : Int32 × Int32 × Int32} (hf : fX7_clearBuffer thr mlen = some res) : zMet l Δ yX7_clearBuffer cX7_clearBuffer 2 (some .int) 0 0 [.ref (ad 0)] (wX7 Δ ad thr saved mlen spot reads hash ms mpast mtext mread) (wX7 Δ ad res.2.1 saved res.2.2 spot reads hash ms mpast mtext mread) (some (.int res.1)) := by
  refine z_start (by decide +kernel) (Nat.le_of_ble_eq_true rfl) ?_
  intro p e s m args below meth c A ls X Z hl
  have hl : lv_has ls 2 [(0, .ref (ad 0))] := hl
  rw [fX7_clearBuffer.eq_1] at hf
  refine lv_aload_n X.x X.b dX7_clearBuffer_0 rfl (lv_at hl 0 rfl) ?_
  refine lv_iconst (v := 0) X.x X.b dX7_clearBuffer_1 ki_0 ?_
  refine z_pf (w' := (wX7 Δ ad 0 saved mlen spot reads hash ms mpast mtext mread)) inG_X7 (ci := 7) rfl tyX7 tyX7_ok nmX7 0 (Nat.le_of_ble_eq_true rfl) rfl rfl X Z wd_822 0 rfl rfl rfl (Nat.le_of_ble_eq_true rfl) rfl dX7_clearBuffer_2 (fun H locs Z => ?_)
  refine lv_aload_n X.x X.b dX7_clearBuffer_5 rfl (lv_at hl 0 rfl) ?_
  refine z_gf inG_X7 (ci := 7) rfl 5 (Nat.le_of_ble_eq_true rfl) rfl X Z wd_827 0 rfl (v := .int mlen) rfl dX7_clearBuffer_6 ?_
  refine lv_istore_n (lv' := [(1, .int mlen), (0, .ref (ad 0))]) X.x X.b dX7_clearBuffer_9 rfl hl (Nat.le_of_ble_eq_true rfl) rfl (fun ls hl => ?_)
  refine lv_aload_n X.x X.b dX7_clearBuffer_10 rfl (lv_at hl 1 rfl) ?_
  refine lv_iconst (v := 0) X.x X.b dX7_clearBuffer_11 ki_0 ?_
  refine z_pf (w' := (wX7 Δ ad 0 saved 0 spot reads hash ms mpast mtext mread)) inG_X7 (ci := 7) rfl tyX7 tyX7_ok nmX7 5 (Nat.le_of_ble_eq_true rfl) rfl rfl X Z wd_827 0 rfl rfl rfl (Nat.le_of_ble_eq_true rfl) rfl dX7_clearBuffer_12 (fun H locs Z => ?_)
  refine lv_iload_n X.x X.b dX7_clearBuffer_15 rfl (lv_at hl 0 rfl) ?_
  cases hf
  exact z_iret X Z dX7_clearBuffer_16
set_option maxRecDepth 100000 in
set_option maxHeartbeats 4000000 in
theorem mX7_sees (l : Launch) (Δ : zE) (ad : Nat → Nat) (thr : Int32) (saved : Int32) (mlen : Int32) (spot : Int32) (reads : Int32) (hash : Int64) (ms : Nat → Int32) (mpast : Nat → Int32) (mtext : Nat → Int32) (mread : Nat → Int32) (x1 : Int32) (x2 : Int32) {res : Int32} (hf : fX7_sees mlen spot mtext x1 x2 = some res) : zMet l Δ yX7_sees cX7_sees 3 (some .boolean) 1 22 [.ref (ad 0), .int x1, .int x2] (wX7 Δ ad thr saved mlen spot reads hash ms mpast mtext mread) (wX7 Δ ad thr saved mlen spot reads hash ms mpast mtext mread) (some (.int res)) := by
  refine z_start (by decide +kernel) (Nat.le_of_ble_eq_true rfl) ?_
  intro p e s m args below meth c A ls X Z hl
  have hl : lv_has ls 3 [(0, .ref (ad 0)), (1, .int x1), (2, .int x2)] := hl
  rw [fX7_sees.eq_1] at hf
  refine lv_aload_n X.x X.b dX7_sees_0 rfl (lv_at hl 0 rfl) ?_
  refine z_gf inG_X7 (ci := 7) rfl 6 (Nat.le_of_ble_eq_true rfl) rfl X Z wd_828 0 rfl (v := .int spot) rfl dX7_sees_1 ?_
  refine lv_aload_n X.x X.b dX7_sees_4 rfl (lv_at hl 0 rfl) ?_
  refine z_gf inG_X7 (ci := 7) rfl 5 (Nat.le_of_ble_eq_true rfl) rfl X Z wd_827 0 rfl (v := .int mlen) rfl dX7_sees_5 ?_
  refine lv_icmp_ge (tgt := 32) X.x X.b dX7_sees_8 (by decide) (fun b1 => ?_) (fun b1 => ?_)
  · have hf := zif_t b1 hf
    refine lv_iconst (v := 0) X.x X.b dX7_sees_32 ki_0 ?_
    cases hf
    exact z_zret X Z (Or.inl rfl) dX7_sees_33
  · have hf := zif_f b1 hf
    refine lv_aload_n X.x X.b dX7_sees_11 rfl (lv_at hl 0 rfl) ?_
    refine z_gf inG_X7 (ci := 7) rfl 4 (Nat.le_of_ble_eq_true rfl) rfl X Z wd_826 0 rfl (v := .ref (ad 3)) rfl dX7_sees_12 ?_
    refine lv_aload_n X.x X.b dX7_sees_15 rfl (lv_at hl 0 rfl) ?_
    refine z_gf inG_X7 (ci := 7) rfl 6 (Nat.le_of_ble_eq_true rfl) rfl X Z wd_828 0 rfl (v := .int spot) rfl dX7_sees_16 ?_
    obtain ⟨b2, hf⟩ := zg_in hf
    refine z_cald X Z 3 rfl b2 dX7_sees_19 ?_
    refine lv_iload_n X.x X.b dX7_sees_20 rfl (lv_at hl 1 rfl) ?_
    refine lv_iload_n X.x X.b dX7_sees_21 rfl (lv_at hl 2 rfl) ?_
    obtain ⟨q1, hq1, hf⟩ := zb_ok hf
    refine z_callS X Z hl (mX7_in l Δ  (mtext spot.toNatClampNeg) x1 x2 hq1) wd_870 wd_871 wd_68 wd_872 ok_X7_in (w' := (wX7 Δ ad thr saved mlen spot reads hash ms mpast mtext mread)) zSub_nil rfl zput_nil rfl (rest := []) rfl (Nat.le_of_ble_eq_true rfl) ⟨Nat.le_of_ble_eq_true rfl, Nat.le_of_ble_eq_true rfl⟩ ⟨Nat.zero_le _, Nat.zero_le _⟩ (st1 := [.int q1]) rfl dX7_sees_22 (fun H locs Z => ?_)
    refine lv_if_eq (tgt := 32) X.x X.b dX7_sees_25 (by decide) (fun b3 => ?_) (fun b3 => ?_)
    · have hf := zif_t b3 hf
      refine lv_iconst (v := 0) X.x X.b dX7_sees_32 ki_0 ?_
      cases hf
      exact z_zret X Z (Or.inl rfl) dX7_sees_33
    · have hf := zif_f b3 hf
      refine lv_iconst (v := 1) X.x X.b dX7_sees_28 ki_1 ?_
      refine lv_goto (tgt := 33) X.x X.b dX7_sees_29 (by decide) ?_
      cases hf
      exact z_zret X Z (Or.inr rfl) dX7_sees_33
set_option maxRecDepth 100000 in
set_option maxHeartbeats 4000000 in
theorem mX7_takes (l : Launch) (Δ : zE) (ad : Nat → Nat) (thr : Int32) (saved : Int32) (mlen : Int32) (spot : Int32) (reads : Int32) (hash : Int64) (ms : Nat → Int32) (mpast : Nat → Int32) (mtext : Nat → Int32) (mread : Nat → Int32) (x1 : Int32) {res : Int32 × Int32} (hf : fX7_takes mlen spot mtext x1 = some res) : zMet l Δ yX7_takes cX7_takes 3 (some .boolean) 2 44 [.ref (ad 0), .int x1] (wX7 Δ ad thr saved mlen spot reads hash ms mpast mtext mread) (wX7 Δ ad thr saved mlen res.2 reads hash ms mpast mtext mread) (some (.int res.1)) := by
  refine z_start (by decide +kernel) (Nat.le_of_ble_eq_true rfl) ?_
  intro p e s m args below meth c A ls X Z hl
  have hl : lv_has ls 3 [(0, .ref (ad 0)), (1, .int x1)] := hl
  rw [fX7_takes.eq_1] at hf
  refine lv_aload_n X.x X.b dX7_takes_0 rfl (lv_at hl 0 rfl) ?_
  refine lv_iload_n X.x X.b dX7_takes_1 rfl (lv_at hl 1 rfl) ?_
  refine lv_iload_n X.x X.b dX7_takes_2 rfl (lv_at hl 1 rfl) ?_
  obtain ⟨q1, hq1, hf⟩ := zb_ok hf
  refine z_callV X Z hl (mX7_sees l Δ ad thr saved mlen spot reads hash ms mpast mtext mread x1 x1 hq1) wd_994 wd_996 wd_37 wd_68 wd_997 ok_X7_sees 7 rfl 0 rfl (w' := (wX7 Δ ad thr saved mlen spot reads hash ms mpast mtext mread)) su_16 fs_16 pu_16 rfl (rest := []) rfl (Nat.le_of_ble_eq_true rfl) ⟨Nat.le_of_ble_eq_true rfl, Nat.le_of_ble_eq_true rfl⟩ ⟨Nat.zero_le _, Nat.zero_le _⟩ (st1 := [.int q1]) rfl dX7_takes_3 (fun H locs Z => ?_)
  refine lv_istore_n (lv' := [(2, .int q1), (0, .ref (ad 0)), (1, .int x1)]) X.x X.b dX7_takes_6 rfl hl (Nat.le_of_ble_eq_true rfl) rfl (fun ls hl => ?_)
  refine lv_aload_n X.x X.b dX7_takes_7 rfl (lv_at hl 1 rfl) ?_
  refine lv_dup X.x X.b dX7_takes_8 rfl ?_
  refine z_gf inG_X7 (ci := 7) rfl 6 (Nat.le_of_ble_eq_true rfl) rfl X Z wd_828 0 rfl (v := .int spot) rfl dX7_takes_9 ?_
  refine lv_iload_n X.x X.b dX7_takes_12 rfl (lv_at hl 0 rfl) ?_
  refine lv_if_eq (tgt := 20) X.x X.b dX7_takes_13 (by decide) (fun b1 => ?_) (fun b1 => ?_)
  · have hf := zif_t b1 hf
    refine lv_iconst (v := 0) X.x X.b dX7_takes_20 ki_0 ?_
    refine lv_iadd X.x X.b dX7_takes_21 ?_
    refine z_pf (w' := (wX7 Δ ad thr saved mlen (spot + 0) reads hash ms mpast mtext mread)) inG_X7 (ci := 7) rfl tyX7 tyX7_ok nmX7 6 (Nat.le_of_ble_eq_true rfl) rfl rfl X Z wd_828 0 rfl rfl rfl (Nat.le_of_ble_eq_true rfl) rfl dX7_takes_22 (fun H locs Z => ?_)
    refine lv_iload_n X.x X.b dX7_takes_25 rfl (lv_at hl 0 rfl) ?_
    obtain ⟨b2, hf⟩ := zg_bo hf
    cases hf
    exact z_zret X Z b2 dX7_takes_26
  · have hf := zif_f b1 hf
    refine lv_iconst (v := 1) X.x X.b dX7_takes_16 ki_1 ?_
    refine lv_goto (tgt := 21) X.x X.b dX7_takes_17 (by decide) ?_
    refine lv_iadd X.x X.b dX7_takes_21 ?_
    refine z_pf (w' := (wX7 Δ ad thr saved mlen (spot + 1) reads hash ms mpast mtext mread)) inG_X7 (ci := 7) rfl tyX7 tyX7_ok nmX7 6 (Nat.le_of_ble_eq_true rfl) rfl rfl X Z wd_828 0 rfl rfl rfl (Nat.le_of_ble_eq_true rfl) rfl dX7_takes_22 (fun H locs Z => ?_)
    refine lv_iload_n X.x X.b dX7_takes_25 rfl (lv_at hl 0 rfl) ?_
    obtain ⟨b3, hf⟩ := zg_bo hf
    cases hf
    exact z_zret X Z b3 dX7_takes_26
set_option maxRecDepth 100000 in
set_option maxHeartbeats 4000000 in
theorem mX7_readsPlots (l : Launch) (Δ : zE) (ad : Nat → Nat) (thr : Int32) (saved : Int32) (mlen : Int32) (spot : Int32) (reads : Int32) (hash : Int64) (ms : Nat → Int32) (mpast : Nat → Int32) (mtext : Nat → Int32) (mread : Nat → Int32)  {res : Int32 × Int32} (hf : fX7_readsPlots mlen spot mtext = some res) : zMet l Δ yX7_readsPlots cX7_readsPlots 3 (some .int) 2 44 [.ref (ad 0)] (wX7 Δ ad thr saved mlen spot reads hash ms mpast mtext mread) (wX7 Δ ad thr saved mlen res.2 reads hash ms mpast mtext mread) (some (.int res.1)) := by
  refine z_start (by decide +kernel) (Nat.le_of_ble_eq_true rfl) ?_
  intro p e s m args below meth c A ls X Z hl
  have hl : lv_has ls 3 [(0, .ref (ad 0))] := hl
  have L4 : ∀ (k : Nat) (mlen : Int32) (spot : Int32) (mtext : Nat → Int32) (v1 : Int32) (v2 : Int32), fX7_readsPlots_4 k mlen spot mtext v1 v2 = some res → ∀ (H : Heap) (locs : List Loc) (ls : Array Slot), zW Δ A s.heap (wX7 Δ ad thr saved mlen spot reads hash ms mpast mtext mread) H locs → lv_has ls 3 [(0, .ref (ad 0)), (1, .int v1), (2, .int v2)] → W p l e { frames := 2, cells := 0, slots := 0, locals := 44 } s m args below meth c H locs 0 0 (zEnd Δ below args s 0 0 A (some (.int res.1)) (wX7 Δ ad thr saved mlen res.2 reads hash ms mpast mtext mread)) (F0 m 4 ls []) := by
    intro k
    induction k with
    | zero =>
      intro mlen spot mtext v1 v2 hf
      rw [fX7_readsPlots_4.eq_1] at hf
      cases hf
    | succ k ih =>
      intro mlen spot mtext v1 v2 hf H locs ls Z hl
      rw [fX7_readsPlots_4.eq_2] at hf
      refine lv_aload_n X.x X.b dX7_readsPlots_4 rfl (lv_at hl 0 rfl) ?_
      refine lv_bipush (v := 48) X.x X.b dX7_readsPlots_5 kb_48 ?_
      refine lv_iload_n X.x X.b dX7_readsPlots_7 rfl (lv_at hl 2 rfl) ?_
      refine lv_iadd X.x X.b dX7_readsPlots_8 ?_
      refine lv_bipush (v := 53) X.x X.b dX7_readsPlots_9 kb_53 ?_
      obtain ⟨q1, hq1, hf⟩ := zb_ok hf
      refine z_callV X Z hl (mX7_sees l Δ ad thr saved mlen spot reads hash ms mpast mtext mread (48 + v2) 53 hq1) wd_994 wd_996 wd_37 wd_68 wd_997 ok_X7_sees 7 rfl 0 rfl (w' := (wX7 Δ ad thr saved mlen spot reads hash ms mpast mtext mread)) su_16 fs_16 pu_16 rfl (rest := []) rfl (Nat.le_of_ble_eq_true rfl) ⟨Nat.le_of_ble_eq_true rfl, Nat.le_of_ble_eq_true rfl⟩ ⟨Nat.zero_le _, Nat.zero_le _⟩ (st1 := [.int q1]) rfl dX7_readsPlots_11 (fun H locs Z => ?_)
      refine lv_if_eq (tgt := 53) X.x X.b dX7_readsPlots_14 (by decide) (fun b1 => ?_) (fun b1 => ?_)
      · have hf := zif_t b1 hf
        refine lv_iload_n X.x X.b dX7_readsPlots_53 rfl (lv_at hl 1 rfl) ?_
        cases hf
        exact z_iret X Z dX7_readsPlots_54
      · have hf := zif_f b1 hf
        refine lv_aload_n X.x X.b dX7_readsPlots_17 rfl (lv_at hl 0 rfl) ?_
        refine z_gf inG_X7 (ci := 7) rfl 4 (Nat.le_of_ble_eq_true rfl) rfl X Z wd_826 0 rfl (v := .ref (ad 3)) rfl dX7_readsPlots_18 ?_
        refine lv_aload_n X.x X.b dX7_readsPlots_21 rfl (lv_at hl 0 rfl) ?_
        refine z_gf inG_X7 (ci := 7) rfl 6 (Nat.le_of_ble_eq_true rfl) rfl X Z wd_828 0 rfl (v := .int spot) rfl dX7_readsPlots_22 ?_
        obtain ⟨b2, hf⟩ := zg_in hf
        refine z_cald X Z 3 rfl b2 dX7_readsPlots_25 ?_
        refine lv_bipush (v := 48) X.x X.b dX7_readsPlots_26 kb_48 ?_
        refine lv_isub X.x X.b dX7_readsPlots_28 ?_
        refine lv_iconst (v := 1) X.x X.b dX7_readsPlots_29 ki_1 ?_
        refine lv_iadd X.x X.b dX7_readsPlots_30 ?_
        refine lv_istore_n (lv' := [(2, .int (((mtext spot.toNatClampNeg) - 48) + 1)), (0, .ref (ad 0)), (1, .int v1)]) X.x X.b dX7_readsPlots_31 rfl hl (Nat.le_of_ble_eq_true rfl) rfl (fun ls hl => ?_)
        refine lv_iload_n X.x X.b dX7_readsPlots_32 rfl (lv_at hl 2 rfl) ?_
        refine lv_iconst (v := 1) X.x X.b dX7_readsPlots_33 ki_1 ?_
        refine lv_iload_n X.x X.b dX7_readsPlots_34 rfl (lv_at hl 0 rfl) ?_
        refine lv_iconst (v := 1) X.x X.b dX7_readsPlots_35 ki_1 ?_
        refine lv_isub X.x X.b dX7_readsPlots_36 ?_
        refine lv_ishl X.x X.b dX7_readsPlots_37 ?_
        refine lv_ior X.x X.b dX7_readsPlots_38 ?_
        refine lv_istore_n (lv' := [(1, .int (v1 ||| ((1 : Int32) <<< (((((mtext spot.toNatClampNeg) - 48) + 1) - 1) &&& 31)))), (2, .int (((mtext spot.toNatClampNeg) - 48) + 1)), (0, .ref (ad 0))]) X.x X.b dX7_readsPlots_39 rfl hl (Nat.le_of_ble_eq_true rfl) rfl (fun ls hl => ?_)
        refine lv_aload_n X.x X.b dX7_readsPlots_40 rfl (lv_at hl 2 rfl) ?_
        refine lv_dup X.x X.b dX7_readsPlots_41 rfl ?_
        refine z_gf inG_X7 (ci := 7) rfl 6 (Nat.le_of_ble_eq_true rfl) rfl X Z wd_828 0 rfl (v := .int spot) rfl dX7_readsPlots_42 ?_
        refine lv_iconst (v := 1) X.x X.b dX7_readsPlots_45 ki_1 ?_
        refine lv_iadd X.x X.b dX7_readsPlots_46 ?_
        refine z_pf (w' := (wX7 Δ ad thr saved mlen (spot + 1) reads hash ms mpast mtext mread)) inG_X7 (ci := 7) rfl tyX7 tyX7_ok nmX7 6 (Nat.le_of_ble_eq_true rfl) rfl rfl X Z wd_828 0 rfl rfl rfl (Nat.le_of_ble_eq_true rfl) rfl dX7_readsPlots_47 (fun H locs Z => ?_)
        refine lv_goto (tgt := 4) X.x X.b dX7_readsPlots_50 (by decide) ?_
        exact ih mlen (spot + 1) mtext (v1 ||| ((1 : Int32) <<< (((((mtext spot.toNatClampNeg) - 48) + 1) - 1) &&& 31))) (((mtext spot.toNatClampNeg) - 48) + 1) hf _ _ _ Z (lv_sub hl [2, 0, 1] rfl)
  rw [fX7_readsPlots.eq_1] at hf
  refine lv_iconst (v := 0) X.x X.b dX7_readsPlots_0 ki_0 ?_
  refine lv_istore_n (lv' := [(1, .int 0), (0, .ref (ad 0))]) X.x X.b dX7_readsPlots_1 rfl hl (Nat.le_of_ble_eq_true rfl) rfl (fun ls hl => ?_)
  refine lv_iconst (v := 0) X.x X.b dX7_readsPlots_2 ki_0 ?_
  refine lv_istore_n (lv' := [(2, .int 0), (1, .int 0), (0, .ref (ad 0))]) X.x X.b dX7_readsPlots_3 rfl hl (Nat.le_of_ble_eq_true rfl) rfl (fun ls hl => ?_)
  exact L4 zfuel mlen spot mtext 0 0 hf _ _ _ Z (lv_sub hl [2, 1, 0] rfl)
set_option maxRecDepth 100000 in
set_option maxHeartbeats 4000000 in
theorem mX7_readsCliff (l : Launch) (Δ : zE) (ad : Nat → Nat) (thr : Int32) (saved : Int32) (mlen : Int32) (spot : Int32) (reads : Int32) (hash : Int64) (ms : Nat → Int32) (mpast : Nat → Int32) (mtext : Nat → Int32) (mread : Nat → Int32) (x1 : Int32) {res : Int32 × Int32} (hf : fX7_readsCliff mlen spot mtext x1 = some res) : zMet l Δ yX7_readsCliff cX7_readsCliff 3 (some .int) 2 44 [.ref (ad 0), .int x1] (wX7 Δ ad thr saved mlen spot reads hash ms mpast mtext mread) (wX7 Δ ad thr saved mlen res.2 reads hash ms mpast mtext mread) (some (.int res.1)) := by
  refine z_start (by decide +kernel) (Nat.le_of_ble_eq_true rfl) ?_
  intro p e s m args below meth c A ls X Z hl
  have hl : lv_has ls 3 [(0, .ref (ad 0)), (1, .int x1)] := hl
  rw [fX7_readsCliff.eq_1] at hf
  refine lv_aload_n X.x X.b dX7_readsCliff_0 rfl (lv_at hl 0 rfl) ?_
  refine lv_bipush (v := 48) X.x X.b dX7_readsCliff_1 kb_48 ?_
  refine lv_bipush (v := 53) X.x X.b dX7_readsCliff_3 kb_53 ?_
  obtain ⟨q1, hq1, hf⟩ := zb_ok hf
  refine z_callV X Z hl (mX7_sees l Δ ad thr saved mlen spot reads hash ms mpast mtext mread 48 53 hq1) wd_994 wd_996 wd_37 wd_68 wd_997 ok_X7_sees 7 rfl 0 rfl (w' := (wX7 Δ ad thr saved mlen spot reads hash ms mpast mtext mread)) su_16 fs_16 pu_16 rfl (rest := []) rfl (Nat.le_of_ble_eq_true rfl) ⟨Nat.le_of_ble_eq_true rfl, Nat.le_of_ble_eq_true rfl⟩ ⟨Nat.zero_le _, Nat.zero_le _⟩ (st1 := [.int q1]) rfl dX7_readsCliff_5 (fun H locs Z => ?_)
  refine lv_if_eq (tgt := 35) X.x X.b dX7_readsCliff_8 (by decide) (fun b1 => ?_) (fun b1 => ?_)
  · have hf := zif_t b1 hf
    refine lv_iconst (v := 0) X.x X.b dX7_readsCliff_35 ki_0 ?_
    refine lv_istore_n (lv' := [(2, .int 0), (0, .ref (ad 0)), (1, .int x1)]) X.x X.b dX7_readsCliff_36 rfl hl (Nat.le_of_ble_eq_true rfl) rfl (fun ls hl => ?_)
    refine lv_aload_n X.x X.b dX7_readsCliff_37 rfl (lv_at hl 1 rfl) ?_
    refine lv_dup X.x X.b dX7_readsCliff_38 rfl ?_
    refine z_gf inG_X7 (ci := 7) rfl 6 (Nat.le_of_ble_eq_true rfl) rfl X Z wd_828 0 rfl (v := .int spot) rfl dX7_readsCliff_39 ?_
    refine lv_iload_n X.x X.b dX7_readsCliff_42 rfl (lv_at hl 0 rfl) ?_
    refine lv_if_eq (tgt := 50) X.x X.b dX7_readsCliff_43 (by decide) (fun _ => ?_) (fun h => absurd h (by decide))
    refine lv_iconst (v := 0) X.x X.b dX7_readsCliff_50 ki_0 ?_
    refine lv_iadd X.x X.b dX7_readsCliff_51 ?_
    refine z_pf (w' := (wX7 Δ ad thr saved mlen (spot + 0) reads hash ms mpast mtext mread)) inG_X7 (ci := 7) rfl tyX7 tyX7_ok nmX7 6 (Nat.le_of_ble_eq_true rfl) rfl rfl X Z wd_828 0 rfl rfl rfl (Nat.le_of_ble_eq_true rfl) rfl dX7_readsCliff_52 (fun H locs Z => ?_)
    refine lv_iload_n X.x X.b dX7_readsCliff_55 rfl (lv_at hl 0 rfl) ?_
    refine lv_if_eq (tgt := 76) X.x X.b dX7_readsCliff_56 (by decide) (fun _ => ?_) (fun h => absurd h (by decide))
    refine lv_bipush (v := (-2)) X.x X.b dX7_readsCliff_76 kb_m2 ?_
    cases hf
    exact z_iret X Z dX7_readsCliff_78
  · have hf := zif_f b1 hf
    refine lv_iload_n X.x X.b dX7_readsCliff_11 rfl (lv_at hl 1 rfl) ?_
    refine lv_aload_n X.x X.b dX7_readsCliff_12 rfl (lv_at hl 0 rfl) ?_
    refine z_gf inG_X7 (ci := 7) rfl 4 (Nat.le_of_ble_eq_true rfl) rfl X Z wd_826 0 rfl (v := .ref (ad 3)) rfl dX7_readsCliff_13 ?_
    refine lv_aload_n X.x X.b dX7_readsCliff_16 rfl (lv_at hl 0 rfl) ?_
    refine z_gf inG_X7 (ci := 7) rfl 6 (Nat.le_of_ble_eq_true rfl) rfl X Z wd_828 0 rfl (v := .int spot) rfl dX7_readsCliff_17 ?_
    obtain ⟨b2, hf⟩ := zg_in hf
    refine z_cald X Z 3 rfl b2 dX7_readsCliff_20 ?_
    refine lv_bipush (v := 48) X.x X.b dX7_readsCliff_21 kb_48 ?_
    refine lv_isub X.x X.b dX7_readsCliff_23 ?_
    refine lv_ishr X.x X.b dX7_readsCliff_24 ?_
    refine lv_iconst (v := 1) X.x X.b dX7_readsCliff_25 ki_1 ?_
    refine lv_iand X.x X.b dX7_readsCliff_26 ?_
    refine lv_iconst (v := 1) X.x X.b dX7_readsCliff_27 ki_1 ?_
    refine lv_icmp_ne (tgt := 35) X.x X.b dX7_readsCliff_28 (by decide) (fun b3 => ?_) (fun b3 => ?_)
    · have hf := zif_f b3 hf
      refine lv_iconst (v := 0) X.x X.b dX7_readsCliff_35 ki_0 ?_
      refine lv_istore_n (lv' := [(2, .int 0), (0, .ref (ad 0)), (1, .int x1)]) X.x X.b dX7_readsCliff_36 rfl hl (Nat.le_of_ble_eq_true rfl) rfl (fun ls hl => ?_)
      refine lv_aload_n X.x X.b dX7_readsCliff_37 rfl (lv_at hl 1 rfl) ?_
      refine lv_dup X.x X.b dX7_readsCliff_38 rfl ?_
      refine z_gf inG_X7 (ci := 7) rfl 6 (Nat.le_of_ble_eq_true rfl) rfl X Z wd_828 0 rfl (v := .int spot) rfl dX7_readsCliff_39 ?_
      refine lv_iload_n X.x X.b dX7_readsCliff_42 rfl (lv_at hl 0 rfl) ?_
      refine lv_if_eq (tgt := 50) X.x X.b dX7_readsCliff_43 (by decide) (fun _ => ?_) (fun h => absurd h (by decide))
      refine lv_iconst (v := 0) X.x X.b dX7_readsCliff_50 ki_0 ?_
      refine lv_iadd X.x X.b dX7_readsCliff_51 ?_
      refine z_pf (w' := (wX7 Δ ad thr saved mlen (spot + 0) reads hash ms mpast mtext mread)) inG_X7 (ci := 7) rfl tyX7 tyX7_ok nmX7 6 (Nat.le_of_ble_eq_true rfl) rfl rfl X Z wd_828 0 rfl rfl rfl (Nat.le_of_ble_eq_true rfl) rfl dX7_readsCliff_52 (fun H locs Z => ?_)
      refine lv_iload_n X.x X.b dX7_readsCliff_55 rfl (lv_at hl 0 rfl) ?_
      refine lv_if_eq (tgt := 76) X.x X.b dX7_readsCliff_56 (by decide) (fun _ => ?_) (fun h => absurd h (by decide))
      refine lv_bipush (v := (-2)) X.x X.b dX7_readsCliff_76 kb_m2 ?_
      cases hf
      exact z_iret X Z dX7_readsCliff_78
    · have hf := zif_t b3 hf
      refine lv_iconst (v := 1) X.x X.b dX7_readsCliff_31 ki_1 ?_
      refine lv_goto (tgt := 36) X.x X.b dX7_readsCliff_32 (by decide) ?_
      refine lv_istore_n (lv' := [(2, .int 1), (0, .ref (ad 0)), (1, .int x1)]) X.x X.b dX7_readsCliff_36 rfl hl (Nat.le_of_ble_eq_true rfl) rfl (fun ls hl => ?_)
      refine lv_aload_n X.x X.b dX7_readsCliff_37 rfl (lv_at hl 1 rfl) ?_
      refine lv_dup X.x X.b dX7_readsCliff_38 rfl ?_
      refine z_gf inG_X7 (ci := 7) rfl 6 (Nat.le_of_ble_eq_true rfl) rfl X Z wd_828 0 rfl (v := .int spot) rfl dX7_readsCliff_39 ?_
      refine lv_iload_n X.x X.b dX7_readsCliff_42 rfl (lv_at hl 0 rfl) ?_
      refine lv_if_eq (tgt := 50) X.x X.b dX7_readsCliff_43 (by decide) (fun h => absurd h (by decide)) (fun _ => ?_)
      refine lv_iconst (v := 1) X.x X.b dX7_readsCliff_46 ki_1 ?_
      refine lv_goto (tgt := 51) X.x X.b dX7_readsCliff_47 (by decide) ?_
      refine lv_iadd X.x X.b dX7_readsCliff_51 ?_
      refine z_pf (w' := (wX7 Δ ad thr saved mlen (spot + 1) reads hash ms mpast mtext mread)) inG_X7 (ci := 7) rfl tyX7 tyX7_ok nmX7 6 (Nat.le_of_ble_eq_true rfl) rfl rfl X Z wd_828 0 rfl rfl rfl (Nat.le_of_ble_eq_true rfl) rfl dX7_readsCliff_52 (fun H locs Z => ?_)
      refine lv_iload_n X.x X.b dX7_readsCliff_55 rfl (lv_at hl 0 rfl) ?_
      refine lv_if_eq (tgt := 76) X.x X.b dX7_readsCliff_56 (by decide) (fun h => absurd h (by decide)) (fun _ => ?_)
      refine lv_aload_n X.x X.b dX7_readsCliff_59 rfl (lv_at hl 1 rfl) ?_
      refine z_gf inG_X7 (ci := 7) rfl 4 (Nat.le_of_ble_eq_true rfl) rfl X Z wd_826 0 rfl (v := .ref (ad 3)) rfl dX7_readsCliff_60 ?_
      refine lv_aload_n X.x X.b dX7_readsCliff_63 rfl (lv_at hl 1 rfl) ?_
      refine z_gf inG_X7 (ci := 7) rfl 6 (Nat.le_of_ble_eq_true rfl) rfl X Z wd_828 0 rfl (v := .int (spot + 1)) rfl dX7_readsCliff_64 ?_
      refine lv_iconst (v := 1) X.x X.b dX7_readsCliff_67 ki_1 ?_
      refine lv_isub X.x X.b dX7_readsCliff_68 ?_
      obtain ⟨b4, hf⟩ := zg_in hf
      refine z_cald X Z 3 rfl b4 dX7_readsCliff_69 ?_
      refine lv_bipush (v := 48) X.x X.b dX7_readsCliff_70 kb_48 ?_
      refine lv_isub X.x X.b dX7_readsCliff_72 ?_
      refine lv_goto (tgt := 78) X.x X.b dX7_readsCliff_73 (by decide) ?_
      cases hf
      exact z_iret X Z dX7_readsCliff_78
set_option maxRecDepth 100000 in
set_option maxHeartbeats 4000000 in
theorem mX7_readsWords (l : Launch) (Δ : zE) (ad : Nat → Nat) (thr : Int32) (saved : Int32) (mlen : Int32) (spot : Int32) (reads : Int32) (hash : Int64) (ms : Nat → Int32) (mpast : Nat → Int32) (mtext : Nat → Int32) (mread : Nat → Int32)  {res : Int32 × Int32} (hf : fX7_readsWords mlen spot mtext = some res) : zMet l Δ yX7_readsWords cX7_readsWords 2 (some .int) 2 44 [.ref (ad 0)] (wX7 Δ ad thr saved mlen spot reads hash ms mpast mtext mread) (wX7 Δ ad thr saved mlen res.2 reads hash ms mpast mtext mread) (some (.int res.1)) := by
  refine z_start (by decide +kernel) (Nat.le_of_ble_eq_true rfl) ?_
  intro p e s m args below meth c A ls X Z hl
  have hl : lv_has ls 2 [(0, .ref (ad 0))] := hl
  rw [fX7_readsWords.eq_1] at hf
  refine lv_aload_n X.x X.b dX7_readsWords_0 rfl (lv_at hl 0 rfl) ?_
  refine lv_bipush (v := 49) X.x X.b dX7_readsWords_1 kb_49 ?_
  refine lv_bipush (v := 57) X.x X.b dX7_readsWords_3 kb_57 ?_
  obtain ⟨q1, hq1, hf⟩ := zb_ok hf
  refine z_callV X Z hl (mX7_sees l Δ ad thr saved mlen spot reads hash ms mpast mtext mread 49 57 hq1) wd_994 wd_996 wd_37 wd_68 wd_997 ok_X7_sees 7 rfl 0 rfl (w' := (wX7 Δ ad thr saved mlen spot reads hash ms mpast mtext mread)) su_16 fs_16 pu_16 rfl (rest := []) rfl (Nat.le_of_ble_eq_true rfl) ⟨Nat.le_of_ble_eq_true rfl, Nat.le_of_ble_eq_true rfl⟩ ⟨Nat.zero_le _, Nat.zero_le _⟩ (st1 := [.int q1]) rfl dX7_readsWords_5 (fun H locs Z => ?_)
  refine lv_if_ne (tgt := 14) X.x X.b dX7_readsWords_8 (by decide) (fun b1 => ?_) (fun b1 => ?_)
  · have hf := zif_f b1 hf
    refine lv_aload_n X.x X.b dX7_readsWords_14 rfl (lv_at hl 0 rfl) ?_
    refine z_gf inG_X7 (ci := 7) rfl 4 (Nat.le_of_ble_eq_true rfl) rfl X Z wd_826 0 rfl (v := .ref (ad 3)) rfl dX7_readsWords_15 ?_
    refine lv_aload_n X.x X.b dX7_readsWords_18 rfl (lv_at hl 0 rfl) ?_
    refine z_gf inG_X7 (ci := 7) rfl 6 (Nat.le_of_ble_eq_true rfl) rfl X Z wd_828 0 rfl (v := .int spot) rfl dX7_readsWords_19 ?_
    obtain ⟨b2, hf⟩ := zg_in hf
    refine z_cald X Z 3 rfl b2 dX7_readsWords_22 ?_
    refine lv_bipush (v := 48) X.x X.b dX7_readsWords_23 kb_48 ?_
    refine lv_isub X.x X.b dX7_readsWords_25 ?_
    refine lv_istore_n (lv' := [(1, .int ((mtext spot.toNatClampNeg) - 48)), (0, .ref (ad 0))]) X.x X.b dX7_readsWords_26 rfl hl (Nat.le_of_ble_eq_true rfl) rfl (fun ls hl => ?_)
    refine lv_aload_n X.x X.b dX7_readsWords_27 rfl (lv_at hl 1 rfl) ?_
    refine lv_dup X.x X.b dX7_readsWords_28 rfl ?_
    refine z_gf inG_X7 (ci := 7) rfl 6 (Nat.le_of_ble_eq_true rfl) rfl X Z wd_828 0 rfl (v := .int spot) rfl dX7_readsWords_29 ?_
    refine lv_iconst (v := 1) X.x X.b dX7_readsWords_32 ki_1 ?_
    refine lv_iadd X.x X.b dX7_readsWords_33 ?_
    refine z_pf (w' := (wX7 Δ ad thr saved mlen (spot + 1) reads hash ms mpast mtext mread)) inG_X7 (ci := 7) rfl tyX7 tyX7_ok nmX7 6 (Nat.le_of_ble_eq_true rfl) rfl rfl X Z wd_828 0 rfl rfl rfl (Nat.le_of_ble_eq_true rfl) rfl dX7_readsWords_34 (fun H locs Z => ?_)
    refine lv_aload_n X.x X.b dX7_readsWords_37 rfl (lv_at hl 1 rfl) ?_
    refine lv_bipush (v := 48) X.x X.b dX7_readsWords_38 kb_48 ?_
    refine lv_bipush (v := 57) X.x X.b dX7_readsWords_40 kb_57 ?_
    obtain ⟨q2, hq2, hf⟩ := zb_ok hf
    refine z_callV X Z hl (mX7_sees l Δ ad thr saved mlen (spot + 1) reads hash ms mpast mtext mread 48 57 hq2) wd_994 wd_996 wd_37 wd_68 wd_997 ok_X7_sees 7 rfl 0 rfl (w' := (wX7 Δ ad thr saved mlen (spot + 1) reads hash ms mpast mtext mread)) su_16 fs_16 pu_16 rfl (rest := []) rfl (Nat.le_of_ble_eq_true rfl) ⟨Nat.le_of_ble_eq_true rfl, Nat.le_of_ble_eq_true rfl⟩ ⟨Nat.zero_le _, Nat.zero_le _⟩ (st1 := [.int q2]) rfl dX7_readsWords_42 (fun H locs Z => ?_)
    refine lv_if_eq (tgt := 76) X.x X.b dX7_readsWords_45 (by decide) (fun b3 => ?_) (fun b3 => ?_)
    · have hf := zif_t b3 hf
      refine lv_iload_n X.x X.b dX7_readsWords_76 rfl (lv_at hl 0 rfl) ?_
      cases hf
      exact z_iret X Z dX7_readsWords_77
    · have hf := zif_f b3 hf
      refine lv_bipush (v := 10) X.x X.b dX7_readsWords_48 kb_10 ?_
      refine lv_iload_n X.x X.b dX7_readsWords_50 rfl (lv_at hl 0 rfl) ?_
      refine lv_imul X.x X.b dX7_readsWords_51 ?_
      refine lv_aload_n X.x X.b dX7_readsWords_52 rfl (lv_at hl 1 rfl) ?_
      refine z_gf inG_X7 (ci := 7) rfl 4 (Nat.le_of_ble_eq_true rfl) rfl X Z wd_826 0 rfl (v := .ref (ad 3)) rfl dX7_readsWords_53 ?_
      refine lv_aload_n X.x X.b dX7_readsWords_56 rfl (lv_at hl 1 rfl) ?_
      refine z_gf inG_X7 (ci := 7) rfl 6 (Nat.le_of_ble_eq_true rfl) rfl X Z wd_828 0 rfl (v := .int (spot + 1)) rfl dX7_readsWords_57 ?_
      obtain ⟨b4, hf⟩ := zg_in hf
      refine z_cald X Z 3 rfl b4 dX7_readsWords_60 ?_
      refine lv_iadd X.x X.b dX7_readsWords_61 ?_
      refine lv_bipush (v := 48) X.x X.b dX7_readsWords_62 kb_48 ?_
      refine lv_isub X.x X.b dX7_readsWords_64 ?_
      refine lv_istore_n (lv' := [(1, .int (((10 * ((mtext spot.toNatClampNeg) - 48)) + (mtext (spot + 1).toNatClampNeg)) - 48)), (0, .ref (ad 0))]) X.x X.b dX7_readsWords_65 rfl hl (Nat.le_of_ble_eq_true rfl) rfl (fun ls hl => ?_)
      refine lv_aload_n X.x X.b dX7_readsWords_66 rfl (lv_at hl 1 rfl) ?_
      refine lv_dup X.x X.b dX7_readsWords_67 rfl ?_
      refine z_gf inG_X7 (ci := 7) rfl 6 (Nat.le_of_ble_eq_true rfl) rfl X Z wd_828 0 rfl (v := .int (spot + 1)) rfl dX7_readsWords_68 ?_
      refine lv_iconst (v := 1) X.x X.b dX7_readsWords_71 ki_1 ?_
      refine lv_iadd X.x X.b dX7_readsWords_72 ?_
      refine z_pf (w' := (wX7 Δ ad thr saved mlen ((spot + 1) + 1) reads hash ms mpast mtext mread)) inG_X7 (ci := 7) rfl tyX7 tyX7_ok nmX7 6 (Nat.le_of_ble_eq_true rfl) rfl rfl X Z wd_828 0 rfl rfl rfl (Nat.le_of_ble_eq_true rfl) rfl dX7_readsWords_73 (fun H locs Z => ?_)
      refine lv_iload_n X.x X.b dX7_readsWords_76 rfl (lv_at hl 0 rfl) ?_
      cases hf
      exact z_iret X Z dX7_readsWords_77
  · have hf := zif_t b1 hf
    refine lv_bipush (v := (-2)) X.x X.b dX7_readsWords_11 kb_m2 ?_
    cases hf
    exact z_iret X Z dX7_readsWords_13
set_option maxRecDepth 100000 in
set_option maxHeartbeats 4000000 in
theorem mX7_readsPart (l : Launch) (Δ : zE) (ad : Nat → Nat) (thr : Int32) (saved : Int32) (mlen : Int32) (spot : Int32) (reads : Int32) (hash : Int64) (ms : Nat → Int32) (mpast : Nat → Int32) (mtext : Nat → Int32) (mread : Nat → Int32)  {res : Int32 × Int32 × Int32 × (Nat → Int32)} (hf : fX7_readsPart mlen spot reads mtext mread = some res) : zMet l Δ yX7_readsPart cX7_readsPart 5 (some .boolean) 3 66 [.ref (ad 0)] (wX7 Δ ad thr saved mlen spot reads hash ms mpast mtext mread) (wX7 Δ ad thr saved mlen res.2.1 res.2.2.1 hash ms mpast mtext res.2.2.2) (some (.int res.1)) := by
  refine z_start (by decide +kernel) (Nat.le_of_ble_eq_true rfl) ?_
  intro p e s m args below meth c A ls X Z hl
  have hl : lv_has ls 5 [(0, .ref (ad 0))] := hl
  rw [fX7_readsPart.eq_1] at hf
  refine lv_aload_n X.x X.b dX7_readsPart_0 rfl (lv_at hl 0 rfl) ?_
  obtain ⟨q1, hq1, hf⟩ := zb_ok hf
  refine z_callV X Z hl (mX7_readsPlots l Δ ad thr saved mlen spot reads hash ms mpast mtext mread hq1) wd_990 wd_992 wd_36 wd_68 wd_993 ok_X7_readsPlots 7 rfl 0 rfl (w' := (wX7 Δ ad thr saved mlen q1.2 reads hash ms mpast mtext mread)) su_16 fs_16 pu_16 rfl (rest := []) rfl (Nat.le_of_ble_eq_true rfl) ⟨Nat.le_of_ble_eq_true rfl, Nat.le_of_ble_eq_true rfl⟩ ⟨Nat.zero_le _, Nat.zero_le _⟩ (st1 := [.int q1.1]) rfl dX7_readsPart_1 (fun H locs Z => ?_)
  refine lv_istore_n (lv' := [(1, .int q1.1), (0, .ref (ad 0))]) X.x X.b dX7_readsPart_4 rfl hl (Nat.le_of_ble_eq_true rfl) rfl (fun ls hl => ?_)
  refine lv_iload_n X.x X.b dX7_readsPart_5 rfl (lv_at hl 0 rfl) ?_
  refine lv_if_le (tgt := 26) X.x X.b dX7_readsPart_6 (by decide) (fun b1 => ?_) (fun b1 => ?_)
  · have hf := zif_t b1 hf
    refine lv_iconst (v := (-1)) X.x X.b dX7_readsPart_26 ki_m1 ?_
    refine lv_istore_n (lv' := [(2, .int (-1)), (1, .int q1.1), (0, .ref (ad 0))]) X.x X.b dX7_readsPart_27 rfl hl (Nat.le_of_ble_eq_true rfl) rfl (fun ls hl => ?_)
    refine lv_iload_n X.x X.b dX7_readsPart_28 rfl (lv_at hl 1 rfl) ?_
    refine lv_if_le (tgt := 54) X.x X.b dX7_readsPart_29 (by decide) (fun b2 => ?_) (fun b2 => ?_)
    · have hf := zif_t b2 hf
      refine lv_bipush (v := 10) X.x X.b dX7_readsPart_54 kb_10 ?_
      refine lv_istore_n (lv' := [(3, .int 10), (2, .int (-1)), (1, .int q1.1), (0, .ref (ad 0))]) X.x X.b dX7_readsPart_56 rfl hl (Nat.le_of_ble_eq_true rfl) rfl (fun ls hl => ?_)
      refine lv_iload_n X.x X.b dX7_readsPart_57 rfl (lv_at hl 2 rfl) ?_
      refine lv_if_le (tgt := 75) X.x X.b dX7_readsPart_58 (by decide) (fun b3 => ?_) (fun b3 => ?_)
      · have hf := zif_t b3 hf
        refine lv_iconst (v := 0) X.x X.b dX7_readsPart_75 ki_0 ?_
        refine lv_istore (lv' := [(4, .int 0), (3, .int 10), (2, .int (-1)), (1, .int q1.1), (0, .ref (ad 0))]) X.x X.b dX7_readsPart_76 hl (Nat.le_of_ble_eq_true rfl) rfl (fun ls hl => ?_)
        refine lv_iload X.x X.b dX7_readsPart_78 (lv_at hl 0 rfl) ?_
        refine lv_if_eq (tgt := 133) X.x X.b dX7_readsPart_80 (by decide) (fun _ => ?_) (fun h => absurd h (by decide))
        refine lv_iload X.x X.b dX7_readsPart_133 (lv_at hl 0 rfl) ?_
        cases hf
        exact z_zret X Z (Or.inl rfl) dX7_readsPart_135
      · have hf := zif_f b3 hf
        refine lv_iload_n X.x X.b dX7_readsPart_61 rfl (lv_at hl 1 rfl) ?_
        refine lv_bipush (v := (-2)) X.x X.b dX7_readsPart_62 kb_m2 ?_
        refine lv_icmp_le (tgt := 75) X.x X.b dX7_readsPart_64 (by decide) (fun h => absurd h (by decide)) (fun _ => ?_)
        refine lv_iload_n X.x X.b dX7_readsPart_67 rfl (lv_at hl 0 rfl) ?_
        refine lv_if_le (tgt := 75) X.x X.b dX7_readsPart_68 (by decide) (fun h => absurd h (by decide)) (fun _ => ?_)
        refine lv_iconst (v := 1) X.x X.b dX7_readsPart_71 ki_1 ?_
        refine lv_goto (tgt := 76) X.x X.b dX7_readsPart_72 (by decide) ?_
        refine lv_istore (lv' := [(4, .int 1), (3, .int 10), (2, .int (-1)), (1, .int q1.1), (0, .ref (ad 0))]) X.x X.b dX7_readsPart_76 hl (Nat.le_of_ble_eq_true rfl) rfl (fun ls hl => ?_)
        refine lv_iload X.x X.b dX7_readsPart_78 (lv_at hl 0 rfl) ?_
        refine lv_if_eq (tgt := 133) X.x X.b dX7_readsPart_80 (by decide) (fun h => absurd h (by decide)) (fun _ => ?_)
        refine lv_aload_n X.x X.b dX7_readsPart_83 rfl (lv_at hl 4 rfl) ?_
        refine z_gf inG_X7 (ci := 7) rfl 7 (Nat.le_of_ble_eq_true rfl) rfl X Z wd_829 0 rfl (v := .ref (ad 4)) rfl dX7_readsPart_84 ?_
        refine lv_iconst (v := 3) X.x X.b dX7_readsPart_87 ki_3 ?_
        refine lv_aload_n X.x X.b dX7_readsPart_88 rfl (lv_at hl 4 rfl) ?_
        refine z_gf inG_X7 (ci := 7) rfl 8 (Nat.le_of_ble_eq_true rfl) rfl X Z wd_830 0 rfl (v := .int reads) rfl dX7_readsPart_89 ?_
        refine lv_imul X.x X.b dX7_readsPart_92 ?_
        refine lv_iload_n X.x X.b dX7_readsPart_93 rfl (lv_at hl 3 rfl) ?_
        obtain ⟨b4, hf⟩ := zg_in hf
        refine z_iast (w' := (wX7 Δ ad thr saved mlen q1.2 reads hash ms mpast mtext (upd mread (3 * reads).toNatClampNeg q1.1))) X Z 4 rfl b4 rfl dX7_readsPart_94 (fun H locs Z => ?_)
        refine lv_aload_n X.x X.b dX7_readsPart_95 rfl (lv_at hl 4 rfl) ?_
        refine z_gf inG_X7 (ci := 7) rfl 7 (Nat.le_of_ble_eq_true rfl) rfl X Z wd_829 0 rfl (v := .ref (ad 4)) rfl dX7_readsPart_96 ?_
        refine lv_iconst (v := 3) X.x X.b dX7_readsPart_99 ki_3 ?_
        refine lv_aload_n X.x X.b dX7_readsPart_100 rfl (lv_at hl 4 rfl) ?_
        refine z_gf inG_X7 (ci := 7) rfl 8 (Nat.le_of_ble_eq_true rfl) rfl X Z wd_830 0 rfl (v := .int reads) rfl dX7_readsPart_101 ?_
        refine lv_imul X.x X.b dX7_readsPart_104 ?_
        refine lv_iconst (v := 1) X.x X.b dX7_readsPart_105 ki_1 ?_
        refine lv_iadd X.x X.b dX7_readsPart_106 ?_
        refine lv_iload_n X.x X.b dX7_readsPart_107 rfl (lv_at hl 2 rfl) ?_
        obtain ⟨b5, hf⟩ := zg_in hf
        refine z_iast (w' := (wX7 Δ ad thr saved mlen q1.2 reads hash ms mpast mtext (upd (upd mread (3 * reads).toNatClampNeg q1.1) ((3 * reads) + 1).toNatClampNeg (-1)))) X Z 4 rfl b5 rfl dX7_readsPart_108 (fun H locs Z => ?_)
        refine lv_aload_n X.x X.b dX7_readsPart_109 rfl (lv_at hl 4 rfl) ?_
        refine z_gf inG_X7 (ci := 7) rfl 7 (Nat.le_of_ble_eq_true rfl) rfl X Z wd_829 0 rfl (v := .ref (ad 4)) rfl dX7_readsPart_110 ?_
        refine lv_iconst (v := 3) X.x X.b dX7_readsPart_113 ki_3 ?_
        refine lv_aload_n X.x X.b dX7_readsPart_114 rfl (lv_at hl 4 rfl) ?_
        refine z_gf inG_X7 (ci := 7) rfl 8 (Nat.le_of_ble_eq_true rfl) rfl X Z wd_830 0 rfl (v := .int reads) rfl dX7_readsPart_115 ?_
        refine lv_imul X.x X.b dX7_readsPart_118 ?_
        refine lv_iconst (v := 2) X.x X.b dX7_readsPart_119 ki_2 ?_
        refine lv_iadd X.x X.b dX7_readsPart_120 ?_
        refine lv_iload_n X.x X.b dX7_readsPart_121 rfl (lv_at hl 1 rfl) ?_
        obtain ⟨b6, hf⟩ := zg_in hf
        refine z_iast (w' := (wX7 Δ ad thr saved mlen q1.2 reads hash ms mpast mtext (upd (upd (upd mread (3 * reads).toNatClampNeg q1.1) ((3 * reads) + 1).toNatClampNeg (-1)) ((3 * reads) + 2).toNatClampNeg 10))) X Z 4 rfl b6 rfl dX7_readsPart_122 (fun H locs Z => ?_)
        refine lv_aload_n X.x X.b dX7_readsPart_123 rfl (lv_at hl 4 rfl) ?_
        refine lv_dup X.x X.b dX7_readsPart_124 rfl ?_
        refine z_gf inG_X7 (ci := 7) rfl 8 (Nat.le_of_ble_eq_true rfl) rfl X Z wd_830 0 rfl (v := .int reads) rfl dX7_readsPart_125 ?_
        refine lv_iconst (v := 1) X.x X.b dX7_readsPart_128 ki_1 ?_
        refine lv_iadd X.x X.b dX7_readsPart_129 ?_
        refine z_pf (w' := (wX7 Δ ad thr saved mlen q1.2 (reads + 1) hash ms mpast mtext (upd (upd (upd mread (3 * reads).toNatClampNeg q1.1) ((3 * reads) + 1).toNatClampNeg (-1)) ((3 * reads) + 2).toNatClampNeg 10))) inG_X7 (ci := 7) rfl tyX7 tyX7_ok nmX7 8 (Nat.le_of_ble_eq_true rfl) rfl rfl X Z wd_830 0 rfl rfl rfl (Nat.le_of_ble_eq_true rfl) rfl dX7_readsPart_130 (fun H locs Z => ?_)
        refine lv_iload X.x X.b dX7_readsPart_133 (lv_at hl 0 rfl) ?_
        cases hf
        exact z_zret X Z (Or.inr rfl) dX7_readsPart_135
    · have hf := zif_f b2 hf
      refine lv_iload_n X.x X.b dX7_readsPart_32 rfl (lv_at hl 0 rfl) ?_
      refine lv_bipush (v := (-2)) X.x X.b dX7_readsPart_33 kb_m2 ?_
      refine lv_icmp_le (tgt := 54) X.x X.b dX7_readsPart_35 (by decide) (fun h => absurd h (by decide)) (fun _ => ?_)
      refine lv_aload_n X.x X.b dX7_readsPart_38 rfl (lv_at hl 2 rfl) ?_
      refine lv_bipush (v := 119) X.x X.b dX7_readsPart_39 kb_119 ?_
      obtain ⟨q2, hq2, hf⟩ := zb_ok hf
      refine z_callV X Z hl (mX7_takes l Δ ad thr saved mlen q1.2 reads hash ms mpast mtext mread 119 hq2) wd_998 wd_1000 wd_38 wd_68 wd_1001 ok_X7_takes 7 rfl 0 rfl (w' := (wX7 Δ ad thr saved mlen q2.2 reads hash ms mpast mtext mread)) su_16 fs_16 pu_16 rfl (rest := []) rfl (Nat.le_of_ble_eq_true rfl) ⟨Nat.le_of_ble_eq_true rfl, Nat.le_of_ble_eq_true rfl⟩ ⟨Nat.zero_le _, Nat.zero_le _⟩ (st1 := [.int q2.1]) rfl dX7_readsPart_41 (fun H locs Z => ?_)
      refine lv_if_eq (tgt := 54) X.x X.b dX7_readsPart_44 (by decide) (fun b7 => ?_) (fun b7 => ?_)
      · have hf := zif_t b7 hf
        refine lv_bipush (v := 10) X.x X.b dX7_readsPart_54 kb_10 ?_
        refine lv_istore_n (lv' := [(3, .int 10), (2, .int (-1)), (1, .int q1.1), (0, .ref (ad 0))]) X.x X.b dX7_readsPart_56 rfl hl (Nat.le_of_ble_eq_true rfl) rfl (fun ls hl => ?_)
        refine lv_iload_n X.x X.b dX7_readsPart_57 rfl (lv_at hl 2 rfl) ?_
        refine lv_if_le (tgt := 75) X.x X.b dX7_readsPart_58 (by decide) (fun b8 => ?_) (fun b8 => ?_)
        · have hf := zif_t b8 hf
          refine lv_iconst (v := 0) X.x X.b dX7_readsPart_75 ki_0 ?_
          refine lv_istore (lv' := [(4, .int 0), (3, .int 10), (2, .int (-1)), (1, .int q1.1), (0, .ref (ad 0))]) X.x X.b dX7_readsPart_76 hl (Nat.le_of_ble_eq_true rfl) rfl (fun ls hl => ?_)
          refine lv_iload X.x X.b dX7_readsPart_78 (lv_at hl 0 rfl) ?_
          refine lv_if_eq (tgt := 133) X.x X.b dX7_readsPart_80 (by decide) (fun _ => ?_) (fun h => absurd h (by decide))
          refine lv_iload X.x X.b dX7_readsPart_133 (lv_at hl 0 rfl) ?_
          cases hf
          exact z_zret X Z (Or.inl rfl) dX7_readsPart_135
        · have hf := zif_f b8 hf
          refine lv_iload_n X.x X.b dX7_readsPart_61 rfl (lv_at hl 1 rfl) ?_
          refine lv_bipush (v := (-2)) X.x X.b dX7_readsPart_62 kb_m2 ?_
          refine lv_icmp_le (tgt := 75) X.x X.b dX7_readsPart_64 (by decide) (fun h => absurd h (by decide)) (fun _ => ?_)
          refine lv_iload_n X.x X.b dX7_readsPart_67 rfl (lv_at hl 0 rfl) ?_
          refine lv_if_le (tgt := 75) X.x X.b dX7_readsPart_68 (by decide) (fun h => absurd h (by decide)) (fun _ => ?_)
          refine lv_iconst (v := 1) X.x X.b dX7_readsPart_71 ki_1 ?_
          refine lv_goto (tgt := 76) X.x X.b dX7_readsPart_72 (by decide) ?_
          refine lv_istore (lv' := [(4, .int 1), (3, .int 10), (2, .int (-1)), (1, .int q1.1), (0, .ref (ad 0))]) X.x X.b dX7_readsPart_76 hl (Nat.le_of_ble_eq_true rfl) rfl (fun ls hl => ?_)
          refine lv_iload X.x X.b dX7_readsPart_78 (lv_at hl 0 rfl) ?_
          refine lv_if_eq (tgt := 133) X.x X.b dX7_readsPart_80 (by decide) (fun h => absurd h (by decide)) (fun _ => ?_)
          refine lv_aload_n X.x X.b dX7_readsPart_83 rfl (lv_at hl 4 rfl) ?_
          refine z_gf inG_X7 (ci := 7) rfl 7 (Nat.le_of_ble_eq_true rfl) rfl X Z wd_829 0 rfl (v := .ref (ad 4)) rfl dX7_readsPart_84 ?_
          refine lv_iconst (v := 3) X.x X.b dX7_readsPart_87 ki_3 ?_
          refine lv_aload_n X.x X.b dX7_readsPart_88 rfl (lv_at hl 4 rfl) ?_
          refine z_gf inG_X7 (ci := 7) rfl 8 (Nat.le_of_ble_eq_true rfl) rfl X Z wd_830 0 rfl (v := .int reads) rfl dX7_readsPart_89 ?_
          refine lv_imul X.x X.b dX7_readsPart_92 ?_
          refine lv_iload_n X.x X.b dX7_readsPart_93 rfl (lv_at hl 3 rfl) ?_
          obtain ⟨b9, hf⟩ := zg_in hf
          refine z_iast (w' := (wX7 Δ ad thr saved mlen q2.2 reads hash ms mpast mtext (upd mread (3 * reads).toNatClampNeg q1.1))) X Z 4 rfl b9 rfl dX7_readsPart_94 (fun H locs Z => ?_)
          refine lv_aload_n X.x X.b dX7_readsPart_95 rfl (lv_at hl 4 rfl) ?_
          refine z_gf inG_X7 (ci := 7) rfl 7 (Nat.le_of_ble_eq_true rfl) rfl X Z wd_829 0 rfl (v := .ref (ad 4)) rfl dX7_readsPart_96 ?_
          refine lv_iconst (v := 3) X.x X.b dX7_readsPart_99 ki_3 ?_
          refine lv_aload_n X.x X.b dX7_readsPart_100 rfl (lv_at hl 4 rfl) ?_
          refine z_gf inG_X7 (ci := 7) rfl 8 (Nat.le_of_ble_eq_true rfl) rfl X Z wd_830 0 rfl (v := .int reads) rfl dX7_readsPart_101 ?_
          refine lv_imul X.x X.b dX7_readsPart_104 ?_
          refine lv_iconst (v := 1) X.x X.b dX7_readsPart_105 ki_1 ?_
          refine lv_iadd X.x X.b dX7_readsPart_106 ?_
          refine lv_iload_n X.x X.b dX7_readsPart_107 rfl (lv_at hl 2 rfl) ?_
          obtain ⟨b10, hf⟩ := zg_in hf
          refine z_iast (w' := (wX7 Δ ad thr saved mlen q2.2 reads hash ms mpast mtext (upd (upd mread (3 * reads).toNatClampNeg q1.1) ((3 * reads) + 1).toNatClampNeg (-1)))) X Z 4 rfl b10 rfl dX7_readsPart_108 (fun H locs Z => ?_)
          refine lv_aload_n X.x X.b dX7_readsPart_109 rfl (lv_at hl 4 rfl) ?_
          refine z_gf inG_X7 (ci := 7) rfl 7 (Nat.le_of_ble_eq_true rfl) rfl X Z wd_829 0 rfl (v := .ref (ad 4)) rfl dX7_readsPart_110 ?_
          refine lv_iconst (v := 3) X.x X.b dX7_readsPart_113 ki_3 ?_
          refine lv_aload_n X.x X.b dX7_readsPart_114 rfl (lv_at hl 4 rfl) ?_
          refine z_gf inG_X7 (ci := 7) rfl 8 (Nat.le_of_ble_eq_true rfl) rfl X Z wd_830 0 rfl (v := .int reads) rfl dX7_readsPart_115 ?_
          refine lv_imul X.x X.b dX7_readsPart_118 ?_
          refine lv_iconst (v := 2) X.x X.b dX7_readsPart_119 ki_2 ?_
          refine lv_iadd X.x X.b dX7_readsPart_120 ?_
          refine lv_iload_n X.x X.b dX7_readsPart_121 rfl (lv_at hl 1 rfl) ?_
          obtain ⟨b11, hf⟩ := zg_in hf
          refine z_iast (w' := (wX7 Δ ad thr saved mlen q2.2 reads hash ms mpast mtext (upd (upd (upd mread (3 * reads).toNatClampNeg q1.1) ((3 * reads) + 1).toNatClampNeg (-1)) ((3 * reads) + 2).toNatClampNeg 10))) X Z 4 rfl b11 rfl dX7_readsPart_122 (fun H locs Z => ?_)
          refine lv_aload_n X.x X.b dX7_readsPart_123 rfl (lv_at hl 4 rfl) ?_
          refine lv_dup X.x X.b dX7_readsPart_124 rfl ?_
          refine z_gf inG_X7 (ci := 7) rfl 8 (Nat.le_of_ble_eq_true rfl) rfl X Z wd_830 0 rfl (v := .int reads) rfl dX7_readsPart_125 ?_
          refine lv_iconst (v := 1) X.x X.b dX7_readsPart_128 ki_1 ?_
          refine lv_iadd X.x X.b dX7_readsPart_129 ?_
          refine z_pf (w' := (wX7 Δ ad thr saved mlen q2.2 (reads + 1) hash ms mpast mtext (upd (upd (upd mread (3 * reads).toNatClampNeg q1.1) ((3 * reads) + 1).toNatClampNeg (-1)) ((3 * reads) + 2).toNatClampNeg 10))) inG_X7 (ci := 7) rfl tyX7 tyX7_ok nmX7 8 (Nat.le_of_ble_eq_true rfl) rfl rfl X Z wd_830 0 rfl rfl rfl (Nat.le_of_ble_eq_true rfl) rfl dX7_readsPart_130 (fun H locs Z => ?_)
          refine lv_iload X.x X.b dX7_readsPart_133 (lv_at hl 0 rfl) ?_
          cases hf
          exact z_zret X Z (Or.inr rfl) dX7_readsPart_135
      · have hf := zif_f b7 hf
        refine lv_aload_n X.x X.b dX7_readsPart_47 rfl (lv_at hl 2 rfl) ?_
        obtain ⟨q3, hq3, hf⟩ := zb_ok hf
        refine z_callV X Z hl (mX7_readsWords l Δ ad thr saved mlen q2.2 reads hash ms mpast mtext mread hq3) wd_1006 wd_1008 wd_40 wd_68 wd_1009 ok_X7_readsWords 7 rfl 0 rfl (w' := (wX7 Δ ad thr saved mlen q3.2 reads hash ms mpast mtext mread)) su_16 fs_16 pu_16 rfl (rest := []) rfl (Nat.le_of_ble_eq_true rfl) ⟨Nat.le_of_ble_eq_true rfl, Nat.le_of_ble_eq_true rfl⟩ ⟨Nat.zero_le _, Nat.zero_le _⟩ (st1 := [.int q3.1]) rfl dX7_readsPart_48 (fun H locs Z => ?_)
        refine lv_goto (tgt := 56) X.x X.b dX7_readsPart_51 (by decide) ?_
        refine lv_istore_n (lv' := [(3, .int q3.1), (2, .int (-1)), (1, .int q1.1), (0, .ref (ad 0))]) X.x X.b dX7_readsPart_56 rfl hl (Nat.le_of_ble_eq_true rfl) rfl (fun ls hl => ?_)
        refine lv_iload_n X.x X.b dX7_readsPart_57 rfl (lv_at hl 2 rfl) ?_
        refine lv_if_le (tgt := 75) X.x X.b dX7_readsPart_58 (by decide) (fun b12 => ?_) (fun b12 => ?_)
        · have hf := zif_t b12 hf
          refine lv_iconst (v := 0) X.x X.b dX7_readsPart_75 ki_0 ?_
          refine lv_istore (lv' := [(4, .int 0), (3, .int q3.1), (2, .int (-1)), (1, .int q1.1), (0, .ref (ad 0))]) X.x X.b dX7_readsPart_76 hl (Nat.le_of_ble_eq_true rfl) rfl (fun ls hl => ?_)
          refine lv_iload X.x X.b dX7_readsPart_78 (lv_at hl 0 rfl) ?_
          refine lv_if_eq (tgt := 133) X.x X.b dX7_readsPart_80 (by decide) (fun _ => ?_) (fun h => absurd h (by decide))
          refine lv_iload X.x X.b dX7_readsPart_133 (lv_at hl 0 rfl) ?_
          cases hf
          exact z_zret X Z (Or.inl rfl) dX7_readsPart_135
        · have hf := zif_f b12 hf
          refine lv_iload_n X.x X.b dX7_readsPart_61 rfl (lv_at hl 1 rfl) ?_
          refine lv_bipush (v := (-2)) X.x X.b dX7_readsPart_62 kb_m2 ?_
          refine lv_icmp_le (tgt := 75) X.x X.b dX7_readsPart_64 (by decide) (fun h => absurd h (by decide)) (fun _ => ?_)
          refine lv_iload_n X.x X.b dX7_readsPart_67 rfl (lv_at hl 0 rfl) ?_
          refine lv_if_le (tgt := 75) X.x X.b dX7_readsPart_68 (by decide) (fun b13 => ?_) (fun b13 => ?_)
          · have hf := zif_t b13 hf
            refine lv_iconst (v := 0) X.x X.b dX7_readsPart_75 ki_0 ?_
            refine lv_istore (lv' := [(4, .int 0), (3, .int q3.1), (2, .int (-1)), (1, .int q1.1), (0, .ref (ad 0))]) X.x X.b dX7_readsPart_76 hl (Nat.le_of_ble_eq_true rfl) rfl (fun ls hl => ?_)
            refine lv_iload X.x X.b dX7_readsPart_78 (lv_at hl 0 rfl) ?_
            refine lv_if_eq (tgt := 133) X.x X.b dX7_readsPart_80 (by decide) (fun _ => ?_) (fun h => absurd h (by decide))
            refine lv_iload X.x X.b dX7_readsPart_133 (lv_at hl 0 rfl) ?_
            cases hf
            exact z_zret X Z (Or.inl rfl) dX7_readsPart_135
          · have hf := zif_f b13 hf
            refine lv_iconst (v := 1) X.x X.b dX7_readsPart_71 ki_1 ?_
            refine lv_goto (tgt := 76) X.x X.b dX7_readsPart_72 (by decide) ?_
            refine lv_istore (lv' := [(4, .int 1), (3, .int q3.1), (2, .int (-1)), (1, .int q1.1), (0, .ref (ad 0))]) X.x X.b dX7_readsPart_76 hl (Nat.le_of_ble_eq_true rfl) rfl (fun ls hl => ?_)
            refine lv_iload X.x X.b dX7_readsPart_78 (lv_at hl 0 rfl) ?_
            refine lv_if_eq (tgt := 133) X.x X.b dX7_readsPart_80 (by decide) (fun h => absurd h (by decide)) (fun _ => ?_)
            refine lv_aload_n X.x X.b dX7_readsPart_83 rfl (lv_at hl 4 rfl) ?_
            refine z_gf inG_X7 (ci := 7) rfl 7 (Nat.le_of_ble_eq_true rfl) rfl X Z wd_829 0 rfl (v := .ref (ad 4)) rfl dX7_readsPart_84 ?_
            refine lv_iconst (v := 3) X.x X.b dX7_readsPart_87 ki_3 ?_
            refine lv_aload_n X.x X.b dX7_readsPart_88 rfl (lv_at hl 4 rfl) ?_
            refine z_gf inG_X7 (ci := 7) rfl 8 (Nat.le_of_ble_eq_true rfl) rfl X Z wd_830 0 rfl (v := .int reads) rfl dX7_readsPart_89 ?_
            refine lv_imul X.x X.b dX7_readsPart_92 ?_
            refine lv_iload_n X.x X.b dX7_readsPart_93 rfl (lv_at hl 3 rfl) ?_
            obtain ⟨b14, hf⟩ := zg_in hf
            refine z_iast (w' := (wX7 Δ ad thr saved mlen q3.2 reads hash ms mpast mtext (upd mread (3 * reads).toNatClampNeg q1.1))) X Z 4 rfl b14 rfl dX7_readsPart_94 (fun H locs Z => ?_)
            refine lv_aload_n X.x X.b dX7_readsPart_95 rfl (lv_at hl 4 rfl) ?_
            refine z_gf inG_X7 (ci := 7) rfl 7 (Nat.le_of_ble_eq_true rfl) rfl X Z wd_829 0 rfl (v := .ref (ad 4)) rfl dX7_readsPart_96 ?_
            refine lv_iconst (v := 3) X.x X.b dX7_readsPart_99 ki_3 ?_
            refine lv_aload_n X.x X.b dX7_readsPart_100 rfl (lv_at hl 4 rfl) ?_
            refine z_gf inG_X7 (ci := 7) rfl 8 (Nat.le_of_ble_eq_true rfl) rfl X Z wd_830 0 rfl (v := .int reads) rfl dX7_readsPart_101 ?_
            refine lv_imul X.x X.b dX7_readsPart_104 ?_
            refine lv_iconst (v := 1) X.x X.b dX7_readsPart_105 ki_1 ?_
            refine lv_iadd X.x X.b dX7_readsPart_106 ?_
            refine lv_iload_n X.x X.b dX7_readsPart_107 rfl (lv_at hl 2 rfl) ?_
            obtain ⟨b15, hf⟩ := zg_in hf
            refine z_iast (w' := (wX7 Δ ad thr saved mlen q3.2 reads hash ms mpast mtext (upd (upd mread (3 * reads).toNatClampNeg q1.1) ((3 * reads) + 1).toNatClampNeg (-1)))) X Z 4 rfl b15 rfl dX7_readsPart_108 (fun H locs Z => ?_)
            refine lv_aload_n X.x X.b dX7_readsPart_109 rfl (lv_at hl 4 rfl) ?_
            refine z_gf inG_X7 (ci := 7) rfl 7 (Nat.le_of_ble_eq_true rfl) rfl X Z wd_829 0 rfl (v := .ref (ad 4)) rfl dX7_readsPart_110 ?_
            refine lv_iconst (v := 3) X.x X.b dX7_readsPart_113 ki_3 ?_
            refine lv_aload_n X.x X.b dX7_readsPart_114 rfl (lv_at hl 4 rfl) ?_
            refine z_gf inG_X7 (ci := 7) rfl 8 (Nat.le_of_ble_eq_true rfl) rfl X Z wd_830 0 rfl (v := .int reads) rfl dX7_readsPart_115 ?_
            refine lv_imul X.x X.b dX7_readsPart_118 ?_
            refine lv_iconst (v := 2) X.x X.b dX7_readsPart_119 ki_2 ?_
            refine lv_iadd X.x X.b dX7_readsPart_120 ?_
            refine lv_iload_n X.x X.b dX7_readsPart_121 rfl (lv_at hl 1 rfl) ?_
            obtain ⟨b16, hf⟩ := zg_in hf
            refine z_iast (w' := (wX7 Δ ad thr saved mlen q3.2 reads hash ms mpast mtext (upd (upd (upd mread (3 * reads).toNatClampNeg q1.1) ((3 * reads) + 1).toNatClampNeg (-1)) ((3 * reads) + 2).toNatClampNeg q3.1))) X Z 4 rfl b16 rfl dX7_readsPart_122 (fun H locs Z => ?_)
            refine lv_aload_n X.x X.b dX7_readsPart_123 rfl (lv_at hl 4 rfl) ?_
            refine lv_dup X.x X.b dX7_readsPart_124 rfl ?_
            refine z_gf inG_X7 (ci := 7) rfl 8 (Nat.le_of_ble_eq_true rfl) rfl X Z wd_830 0 rfl (v := .int reads) rfl dX7_readsPart_125 ?_
            refine lv_iconst (v := 1) X.x X.b dX7_readsPart_128 ki_1 ?_
            refine lv_iadd X.x X.b dX7_readsPart_129 ?_
            refine z_pf (w' := (wX7 Δ ad thr saved mlen q3.2 (reads + 1) hash ms mpast mtext (upd (upd (upd mread (3 * reads).toNatClampNeg q1.1) ((3 * reads) + 1).toNatClampNeg (-1)) ((3 * reads) + 2).toNatClampNeg q3.1))) inG_X7 (ci := 7) rfl tyX7 tyX7_ok nmX7 8 (Nat.le_of_ble_eq_true rfl) rfl rfl X Z wd_830 0 rfl rfl rfl (Nat.le_of_ble_eq_true rfl) rfl dX7_readsPart_130 (fun H locs Z => ?_)
            refine lv_iload X.x X.b dX7_readsPart_133 (lv_at hl 0 rfl) ?_
            cases hf
            exact z_zret X Z (Or.inr rfl) dX7_readsPart_135
  · have hf := zif_f b1 hf
    refine lv_aload_n X.x X.b dX7_readsPart_9 rfl (lv_at hl 1 rfl) ?_
    refine lv_bipush (v := 33) X.x X.b dX7_readsPart_10 kb_33 ?_
    obtain ⟨q4, hq4, hf⟩ := zb_ok hf
    refine z_callV X Z hl (mX7_takes l Δ ad thr saved mlen q1.2 reads hash ms mpast mtext mread 33 hq4) wd_998 wd_1000 wd_38 wd_68 wd_1001 ok_X7_takes 7 rfl 0 rfl (w' := (wX7 Δ ad thr saved mlen q4.2 reads hash ms mpast mtext mread)) su_16 fs_16 pu_16 rfl (rest := []) rfl (Nat.le_of_ble_eq_true rfl) ⟨Nat.le_of_ble_eq_true rfl, Nat.le_of_ble_eq_true rfl⟩ ⟨Nat.zero_le _, Nat.zero_le _⟩ (st1 := [.int q4.1]) rfl dX7_readsPart_12 (fun H locs Z => ?_)
    refine lv_if_eq (tgt := 26) X.x X.b dX7_readsPart_15 (by decide) (fun b17 => ?_) (fun b17 => ?_)
    · have hf := zif_t b17 hf
      refine lv_iconst (v := (-1)) X.x X.b dX7_readsPart_26 ki_m1 ?_
      refine lv_istore_n (lv' := [(2, .int (-1)), (1, .int q1.1), (0, .ref (ad 0))]) X.x X.b dX7_readsPart_27 rfl hl (Nat.le_of_ble_eq_true rfl) rfl (fun ls hl => ?_)
      refine lv_iload_n X.x X.b dX7_readsPart_28 rfl (lv_at hl 1 rfl) ?_
      refine lv_if_le (tgt := 54) X.x X.b dX7_readsPart_29 (by decide) (fun b18 => ?_) (fun b18 => ?_)
      · have hf := zif_t b18 hf
        refine lv_bipush (v := 10) X.x X.b dX7_readsPart_54 kb_10 ?_
        refine lv_istore_n (lv' := [(3, .int 10), (2, .int (-1)), (1, .int q1.1), (0, .ref (ad 0))]) X.x X.b dX7_readsPart_56 rfl hl (Nat.le_of_ble_eq_true rfl) rfl (fun ls hl => ?_)
        refine lv_iload_n X.x X.b dX7_readsPart_57 rfl (lv_at hl 2 rfl) ?_
        refine lv_if_le (tgt := 75) X.x X.b dX7_readsPart_58 (by decide) (fun b19 => ?_) (fun b19 => ?_)
        · have hf := zif_t b19 hf
          refine lv_iconst (v := 0) X.x X.b dX7_readsPart_75 ki_0 ?_
          refine lv_istore (lv' := [(4, .int 0), (3, .int 10), (2, .int (-1)), (1, .int q1.1), (0, .ref (ad 0))]) X.x X.b dX7_readsPart_76 hl (Nat.le_of_ble_eq_true rfl) rfl (fun ls hl => ?_)
          refine lv_iload X.x X.b dX7_readsPart_78 (lv_at hl 0 rfl) ?_
          refine lv_if_eq (tgt := 133) X.x X.b dX7_readsPart_80 (by decide) (fun _ => ?_) (fun h => absurd h (by decide))
          refine lv_iload X.x X.b dX7_readsPart_133 (lv_at hl 0 rfl) ?_
          cases hf
          exact z_zret X Z (Or.inl rfl) dX7_readsPart_135
        · have hf := zif_f b19 hf
          refine lv_iload_n X.x X.b dX7_readsPart_61 rfl (lv_at hl 1 rfl) ?_
          refine lv_bipush (v := (-2)) X.x X.b dX7_readsPart_62 kb_m2 ?_
          refine lv_icmp_le (tgt := 75) X.x X.b dX7_readsPart_64 (by decide) (fun h => absurd h (by decide)) (fun _ => ?_)
          refine lv_iload_n X.x X.b dX7_readsPart_67 rfl (lv_at hl 0 rfl) ?_
          refine lv_if_le (tgt := 75) X.x X.b dX7_readsPart_68 (by decide) (fun h => absurd h (by decide)) (fun _ => ?_)
          refine lv_iconst (v := 1) X.x X.b dX7_readsPart_71 ki_1 ?_
          refine lv_goto (tgt := 76) X.x X.b dX7_readsPart_72 (by decide) ?_
          refine lv_istore (lv' := [(4, .int 1), (3, .int 10), (2, .int (-1)), (1, .int q1.1), (0, .ref (ad 0))]) X.x X.b dX7_readsPart_76 hl (Nat.le_of_ble_eq_true rfl) rfl (fun ls hl => ?_)
          refine lv_iload X.x X.b dX7_readsPart_78 (lv_at hl 0 rfl) ?_
          refine lv_if_eq (tgt := 133) X.x X.b dX7_readsPart_80 (by decide) (fun h => absurd h (by decide)) (fun _ => ?_)
          refine lv_aload_n X.x X.b dX7_readsPart_83 rfl (lv_at hl 4 rfl) ?_
          refine z_gf inG_X7 (ci := 7) rfl 7 (Nat.le_of_ble_eq_true rfl) rfl X Z wd_829 0 rfl (v := .ref (ad 4)) rfl dX7_readsPart_84 ?_
          refine lv_iconst (v := 3) X.x X.b dX7_readsPart_87 ki_3 ?_
          refine lv_aload_n X.x X.b dX7_readsPart_88 rfl (lv_at hl 4 rfl) ?_
          refine z_gf inG_X7 (ci := 7) rfl 8 (Nat.le_of_ble_eq_true rfl) rfl X Z wd_830 0 rfl (v := .int reads) rfl dX7_readsPart_89 ?_
          refine lv_imul X.x X.b dX7_readsPart_92 ?_
          refine lv_iload_n X.x X.b dX7_readsPart_93 rfl (lv_at hl 3 rfl) ?_
          obtain ⟨b20, hf⟩ := zg_in hf
          refine z_iast (w' := (wX7 Δ ad thr saved mlen q4.2 reads hash ms mpast mtext (upd mread (3 * reads).toNatClampNeg q1.1))) X Z 4 rfl b20 rfl dX7_readsPart_94 (fun H locs Z => ?_)
          refine lv_aload_n X.x X.b dX7_readsPart_95 rfl (lv_at hl 4 rfl) ?_
          refine z_gf inG_X7 (ci := 7) rfl 7 (Nat.le_of_ble_eq_true rfl) rfl X Z wd_829 0 rfl (v := .ref (ad 4)) rfl dX7_readsPart_96 ?_
          refine lv_iconst (v := 3) X.x X.b dX7_readsPart_99 ki_3 ?_
          refine lv_aload_n X.x X.b dX7_readsPart_100 rfl (lv_at hl 4 rfl) ?_
          refine z_gf inG_X7 (ci := 7) rfl 8 (Nat.le_of_ble_eq_true rfl) rfl X Z wd_830 0 rfl (v := .int reads) rfl dX7_readsPart_101 ?_
          refine lv_imul X.x X.b dX7_readsPart_104 ?_
          refine lv_iconst (v := 1) X.x X.b dX7_readsPart_105 ki_1 ?_
          refine lv_iadd X.x X.b dX7_readsPart_106 ?_
          refine lv_iload_n X.x X.b dX7_readsPart_107 rfl (lv_at hl 2 rfl) ?_
          obtain ⟨b21, hf⟩ := zg_in hf
          refine z_iast (w' := (wX7 Δ ad thr saved mlen q4.2 reads hash ms mpast mtext (upd (upd mread (3 * reads).toNatClampNeg q1.1) ((3 * reads) + 1).toNatClampNeg (-1)))) X Z 4 rfl b21 rfl dX7_readsPart_108 (fun H locs Z => ?_)
          refine lv_aload_n X.x X.b dX7_readsPart_109 rfl (lv_at hl 4 rfl) ?_
          refine z_gf inG_X7 (ci := 7) rfl 7 (Nat.le_of_ble_eq_true rfl) rfl X Z wd_829 0 rfl (v := .ref (ad 4)) rfl dX7_readsPart_110 ?_
          refine lv_iconst (v := 3) X.x X.b dX7_readsPart_113 ki_3 ?_
          refine lv_aload_n X.x X.b dX7_readsPart_114 rfl (lv_at hl 4 rfl) ?_
          refine z_gf inG_X7 (ci := 7) rfl 8 (Nat.le_of_ble_eq_true rfl) rfl X Z wd_830 0 rfl (v := .int reads) rfl dX7_readsPart_115 ?_
          refine lv_imul X.x X.b dX7_readsPart_118 ?_
          refine lv_iconst (v := 2) X.x X.b dX7_readsPart_119 ki_2 ?_
          refine lv_iadd X.x X.b dX7_readsPart_120 ?_
          refine lv_iload_n X.x X.b dX7_readsPart_121 rfl (lv_at hl 1 rfl) ?_
          obtain ⟨b22, hf⟩ := zg_in hf
          refine z_iast (w' := (wX7 Δ ad thr saved mlen q4.2 reads hash ms mpast mtext (upd (upd (upd mread (3 * reads).toNatClampNeg q1.1) ((3 * reads) + 1).toNatClampNeg (-1)) ((3 * reads) + 2).toNatClampNeg 10))) X Z 4 rfl b22 rfl dX7_readsPart_122 (fun H locs Z => ?_)
          refine lv_aload_n X.x X.b dX7_readsPart_123 rfl (lv_at hl 4 rfl) ?_
          refine lv_dup X.x X.b dX7_readsPart_124 rfl ?_
          refine z_gf inG_X7 (ci := 7) rfl 8 (Nat.le_of_ble_eq_true rfl) rfl X Z wd_830 0 rfl (v := .int reads) rfl dX7_readsPart_125 ?_
          refine lv_iconst (v := 1) X.x X.b dX7_readsPart_128 ki_1 ?_
          refine lv_iadd X.x X.b dX7_readsPart_129 ?_
          refine z_pf (w' := (wX7 Δ ad thr saved mlen q4.2 (reads + 1) hash ms mpast mtext (upd (upd (upd mread (3 * reads).toNatClampNeg q1.1) ((3 * reads) + 1).toNatClampNeg (-1)) ((3 * reads) + 2).toNatClampNeg 10))) inG_X7 (ci := 7) rfl tyX7 tyX7_ok nmX7 8 (Nat.le_of_ble_eq_true rfl) rfl rfl X Z wd_830 0 rfl rfl rfl (Nat.le_of_ble_eq_true rfl) rfl dX7_readsPart_130 (fun H locs Z => ?_)
          refine lv_iload X.x X.b dX7_readsPart_133 (lv_at hl 0 rfl) ?_
          cases hf
          exact z_zret X Z (Or.inr rfl) dX7_readsPart_135
      · have hf := zif_f b18 hf
        refine lv_iload_n X.x X.b dX7_readsPart_32 rfl (lv_at hl 0 rfl) ?_
        refine lv_bipush (v := (-2)) X.x X.b dX7_readsPart_33 kb_m2 ?_
        refine lv_icmp_le (tgt := 54) X.x X.b dX7_readsPart_35 (by decide) (fun h => absurd h (by decide)) (fun _ => ?_)
        refine lv_aload_n X.x X.b dX7_readsPart_38 rfl (lv_at hl 2 rfl) ?_
        refine lv_bipush (v := 119) X.x X.b dX7_readsPart_39 kb_119 ?_
        obtain ⟨q5, hq5, hf⟩ := zb_ok hf
        refine z_callV X Z hl (mX7_takes l Δ ad thr saved mlen q4.2 reads hash ms mpast mtext mread 119 hq5) wd_998 wd_1000 wd_38 wd_68 wd_1001 ok_X7_takes 7 rfl 0 rfl (w' := (wX7 Δ ad thr saved mlen q5.2 reads hash ms mpast mtext mread)) su_16 fs_16 pu_16 rfl (rest := []) rfl (Nat.le_of_ble_eq_true rfl) ⟨Nat.le_of_ble_eq_true rfl, Nat.le_of_ble_eq_true rfl⟩ ⟨Nat.zero_le _, Nat.zero_le _⟩ (st1 := [.int q5.1]) rfl dX7_readsPart_41 (fun H locs Z => ?_)
        refine lv_if_eq (tgt := 54) X.x X.b dX7_readsPart_44 (by decide) (fun b23 => ?_) (fun b23 => ?_)
        · have hf := zif_t b23 hf
          refine lv_bipush (v := 10) X.x X.b dX7_readsPart_54 kb_10 ?_
          refine lv_istore_n (lv' := [(3, .int 10), (2, .int (-1)), (1, .int q1.1), (0, .ref (ad 0))]) X.x X.b dX7_readsPart_56 rfl hl (Nat.le_of_ble_eq_true rfl) rfl (fun ls hl => ?_)
          refine lv_iload_n X.x X.b dX7_readsPart_57 rfl (lv_at hl 2 rfl) ?_
          refine lv_if_le (tgt := 75) X.x X.b dX7_readsPart_58 (by decide) (fun b24 => ?_) (fun b24 => ?_)
          · have hf := zif_t b24 hf
            refine lv_iconst (v := 0) X.x X.b dX7_readsPart_75 ki_0 ?_
            refine lv_istore (lv' := [(4, .int 0), (3, .int 10), (2, .int (-1)), (1, .int q1.1), (0, .ref (ad 0))]) X.x X.b dX7_readsPart_76 hl (Nat.le_of_ble_eq_true rfl) rfl (fun ls hl => ?_)
            refine lv_iload X.x X.b dX7_readsPart_78 (lv_at hl 0 rfl) ?_
            refine lv_if_eq (tgt := 133) X.x X.b dX7_readsPart_80 (by decide) (fun _ => ?_) (fun h => absurd h (by decide))
            refine lv_iload X.x X.b dX7_readsPart_133 (lv_at hl 0 rfl) ?_
            cases hf
            exact z_zret X Z (Or.inl rfl) dX7_readsPart_135
          · have hf := zif_f b24 hf
            refine lv_iload_n X.x X.b dX7_readsPart_61 rfl (lv_at hl 1 rfl) ?_
            refine lv_bipush (v := (-2)) X.x X.b dX7_readsPart_62 kb_m2 ?_
            refine lv_icmp_le (tgt := 75) X.x X.b dX7_readsPart_64 (by decide) (fun h => absurd h (by decide)) (fun _ => ?_)
            refine lv_iload_n X.x X.b dX7_readsPart_67 rfl (lv_at hl 0 rfl) ?_
            refine lv_if_le (tgt := 75) X.x X.b dX7_readsPart_68 (by decide) (fun h => absurd h (by decide)) (fun _ => ?_)
            refine lv_iconst (v := 1) X.x X.b dX7_readsPart_71 ki_1 ?_
            refine lv_goto (tgt := 76) X.x X.b dX7_readsPart_72 (by decide) ?_
            refine lv_istore (lv' := [(4, .int 1), (3, .int 10), (2, .int (-1)), (1, .int q1.1), (0, .ref (ad 0))]) X.x X.b dX7_readsPart_76 hl (Nat.le_of_ble_eq_true rfl) rfl (fun ls hl => ?_)
            refine lv_iload X.x X.b dX7_readsPart_78 (lv_at hl 0 rfl) ?_
            refine lv_if_eq (tgt := 133) X.x X.b dX7_readsPart_80 (by decide) (fun h => absurd h (by decide)) (fun _ => ?_)
            refine lv_aload_n X.x X.b dX7_readsPart_83 rfl (lv_at hl 4 rfl) ?_
            refine z_gf inG_X7 (ci := 7) rfl 7 (Nat.le_of_ble_eq_true rfl) rfl X Z wd_829 0 rfl (v := .ref (ad 4)) rfl dX7_readsPart_84 ?_
            refine lv_iconst (v := 3) X.x X.b dX7_readsPart_87 ki_3 ?_
            refine lv_aload_n X.x X.b dX7_readsPart_88 rfl (lv_at hl 4 rfl) ?_
            refine z_gf inG_X7 (ci := 7) rfl 8 (Nat.le_of_ble_eq_true rfl) rfl X Z wd_830 0 rfl (v := .int reads) rfl dX7_readsPart_89 ?_
            refine lv_imul X.x X.b dX7_readsPart_92 ?_
            refine lv_iload_n X.x X.b dX7_readsPart_93 rfl (lv_at hl 3 rfl) ?_
            obtain ⟨b25, hf⟩ := zg_in hf
            refine z_iast (w' := (wX7 Δ ad thr saved mlen q5.2 reads hash ms mpast mtext (upd mread (3 * reads).toNatClampNeg q1.1))) X Z 4 rfl b25 rfl dX7_readsPart_94 (fun H locs Z => ?_)
            refine lv_aload_n X.x X.b dX7_readsPart_95 rfl (lv_at hl 4 rfl) ?_
            refine z_gf inG_X7 (ci := 7) rfl 7 (Nat.le_of_ble_eq_true rfl) rfl X Z wd_829 0 rfl (v := .ref (ad 4)) rfl dX7_readsPart_96 ?_
            refine lv_iconst (v := 3) X.x X.b dX7_readsPart_99 ki_3 ?_
            refine lv_aload_n X.x X.b dX7_readsPart_100 rfl (lv_at hl 4 rfl) ?_
            refine z_gf inG_X7 (ci := 7) rfl 8 (Nat.le_of_ble_eq_true rfl) rfl X Z wd_830 0 rfl (v := .int reads) rfl dX7_readsPart_101 ?_
            refine lv_imul X.x X.b dX7_readsPart_104 ?_
            refine lv_iconst (v := 1) X.x X.b dX7_readsPart_105 ki_1 ?_
            refine lv_iadd X.x X.b dX7_readsPart_106 ?_
            refine lv_iload_n X.x X.b dX7_readsPart_107 rfl (lv_at hl 2 rfl) ?_
            obtain ⟨b26, hf⟩ := zg_in hf
            refine z_iast (w' := (wX7 Δ ad thr saved mlen q5.2 reads hash ms mpast mtext (upd (upd mread (3 * reads).toNatClampNeg q1.1) ((3 * reads) + 1).toNatClampNeg (-1)))) X Z 4 rfl b26 rfl dX7_readsPart_108 (fun H locs Z => ?_)
            refine lv_aload_n X.x X.b dX7_readsPart_109 rfl (lv_at hl 4 rfl) ?_
            refine z_gf inG_X7 (ci := 7) rfl 7 (Nat.le_of_ble_eq_true rfl) rfl X Z wd_829 0 rfl (v := .ref (ad 4)) rfl dX7_readsPart_110 ?_
            refine lv_iconst (v := 3) X.x X.b dX7_readsPart_113 ki_3 ?_
            refine lv_aload_n X.x X.b dX7_readsPart_114 rfl (lv_at hl 4 rfl) ?_
            refine z_gf inG_X7 (ci := 7) rfl 8 (Nat.le_of_ble_eq_true rfl) rfl X Z wd_830 0 rfl (v := .int reads) rfl dX7_readsPart_115 ?_
            refine lv_imul X.x X.b dX7_readsPart_118 ?_
            refine lv_iconst (v := 2) X.x X.b dX7_readsPart_119 ki_2 ?_
            refine lv_iadd X.x X.b dX7_readsPart_120 ?_
            refine lv_iload_n X.x X.b dX7_readsPart_121 rfl (lv_at hl 1 rfl) ?_
            obtain ⟨b27, hf⟩ := zg_in hf
            refine z_iast (w' := (wX7 Δ ad thr saved mlen q5.2 reads hash ms mpast mtext (upd (upd (upd mread (3 * reads).toNatClampNeg q1.1) ((3 * reads) + 1).toNatClampNeg (-1)) ((3 * reads) + 2).toNatClampNeg 10))) X Z 4 rfl b27 rfl dX7_readsPart_122 (fun H locs Z => ?_)
            refine lv_aload_n X.x X.b dX7_readsPart_123 rfl (lv_at hl 4 rfl) ?_
            refine lv_dup X.x X.b dX7_readsPart_124 rfl ?_
            refine z_gf inG_X7 (ci := 7) rfl 8 (Nat.le_of_ble_eq_true rfl) rfl X Z wd_830 0 rfl (v := .int reads) rfl dX7_readsPart_125 ?_
            refine lv_iconst (v := 1) X.x X.b dX7_readsPart_128 ki_1 ?_
            refine lv_iadd X.x X.b dX7_readsPart_129 ?_
            refine z_pf (w' := (wX7 Δ ad thr saved mlen q5.2 (reads + 1) hash ms mpast mtext (upd (upd (upd mread (3 * reads).toNatClampNeg q1.1) ((3 * reads) + 1).toNatClampNeg (-1)) ((3 * reads) + 2).toNatClampNeg 10))) inG_X7 (ci := 7) rfl tyX7 tyX7_ok nmX7 8 (Nat.le_of_ble_eq_true rfl) rfl rfl X Z wd_830 0 rfl rfl rfl (Nat.le_of_ble_eq_true rfl) rfl dX7_readsPart_130 (fun H locs Z => ?_)
            refine lv_iload X.x X.b dX7_readsPart_133 (lv_at hl 0 rfl) ?_
            cases hf
            exact z_zret X Z (Or.inr rfl) dX7_readsPart_135
        · have hf := zif_f b23 hf
          refine lv_aload_n X.x X.b dX7_readsPart_47 rfl (lv_at hl 2 rfl) ?_
          obtain ⟨q6, hq6, hf⟩ := zb_ok hf
          refine z_callV X Z hl (mX7_readsWords l Δ ad thr saved mlen q5.2 reads hash ms mpast mtext mread hq6) wd_1006 wd_1008 wd_40 wd_68 wd_1009 ok_X7_readsWords 7 rfl 0 rfl (w' := (wX7 Δ ad thr saved mlen q6.2 reads hash ms mpast mtext mread)) su_16 fs_16 pu_16 rfl (rest := []) rfl (Nat.le_of_ble_eq_true rfl) ⟨Nat.le_of_ble_eq_true rfl, Nat.le_of_ble_eq_true rfl⟩ ⟨Nat.zero_le _, Nat.zero_le _⟩ (st1 := [.int q6.1]) rfl dX7_readsPart_48 (fun H locs Z => ?_)
          refine lv_goto (tgt := 56) X.x X.b dX7_readsPart_51 (by decide) ?_
          refine lv_istore_n (lv' := [(3, .int q6.1), (2, .int (-1)), (1, .int q1.1), (0, .ref (ad 0))]) X.x X.b dX7_readsPart_56 rfl hl (Nat.le_of_ble_eq_true rfl) rfl (fun ls hl => ?_)
          refine lv_iload_n X.x X.b dX7_readsPart_57 rfl (lv_at hl 2 rfl) ?_
          refine lv_if_le (tgt := 75) X.x X.b dX7_readsPart_58 (by decide) (fun b28 => ?_) (fun b28 => ?_)
          · have hf := zif_t b28 hf
            refine lv_iconst (v := 0) X.x X.b dX7_readsPart_75 ki_0 ?_
            refine lv_istore (lv' := [(4, .int 0), (3, .int q6.1), (2, .int (-1)), (1, .int q1.1), (0, .ref (ad 0))]) X.x X.b dX7_readsPart_76 hl (Nat.le_of_ble_eq_true rfl) rfl (fun ls hl => ?_)
            refine lv_iload X.x X.b dX7_readsPart_78 (lv_at hl 0 rfl) ?_
            refine lv_if_eq (tgt := 133) X.x X.b dX7_readsPart_80 (by decide) (fun _ => ?_) (fun h => absurd h (by decide))
            refine lv_iload X.x X.b dX7_readsPart_133 (lv_at hl 0 rfl) ?_
            cases hf
            exact z_zret X Z (Or.inl rfl) dX7_readsPart_135
          · have hf := zif_f b28 hf
            refine lv_iload_n X.x X.b dX7_readsPart_61 rfl (lv_at hl 1 rfl) ?_
            refine lv_bipush (v := (-2)) X.x X.b dX7_readsPart_62 kb_m2 ?_
            refine lv_icmp_le (tgt := 75) X.x X.b dX7_readsPart_64 (by decide) (fun h => absurd h (by decide)) (fun _ => ?_)
            refine lv_iload_n X.x X.b dX7_readsPart_67 rfl (lv_at hl 0 rfl) ?_
            refine lv_if_le (tgt := 75) X.x X.b dX7_readsPart_68 (by decide) (fun b29 => ?_) (fun b29 => ?_)
            · have hf := zif_t b29 hf
              refine lv_iconst (v := 0) X.x X.b dX7_readsPart_75 ki_0 ?_
              refine lv_istore (lv' := [(4, .int 0), (3, .int q6.1), (2, .int (-1)), (1, .int q1.1), (0, .ref (ad 0))]) X.x X.b dX7_readsPart_76 hl (Nat.le_of_ble_eq_true rfl) rfl (fun ls hl => ?_)
              refine lv_iload X.x X.b dX7_readsPart_78 (lv_at hl 0 rfl) ?_
              refine lv_if_eq (tgt := 133) X.x X.b dX7_readsPart_80 (by decide) (fun _ => ?_) (fun h => absurd h (by decide))
              refine lv_iload X.x X.b dX7_readsPart_133 (lv_at hl 0 rfl) ?_
              cases hf
              exact z_zret X Z (Or.inl rfl) dX7_readsPart_135
            · have hf := zif_f b29 hf
              refine lv_iconst (v := 1) X.x X.b dX7_readsPart_71 ki_1 ?_
              refine lv_goto (tgt := 76) X.x X.b dX7_readsPart_72 (by decide) ?_
              refine lv_istore (lv' := [(4, .int 1), (3, .int q6.1), (2, .int (-1)), (1, .int q1.1), (0, .ref (ad 0))]) X.x X.b dX7_readsPart_76 hl (Nat.le_of_ble_eq_true rfl) rfl (fun ls hl => ?_)
              refine lv_iload X.x X.b dX7_readsPart_78 (lv_at hl 0 rfl) ?_
              refine lv_if_eq (tgt := 133) X.x X.b dX7_readsPart_80 (by decide) (fun h => absurd h (by decide)) (fun _ => ?_)
              refine lv_aload_n X.x X.b dX7_readsPart_83 rfl (lv_at hl 4 rfl) ?_
              refine z_gf inG_X7 (ci := 7) rfl 7 (Nat.le_of_ble_eq_true rfl) rfl X Z wd_829 0 rfl (v := .ref (ad 4)) rfl dX7_readsPart_84 ?_
              refine lv_iconst (v := 3) X.x X.b dX7_readsPart_87 ki_3 ?_
              refine lv_aload_n X.x X.b dX7_readsPart_88 rfl (lv_at hl 4 rfl) ?_
              refine z_gf inG_X7 (ci := 7) rfl 8 (Nat.le_of_ble_eq_true rfl) rfl X Z wd_830 0 rfl (v := .int reads) rfl dX7_readsPart_89 ?_
              refine lv_imul X.x X.b dX7_readsPart_92 ?_
              refine lv_iload_n X.x X.b dX7_readsPart_93 rfl (lv_at hl 3 rfl) ?_
              obtain ⟨b30, hf⟩ := zg_in hf
              refine z_iast (w' := (wX7 Δ ad thr saved mlen q6.2 reads hash ms mpast mtext (upd mread (3 * reads).toNatClampNeg q1.1))) X Z 4 rfl b30 rfl dX7_readsPart_94 (fun H locs Z => ?_)
              refine lv_aload_n X.x X.b dX7_readsPart_95 rfl (lv_at hl 4 rfl) ?_
              refine z_gf inG_X7 (ci := 7) rfl 7 (Nat.le_of_ble_eq_true rfl) rfl X Z wd_829 0 rfl (v := .ref (ad 4)) rfl dX7_readsPart_96 ?_
              refine lv_iconst (v := 3) X.x X.b dX7_readsPart_99 ki_3 ?_
              refine lv_aload_n X.x X.b dX7_readsPart_100 rfl (lv_at hl 4 rfl) ?_
              refine z_gf inG_X7 (ci := 7) rfl 8 (Nat.le_of_ble_eq_true rfl) rfl X Z wd_830 0 rfl (v := .int reads) rfl dX7_readsPart_101 ?_
              refine lv_imul X.x X.b dX7_readsPart_104 ?_
              refine lv_iconst (v := 1) X.x X.b dX7_readsPart_105 ki_1 ?_
              refine lv_iadd X.x X.b dX7_readsPart_106 ?_
              refine lv_iload_n X.x X.b dX7_readsPart_107 rfl (lv_at hl 2 rfl) ?_
              obtain ⟨b31, hf⟩ := zg_in hf
              refine z_iast (w' := (wX7 Δ ad thr saved mlen q6.2 reads hash ms mpast mtext (upd (upd mread (3 * reads).toNatClampNeg q1.1) ((3 * reads) + 1).toNatClampNeg (-1)))) X Z 4 rfl b31 rfl dX7_readsPart_108 (fun H locs Z => ?_)
              refine lv_aload_n X.x X.b dX7_readsPart_109 rfl (lv_at hl 4 rfl) ?_
              refine z_gf inG_X7 (ci := 7) rfl 7 (Nat.le_of_ble_eq_true rfl) rfl X Z wd_829 0 rfl (v := .ref (ad 4)) rfl dX7_readsPart_110 ?_
              refine lv_iconst (v := 3) X.x X.b dX7_readsPart_113 ki_3 ?_
              refine lv_aload_n X.x X.b dX7_readsPart_114 rfl (lv_at hl 4 rfl) ?_
              refine z_gf inG_X7 (ci := 7) rfl 8 (Nat.le_of_ble_eq_true rfl) rfl X Z wd_830 0 rfl (v := .int reads) rfl dX7_readsPart_115 ?_
              refine lv_imul X.x X.b dX7_readsPart_118 ?_
              refine lv_iconst (v := 2) X.x X.b dX7_readsPart_119 ki_2 ?_
              refine lv_iadd X.x X.b dX7_readsPart_120 ?_
              refine lv_iload_n X.x X.b dX7_readsPart_121 rfl (lv_at hl 1 rfl) ?_
              obtain ⟨b32, hf⟩ := zg_in hf
              refine z_iast (w' := (wX7 Δ ad thr saved mlen q6.2 reads hash ms mpast mtext (upd (upd (upd mread (3 * reads).toNatClampNeg q1.1) ((3 * reads) + 1).toNatClampNeg (-1)) ((3 * reads) + 2).toNatClampNeg q6.1))) X Z 4 rfl b32 rfl dX7_readsPart_122 (fun H locs Z => ?_)
              refine lv_aload_n X.x X.b dX7_readsPart_123 rfl (lv_at hl 4 rfl) ?_
              refine lv_dup X.x X.b dX7_readsPart_124 rfl ?_
              refine z_gf inG_X7 (ci := 7) rfl 8 (Nat.le_of_ble_eq_true rfl) rfl X Z wd_830 0 rfl (v := .int reads) rfl dX7_readsPart_125 ?_
              refine lv_iconst (v := 1) X.x X.b dX7_readsPart_128 ki_1 ?_
              refine lv_iadd X.x X.b dX7_readsPart_129 ?_
              refine z_pf (w' := (wX7 Δ ad thr saved mlen q6.2 (reads + 1) hash ms mpast mtext (upd (upd (upd mread (3 * reads).toNatClampNeg q1.1) ((3 * reads) + 1).toNatClampNeg (-1)) ((3 * reads) + 2).toNatClampNeg q6.1))) inG_X7 (ci := 7) rfl tyX7 tyX7_ok nmX7 8 (Nat.le_of_ble_eq_true rfl) rfl rfl X Z wd_830 0 rfl rfl rfl (Nat.le_of_ble_eq_true rfl) rfl dX7_readsPart_130 (fun H locs Z => ?_)
              refine lv_iload X.x X.b dX7_readsPart_133 (lv_at hl 0 rfl) ?_
              cases hf
              exact z_zret X Z (Or.inr rfl) dX7_readsPart_135
    · have hf := zif_f b17 hf
      refine lv_aload_n X.x X.b dX7_readsPart_18 rfl (lv_at hl 1 rfl) ?_
      refine lv_iload_n X.x X.b dX7_readsPart_19 rfl (lv_at hl 0 rfl) ?_
      obtain ⟨q7, hq7, hf⟩ := zb_ok hf
      refine z_callV X Z hl (mX7_readsCliff l Δ ad thr saved mlen q4.2 reads hash ms mpast mtext mread q1.1 hq7) wd_1002 wd_1004 wd_39 wd_68 wd_1005 ok_X7_readsCliff 7 rfl 0 rfl (w' := (wX7 Δ ad thr saved mlen q7.2 reads hash ms mpast mtext mread)) su_16 fs_16 pu_16 rfl (rest := []) rfl (Nat.le_of_ble_eq_true rfl) ⟨Nat.le_of_ble_eq_true rfl, Nat.le_of_ble_eq_true rfl⟩ ⟨Nat.zero_le _, Nat.zero_le _⟩ (st1 := [.int q7.1]) rfl dX7_readsPart_20 (fun H locs Z => ?_)
      refine lv_goto (tgt := 27) X.x X.b dX7_readsPart_23 (by decide) ?_
      refine lv_istore_n (lv' := [(2, .int q7.1), (1, .int q1.1), (0, .ref (ad 0))]) X.x X.b dX7_readsPart_27 rfl hl (Nat.le_of_ble_eq_true rfl) rfl (fun ls hl => ?_)
      refine lv_iload_n X.x X.b dX7_readsPart_28 rfl (lv_at hl 1 rfl) ?_
      refine lv_if_le (tgt := 54) X.x X.b dX7_readsPart_29 (by decide) (fun b33 => ?_) (fun b33 => ?_)
      · have hf := zif_t b33 hf
        refine lv_bipush (v := 10) X.x X.b dX7_readsPart_54 kb_10 ?_
        refine lv_istore_n (lv' := [(3, .int 10), (2, .int q7.1), (1, .int q1.1), (0, .ref (ad 0))]) X.x X.b dX7_readsPart_56 rfl hl (Nat.le_of_ble_eq_true rfl) rfl (fun ls hl => ?_)
        refine lv_iload_n X.x X.b dX7_readsPart_57 rfl (lv_at hl 2 rfl) ?_
        refine lv_if_le (tgt := 75) X.x X.b dX7_readsPart_58 (by decide) (fun b34 => ?_) (fun b34 => ?_)
        · have hf := zif_t b34 hf
          refine lv_iconst (v := 0) X.x X.b dX7_readsPart_75 ki_0 ?_
          refine lv_istore (lv' := [(4, .int 0), (3, .int 10), (2, .int q7.1), (1, .int q1.1), (0, .ref (ad 0))]) X.x X.b dX7_readsPart_76 hl (Nat.le_of_ble_eq_true rfl) rfl (fun ls hl => ?_)
          refine lv_iload X.x X.b dX7_readsPart_78 (lv_at hl 0 rfl) ?_
          refine lv_if_eq (tgt := 133) X.x X.b dX7_readsPart_80 (by decide) (fun _ => ?_) (fun h => absurd h (by decide))
          refine lv_iload X.x X.b dX7_readsPart_133 (lv_at hl 0 rfl) ?_
          cases hf
          exact z_zret X Z (Or.inl rfl) dX7_readsPart_135
        · have hf := zif_f b34 hf
          refine lv_iload_n X.x X.b dX7_readsPart_61 rfl (lv_at hl 1 rfl) ?_
          refine lv_bipush (v := (-2)) X.x X.b dX7_readsPart_62 kb_m2 ?_
          refine lv_icmp_le (tgt := 75) X.x X.b dX7_readsPart_64 (by decide) (fun b35 => ?_) (fun b35 => ?_)
          · have hf := zif_t b35 hf
            refine lv_iconst (v := 0) X.x X.b dX7_readsPart_75 ki_0 ?_
            refine lv_istore (lv' := [(4, .int 0), (3, .int 10), (2, .int q7.1), (1, .int q1.1), (0, .ref (ad 0))]) X.x X.b dX7_readsPart_76 hl (Nat.le_of_ble_eq_true rfl) rfl (fun ls hl => ?_)
            refine lv_iload X.x X.b dX7_readsPart_78 (lv_at hl 0 rfl) ?_
            refine lv_if_eq (tgt := 133) X.x X.b dX7_readsPart_80 (by decide) (fun _ => ?_) (fun h => absurd h (by decide))
            refine lv_iload X.x X.b dX7_readsPart_133 (lv_at hl 0 rfl) ?_
            cases hf
            exact z_zret X Z (Or.inl rfl) dX7_readsPart_135
          · have hf := zif_f b35 hf
            refine lv_iload_n X.x X.b dX7_readsPart_67 rfl (lv_at hl 0 rfl) ?_
            refine lv_if_le (tgt := 75) X.x X.b dX7_readsPart_68 (by decide) (fun h => absurd h (by decide)) (fun _ => ?_)
            refine lv_iconst (v := 1) X.x X.b dX7_readsPart_71 ki_1 ?_
            refine lv_goto (tgt := 76) X.x X.b dX7_readsPart_72 (by decide) ?_
            refine lv_istore (lv' := [(4, .int 1), (3, .int 10), (2, .int q7.1), (1, .int q1.1), (0, .ref (ad 0))]) X.x X.b dX7_readsPart_76 hl (Nat.le_of_ble_eq_true rfl) rfl (fun ls hl => ?_)
            refine lv_iload X.x X.b dX7_readsPart_78 (lv_at hl 0 rfl) ?_
            refine lv_if_eq (tgt := 133) X.x X.b dX7_readsPart_80 (by decide) (fun h => absurd h (by decide)) (fun _ => ?_)
            refine lv_aload_n X.x X.b dX7_readsPart_83 rfl (lv_at hl 4 rfl) ?_
            refine z_gf inG_X7 (ci := 7) rfl 7 (Nat.le_of_ble_eq_true rfl) rfl X Z wd_829 0 rfl (v := .ref (ad 4)) rfl dX7_readsPart_84 ?_
            refine lv_iconst (v := 3) X.x X.b dX7_readsPart_87 ki_3 ?_
            refine lv_aload_n X.x X.b dX7_readsPart_88 rfl (lv_at hl 4 rfl) ?_
            refine z_gf inG_X7 (ci := 7) rfl 8 (Nat.le_of_ble_eq_true rfl) rfl X Z wd_830 0 rfl (v := .int reads) rfl dX7_readsPart_89 ?_
            refine lv_imul X.x X.b dX7_readsPart_92 ?_
            refine lv_iload_n X.x X.b dX7_readsPart_93 rfl (lv_at hl 3 rfl) ?_
            obtain ⟨b36, hf⟩ := zg_in hf
            refine z_iast (w' := (wX7 Δ ad thr saved mlen q7.2 reads hash ms mpast mtext (upd mread (3 * reads).toNatClampNeg q1.1))) X Z 4 rfl b36 rfl dX7_readsPart_94 (fun H locs Z => ?_)
            refine lv_aload_n X.x X.b dX7_readsPart_95 rfl (lv_at hl 4 rfl) ?_
            refine z_gf inG_X7 (ci := 7) rfl 7 (Nat.le_of_ble_eq_true rfl) rfl X Z wd_829 0 rfl (v := .ref (ad 4)) rfl dX7_readsPart_96 ?_
            refine lv_iconst (v := 3) X.x X.b dX7_readsPart_99 ki_3 ?_
            refine lv_aload_n X.x X.b dX7_readsPart_100 rfl (lv_at hl 4 rfl) ?_
            refine z_gf inG_X7 (ci := 7) rfl 8 (Nat.le_of_ble_eq_true rfl) rfl X Z wd_830 0 rfl (v := .int reads) rfl dX7_readsPart_101 ?_
            refine lv_imul X.x X.b dX7_readsPart_104 ?_
            refine lv_iconst (v := 1) X.x X.b dX7_readsPart_105 ki_1 ?_
            refine lv_iadd X.x X.b dX7_readsPart_106 ?_
            refine lv_iload_n X.x X.b dX7_readsPart_107 rfl (lv_at hl 2 rfl) ?_
            obtain ⟨b37, hf⟩ := zg_in hf
            refine z_iast (w' := (wX7 Δ ad thr saved mlen q7.2 reads hash ms mpast mtext (upd (upd mread (3 * reads).toNatClampNeg q1.1) ((3 * reads) + 1).toNatClampNeg q7.1))) X Z 4 rfl b37 rfl dX7_readsPart_108 (fun H locs Z => ?_)
            refine lv_aload_n X.x X.b dX7_readsPart_109 rfl (lv_at hl 4 rfl) ?_
            refine z_gf inG_X7 (ci := 7) rfl 7 (Nat.le_of_ble_eq_true rfl) rfl X Z wd_829 0 rfl (v := .ref (ad 4)) rfl dX7_readsPart_110 ?_
            refine lv_iconst (v := 3) X.x X.b dX7_readsPart_113 ki_3 ?_
            refine lv_aload_n X.x X.b dX7_readsPart_114 rfl (lv_at hl 4 rfl) ?_
            refine z_gf inG_X7 (ci := 7) rfl 8 (Nat.le_of_ble_eq_true rfl) rfl X Z wd_830 0 rfl (v := .int reads) rfl dX7_readsPart_115 ?_
            refine lv_imul X.x X.b dX7_readsPart_118 ?_
            refine lv_iconst (v := 2) X.x X.b dX7_readsPart_119 ki_2 ?_
            refine lv_iadd X.x X.b dX7_readsPart_120 ?_
            refine lv_iload_n X.x X.b dX7_readsPart_121 rfl (lv_at hl 1 rfl) ?_
            obtain ⟨b38, hf⟩ := zg_in hf
            refine z_iast (w' := (wX7 Δ ad thr saved mlen q7.2 reads hash ms mpast mtext (upd (upd (upd mread (3 * reads).toNatClampNeg q1.1) ((3 * reads) + 1).toNatClampNeg q7.1) ((3 * reads) + 2).toNatClampNeg 10))) X Z 4 rfl b38 rfl dX7_readsPart_122 (fun H locs Z => ?_)
            refine lv_aload_n X.x X.b dX7_readsPart_123 rfl (lv_at hl 4 rfl) ?_
            refine lv_dup X.x X.b dX7_readsPart_124 rfl ?_
            refine z_gf inG_X7 (ci := 7) rfl 8 (Nat.le_of_ble_eq_true rfl) rfl X Z wd_830 0 rfl (v := .int reads) rfl dX7_readsPart_125 ?_
            refine lv_iconst (v := 1) X.x X.b dX7_readsPart_128 ki_1 ?_
            refine lv_iadd X.x X.b dX7_readsPart_129 ?_
            refine z_pf (w' := (wX7 Δ ad thr saved mlen q7.2 (reads + 1) hash ms mpast mtext (upd (upd (upd mread (3 * reads).toNatClampNeg q1.1) ((3 * reads) + 1).toNatClampNeg q7.1) ((3 * reads) + 2).toNatClampNeg 10))) inG_X7 (ci := 7) rfl tyX7 tyX7_ok nmX7 8 (Nat.le_of_ble_eq_true rfl) rfl rfl X Z wd_830 0 rfl rfl rfl (Nat.le_of_ble_eq_true rfl) rfl dX7_readsPart_130 (fun H locs Z => ?_)
            refine lv_iload X.x X.b dX7_readsPart_133 (lv_at hl 0 rfl) ?_
            cases hf
            exact z_zret X Z (Or.inr rfl) dX7_readsPart_135
      · have hf := zif_f b33 hf
        refine lv_iload_n X.x X.b dX7_readsPart_32 rfl (lv_at hl 0 rfl) ?_
        refine lv_bipush (v := (-2)) X.x X.b dX7_readsPart_33 kb_m2 ?_
        refine lv_icmp_le (tgt := 54) X.x X.b dX7_readsPart_35 (by decide) (fun b39 => ?_) (fun b39 => ?_)
        · have hf := zif_t b39 hf
          refine lv_bipush (v := 10) X.x X.b dX7_readsPart_54 kb_10 ?_
          refine lv_istore_n (lv' := [(3, .int 10), (2, .int q7.1), (1, .int q1.1), (0, .ref (ad 0))]) X.x X.b dX7_readsPart_56 rfl hl (Nat.le_of_ble_eq_true rfl) rfl (fun ls hl => ?_)
          refine lv_iload_n X.x X.b dX7_readsPart_57 rfl (lv_at hl 2 rfl) ?_
          refine lv_if_le (tgt := 75) X.x X.b dX7_readsPart_58 (by decide) (fun b40 => ?_) (fun b40 => ?_)
          · have hf := zif_t b40 hf
            refine lv_iconst (v := 0) X.x X.b dX7_readsPart_75 ki_0 ?_
            refine lv_istore (lv' := [(4, .int 0), (3, .int 10), (2, .int q7.1), (1, .int q1.1), (0, .ref (ad 0))]) X.x X.b dX7_readsPart_76 hl (Nat.le_of_ble_eq_true rfl) rfl (fun ls hl => ?_)
            refine lv_iload X.x X.b dX7_readsPart_78 (lv_at hl 0 rfl) ?_
            refine lv_if_eq (tgt := 133) X.x X.b dX7_readsPart_80 (by decide) (fun _ => ?_) (fun h => absurd h (by decide))
            refine lv_iload X.x X.b dX7_readsPart_133 (lv_at hl 0 rfl) ?_
            cases hf
            exact z_zret X Z (Or.inl rfl) dX7_readsPart_135
          · have hf := zif_f b40 hf
            refine lv_iload_n X.x X.b dX7_readsPart_61 rfl (lv_at hl 1 rfl) ?_
            refine lv_bipush (v := (-2)) X.x X.b dX7_readsPart_62 kb_m2 ?_
            refine lv_icmp_le (tgt := 75) X.x X.b dX7_readsPart_64 (by decide) (fun b41 => ?_) (fun b41 => ?_)
            · have hf := zif_t b41 hf
              refine lv_iconst (v := 0) X.x X.b dX7_readsPart_75 ki_0 ?_
              refine lv_istore (lv' := [(4, .int 0), (3, .int 10), (2, .int q7.1), (1, .int q1.1), (0, .ref (ad 0))]) X.x X.b dX7_readsPart_76 hl (Nat.le_of_ble_eq_true rfl) rfl (fun ls hl => ?_)
              refine lv_iload X.x X.b dX7_readsPart_78 (lv_at hl 0 rfl) ?_
              refine lv_if_eq (tgt := 133) X.x X.b dX7_readsPart_80 (by decide) (fun _ => ?_) (fun h => absurd h (by decide))
              refine lv_iload X.x X.b dX7_readsPart_133 (lv_at hl 0 rfl) ?_
              cases hf
              exact z_zret X Z (Or.inl rfl) dX7_readsPart_135
            · have hf := zif_f b41 hf
              refine lv_iload_n X.x X.b dX7_readsPart_67 rfl (lv_at hl 0 rfl) ?_
              refine lv_if_le (tgt := 75) X.x X.b dX7_readsPart_68 (by decide) (fun h => absurd h (by decide)) (fun _ => ?_)
              refine lv_iconst (v := 1) X.x X.b dX7_readsPart_71 ki_1 ?_
              refine lv_goto (tgt := 76) X.x X.b dX7_readsPart_72 (by decide) ?_
              refine lv_istore (lv' := [(4, .int 1), (3, .int 10), (2, .int q7.1), (1, .int q1.1), (0, .ref (ad 0))]) X.x X.b dX7_readsPart_76 hl (Nat.le_of_ble_eq_true rfl) rfl (fun ls hl => ?_)
              refine lv_iload X.x X.b dX7_readsPart_78 (lv_at hl 0 rfl) ?_
              refine lv_if_eq (tgt := 133) X.x X.b dX7_readsPart_80 (by decide) (fun h => absurd h (by decide)) (fun _ => ?_)
              refine lv_aload_n X.x X.b dX7_readsPart_83 rfl (lv_at hl 4 rfl) ?_
              refine z_gf inG_X7 (ci := 7) rfl 7 (Nat.le_of_ble_eq_true rfl) rfl X Z wd_829 0 rfl (v := .ref (ad 4)) rfl dX7_readsPart_84 ?_
              refine lv_iconst (v := 3) X.x X.b dX7_readsPart_87 ki_3 ?_
              refine lv_aload_n X.x X.b dX7_readsPart_88 rfl (lv_at hl 4 rfl) ?_
              refine z_gf inG_X7 (ci := 7) rfl 8 (Nat.le_of_ble_eq_true rfl) rfl X Z wd_830 0 rfl (v := .int reads) rfl dX7_readsPart_89 ?_
              refine lv_imul X.x X.b dX7_readsPart_92 ?_
              refine lv_iload_n X.x X.b dX7_readsPart_93 rfl (lv_at hl 3 rfl) ?_
              obtain ⟨b42, hf⟩ := zg_in hf
              refine z_iast (w' := (wX7 Δ ad thr saved mlen q7.2 reads hash ms mpast mtext (upd mread (3 * reads).toNatClampNeg q1.1))) X Z 4 rfl b42 rfl dX7_readsPart_94 (fun H locs Z => ?_)
              refine lv_aload_n X.x X.b dX7_readsPart_95 rfl (lv_at hl 4 rfl) ?_
              refine z_gf inG_X7 (ci := 7) rfl 7 (Nat.le_of_ble_eq_true rfl) rfl X Z wd_829 0 rfl (v := .ref (ad 4)) rfl dX7_readsPart_96 ?_
              refine lv_iconst (v := 3) X.x X.b dX7_readsPart_99 ki_3 ?_
              refine lv_aload_n X.x X.b dX7_readsPart_100 rfl (lv_at hl 4 rfl) ?_
              refine z_gf inG_X7 (ci := 7) rfl 8 (Nat.le_of_ble_eq_true rfl) rfl X Z wd_830 0 rfl (v := .int reads) rfl dX7_readsPart_101 ?_
              refine lv_imul X.x X.b dX7_readsPart_104 ?_
              refine lv_iconst (v := 1) X.x X.b dX7_readsPart_105 ki_1 ?_
              refine lv_iadd X.x X.b dX7_readsPart_106 ?_
              refine lv_iload_n X.x X.b dX7_readsPart_107 rfl (lv_at hl 2 rfl) ?_
              obtain ⟨b43, hf⟩ := zg_in hf
              refine z_iast (w' := (wX7 Δ ad thr saved mlen q7.2 reads hash ms mpast mtext (upd (upd mread (3 * reads).toNatClampNeg q1.1) ((3 * reads) + 1).toNatClampNeg q7.1))) X Z 4 rfl b43 rfl dX7_readsPart_108 (fun H locs Z => ?_)
              refine lv_aload_n X.x X.b dX7_readsPart_109 rfl (lv_at hl 4 rfl) ?_
              refine z_gf inG_X7 (ci := 7) rfl 7 (Nat.le_of_ble_eq_true rfl) rfl X Z wd_829 0 rfl (v := .ref (ad 4)) rfl dX7_readsPart_110 ?_
              refine lv_iconst (v := 3) X.x X.b dX7_readsPart_113 ki_3 ?_
              refine lv_aload_n X.x X.b dX7_readsPart_114 rfl (lv_at hl 4 rfl) ?_
              refine z_gf inG_X7 (ci := 7) rfl 8 (Nat.le_of_ble_eq_true rfl) rfl X Z wd_830 0 rfl (v := .int reads) rfl dX7_readsPart_115 ?_
              refine lv_imul X.x X.b dX7_readsPart_118 ?_
              refine lv_iconst (v := 2) X.x X.b dX7_readsPart_119 ki_2 ?_
              refine lv_iadd X.x X.b dX7_readsPart_120 ?_
              refine lv_iload_n X.x X.b dX7_readsPart_121 rfl (lv_at hl 1 rfl) ?_
              obtain ⟨b44, hf⟩ := zg_in hf
              refine z_iast (w' := (wX7 Δ ad thr saved mlen q7.2 reads hash ms mpast mtext (upd (upd (upd mread (3 * reads).toNatClampNeg q1.1) ((3 * reads) + 1).toNatClampNeg q7.1) ((3 * reads) + 2).toNatClampNeg 10))) X Z 4 rfl b44 rfl dX7_readsPart_122 (fun H locs Z => ?_)
              refine lv_aload_n X.x X.b dX7_readsPart_123 rfl (lv_at hl 4 rfl) ?_
              refine lv_dup X.x X.b dX7_readsPart_124 rfl ?_
              refine z_gf inG_X7 (ci := 7) rfl 8 (Nat.le_of_ble_eq_true rfl) rfl X Z wd_830 0 rfl (v := .int reads) rfl dX7_readsPart_125 ?_
              refine lv_iconst (v := 1) X.x X.b dX7_readsPart_128 ki_1 ?_
              refine lv_iadd X.x X.b dX7_readsPart_129 ?_
              refine z_pf (w' := (wX7 Δ ad thr saved mlen q7.2 (reads + 1) hash ms mpast mtext (upd (upd (upd mread (3 * reads).toNatClampNeg q1.1) ((3 * reads) + 1).toNatClampNeg q7.1) ((3 * reads) + 2).toNatClampNeg 10))) inG_X7 (ci := 7) rfl tyX7 tyX7_ok nmX7 8 (Nat.le_of_ble_eq_true rfl) rfl rfl X Z wd_830 0 rfl rfl rfl (Nat.le_of_ble_eq_true rfl) rfl dX7_readsPart_130 (fun H locs Z => ?_)
              refine lv_iload X.x X.b dX7_readsPart_133 (lv_at hl 0 rfl) ?_
              cases hf
              exact z_zret X Z (Or.inr rfl) dX7_readsPart_135
        · have hf := zif_f b39 hf
          refine lv_aload_n X.x X.b dX7_readsPart_38 rfl (lv_at hl 2 rfl) ?_
          refine lv_bipush (v := 119) X.x X.b dX7_readsPart_39 kb_119 ?_
          obtain ⟨q8, hq8, hf⟩ := zb_ok hf
          refine z_callV X Z hl (mX7_takes l Δ ad thr saved mlen q7.2 reads hash ms mpast mtext mread 119 hq8) wd_998 wd_1000 wd_38 wd_68 wd_1001 ok_X7_takes 7 rfl 0 rfl (w' := (wX7 Δ ad thr saved mlen q8.2 reads hash ms mpast mtext mread)) su_16 fs_16 pu_16 rfl (rest := []) rfl (Nat.le_of_ble_eq_true rfl) ⟨Nat.le_of_ble_eq_true rfl, Nat.le_of_ble_eq_true rfl⟩ ⟨Nat.zero_le _, Nat.zero_le _⟩ (st1 := [.int q8.1]) rfl dX7_readsPart_41 (fun H locs Z => ?_)
          refine lv_if_eq (tgt := 54) X.x X.b dX7_readsPart_44 (by decide) (fun b45 => ?_) (fun b45 => ?_)
          · have hf := zif_t b45 hf
            refine lv_bipush (v := 10) X.x X.b dX7_readsPart_54 kb_10 ?_
            refine lv_istore_n (lv' := [(3, .int 10), (2, .int q7.1), (1, .int q1.1), (0, .ref (ad 0))]) X.x X.b dX7_readsPart_56 rfl hl (Nat.le_of_ble_eq_true rfl) rfl (fun ls hl => ?_)
            refine lv_iload_n X.x X.b dX7_readsPart_57 rfl (lv_at hl 2 rfl) ?_
            refine lv_if_le (tgt := 75) X.x X.b dX7_readsPart_58 (by decide) (fun b46 => ?_) (fun b46 => ?_)
            · have hf := zif_t b46 hf
              refine lv_iconst (v := 0) X.x X.b dX7_readsPart_75 ki_0 ?_
              refine lv_istore (lv' := [(4, .int 0), (3, .int 10), (2, .int q7.1), (1, .int q1.1), (0, .ref (ad 0))]) X.x X.b dX7_readsPart_76 hl (Nat.le_of_ble_eq_true rfl) rfl (fun ls hl => ?_)
              refine lv_iload X.x X.b dX7_readsPart_78 (lv_at hl 0 rfl) ?_
              refine lv_if_eq (tgt := 133) X.x X.b dX7_readsPart_80 (by decide) (fun _ => ?_) (fun h => absurd h (by decide))
              refine lv_iload X.x X.b dX7_readsPart_133 (lv_at hl 0 rfl) ?_
              cases hf
              exact z_zret X Z (Or.inl rfl) dX7_readsPart_135
            · have hf := zif_f b46 hf
              refine lv_iload_n X.x X.b dX7_readsPart_61 rfl (lv_at hl 1 rfl) ?_
              refine lv_bipush (v := (-2)) X.x X.b dX7_readsPart_62 kb_m2 ?_
              refine lv_icmp_le (tgt := 75) X.x X.b dX7_readsPart_64 (by decide) (fun b47 => ?_) (fun b47 => ?_)
              · have hf := zif_t b47 hf
                refine lv_iconst (v := 0) X.x X.b dX7_readsPart_75 ki_0 ?_
                refine lv_istore (lv' := [(4, .int 0), (3, .int 10), (2, .int q7.1), (1, .int q1.1), (0, .ref (ad 0))]) X.x X.b dX7_readsPart_76 hl (Nat.le_of_ble_eq_true rfl) rfl (fun ls hl => ?_)
                refine lv_iload X.x X.b dX7_readsPart_78 (lv_at hl 0 rfl) ?_
                refine lv_if_eq (tgt := 133) X.x X.b dX7_readsPart_80 (by decide) (fun _ => ?_) (fun h => absurd h (by decide))
                refine lv_iload X.x X.b dX7_readsPart_133 (lv_at hl 0 rfl) ?_
                cases hf
                exact z_zret X Z (Or.inl rfl) dX7_readsPart_135
              · have hf := zif_f b47 hf
                refine lv_iload_n X.x X.b dX7_readsPart_67 rfl (lv_at hl 0 rfl) ?_
                refine lv_if_le (tgt := 75) X.x X.b dX7_readsPart_68 (by decide) (fun h => absurd h (by decide)) (fun _ => ?_)
                refine lv_iconst (v := 1) X.x X.b dX7_readsPart_71 ki_1 ?_
                refine lv_goto (tgt := 76) X.x X.b dX7_readsPart_72 (by decide) ?_
                refine lv_istore (lv' := [(4, .int 1), (3, .int 10), (2, .int q7.1), (1, .int q1.1), (0, .ref (ad 0))]) X.x X.b dX7_readsPart_76 hl (Nat.le_of_ble_eq_true rfl) rfl (fun ls hl => ?_)
                refine lv_iload X.x X.b dX7_readsPart_78 (lv_at hl 0 rfl) ?_
                refine lv_if_eq (tgt := 133) X.x X.b dX7_readsPart_80 (by decide) (fun h => absurd h (by decide)) (fun _ => ?_)
                refine lv_aload_n X.x X.b dX7_readsPart_83 rfl (lv_at hl 4 rfl) ?_
                refine z_gf inG_X7 (ci := 7) rfl 7 (Nat.le_of_ble_eq_true rfl) rfl X Z wd_829 0 rfl (v := .ref (ad 4)) rfl dX7_readsPart_84 ?_
                refine lv_iconst (v := 3) X.x X.b dX7_readsPart_87 ki_3 ?_
                refine lv_aload_n X.x X.b dX7_readsPart_88 rfl (lv_at hl 4 rfl) ?_
                refine z_gf inG_X7 (ci := 7) rfl 8 (Nat.le_of_ble_eq_true rfl) rfl X Z wd_830 0 rfl (v := .int reads) rfl dX7_readsPart_89 ?_
                refine lv_imul X.x X.b dX7_readsPart_92 ?_
                refine lv_iload_n X.x X.b dX7_readsPart_93 rfl (lv_at hl 3 rfl) ?_
                obtain ⟨b48, hf⟩ := zg_in hf
                refine z_iast (w' := (wX7 Δ ad thr saved mlen q8.2 reads hash ms mpast mtext (upd mread (3 * reads).toNatClampNeg q1.1))) X Z 4 rfl b48 rfl dX7_readsPart_94 (fun H locs Z => ?_)
                refine lv_aload_n X.x X.b dX7_readsPart_95 rfl (lv_at hl 4 rfl) ?_
                refine z_gf inG_X7 (ci := 7) rfl 7 (Nat.le_of_ble_eq_true rfl) rfl X Z wd_829 0 rfl (v := .ref (ad 4)) rfl dX7_readsPart_96 ?_
                refine lv_iconst (v := 3) X.x X.b dX7_readsPart_99 ki_3 ?_
                refine lv_aload_n X.x X.b dX7_readsPart_100 rfl (lv_at hl 4 rfl) ?_
                refine z_gf inG_X7 (ci := 7) rfl 8 (Nat.le_of_ble_eq_true rfl) rfl X Z wd_830 0 rfl (v := .int reads) rfl dX7_readsPart_101 ?_
                refine lv_imul X.x X.b dX7_readsPart_104 ?_
                refine lv_iconst (v := 1) X.x X.b dX7_readsPart_105 ki_1 ?_
                refine lv_iadd X.x X.b dX7_readsPart_106 ?_
                refine lv_iload_n X.x X.b dX7_readsPart_107 rfl (lv_at hl 2 rfl) ?_
                obtain ⟨b49, hf⟩ := zg_in hf
                refine z_iast (w' := (wX7 Δ ad thr saved mlen q8.2 reads hash ms mpast mtext (upd (upd mread (3 * reads).toNatClampNeg q1.1) ((3 * reads) + 1).toNatClampNeg q7.1))) X Z 4 rfl b49 rfl dX7_readsPart_108 (fun H locs Z => ?_)
                refine lv_aload_n X.x X.b dX7_readsPart_109 rfl (lv_at hl 4 rfl) ?_
                refine z_gf inG_X7 (ci := 7) rfl 7 (Nat.le_of_ble_eq_true rfl) rfl X Z wd_829 0 rfl (v := .ref (ad 4)) rfl dX7_readsPart_110 ?_
                refine lv_iconst (v := 3) X.x X.b dX7_readsPart_113 ki_3 ?_
                refine lv_aload_n X.x X.b dX7_readsPart_114 rfl (lv_at hl 4 rfl) ?_
                refine z_gf inG_X7 (ci := 7) rfl 8 (Nat.le_of_ble_eq_true rfl) rfl X Z wd_830 0 rfl (v := .int reads) rfl dX7_readsPart_115 ?_
                refine lv_imul X.x X.b dX7_readsPart_118 ?_
                refine lv_iconst (v := 2) X.x X.b dX7_readsPart_119 ki_2 ?_
                refine lv_iadd X.x X.b dX7_readsPart_120 ?_
                refine lv_iload_n X.x X.b dX7_readsPart_121 rfl (lv_at hl 1 rfl) ?_
                obtain ⟨b50, hf⟩ := zg_in hf
                refine z_iast (w' := (wX7 Δ ad thr saved mlen q8.2 reads hash ms mpast mtext (upd (upd (upd mread (3 * reads).toNatClampNeg q1.1) ((3 * reads) + 1).toNatClampNeg q7.1) ((3 * reads) + 2).toNatClampNeg 10))) X Z 4 rfl b50 rfl dX7_readsPart_122 (fun H locs Z => ?_)
                refine lv_aload_n X.x X.b dX7_readsPart_123 rfl (lv_at hl 4 rfl) ?_
                refine lv_dup X.x X.b dX7_readsPart_124 rfl ?_
                refine z_gf inG_X7 (ci := 7) rfl 8 (Nat.le_of_ble_eq_true rfl) rfl X Z wd_830 0 rfl (v := .int reads) rfl dX7_readsPart_125 ?_
                refine lv_iconst (v := 1) X.x X.b dX7_readsPart_128 ki_1 ?_
                refine lv_iadd X.x X.b dX7_readsPart_129 ?_
                refine z_pf (w' := (wX7 Δ ad thr saved mlen q8.2 (reads + 1) hash ms mpast mtext (upd (upd (upd mread (3 * reads).toNatClampNeg q1.1) ((3 * reads) + 1).toNatClampNeg q7.1) ((3 * reads) + 2).toNatClampNeg 10))) inG_X7 (ci := 7) rfl tyX7 tyX7_ok nmX7 8 (Nat.le_of_ble_eq_true rfl) rfl rfl X Z wd_830 0 rfl rfl rfl (Nat.le_of_ble_eq_true rfl) rfl dX7_readsPart_130 (fun H locs Z => ?_)
                refine lv_iload X.x X.b dX7_readsPart_133 (lv_at hl 0 rfl) ?_
                cases hf
                exact z_zret X Z (Or.inr rfl) dX7_readsPart_135
          · have hf := zif_f b45 hf
            refine lv_aload_n X.x X.b dX7_readsPart_47 rfl (lv_at hl 2 rfl) ?_
            obtain ⟨q9, hq9, hf⟩ := zb_ok hf
            refine z_callV X Z hl (mX7_readsWords l Δ ad thr saved mlen q8.2 reads hash ms mpast mtext mread hq9) wd_1006 wd_1008 wd_40 wd_68 wd_1009 ok_X7_readsWords 7 rfl 0 rfl (w' := (wX7 Δ ad thr saved mlen q9.2 reads hash ms mpast mtext mread)) su_16 fs_16 pu_16 rfl (rest := []) rfl (Nat.le_of_ble_eq_true rfl) ⟨Nat.le_of_ble_eq_true rfl, Nat.le_of_ble_eq_true rfl⟩ ⟨Nat.zero_le _, Nat.zero_le _⟩ (st1 := [.int q9.1]) rfl dX7_readsPart_48 (fun H locs Z => ?_)
            refine lv_goto (tgt := 56) X.x X.b dX7_readsPart_51 (by decide) ?_
            refine lv_istore_n (lv' := [(3, .int q9.1), (2, .int q7.1), (1, .int q1.1), (0, .ref (ad 0))]) X.x X.b dX7_readsPart_56 rfl hl (Nat.le_of_ble_eq_true rfl) rfl (fun ls hl => ?_)
            refine lv_iload_n X.x X.b dX7_readsPart_57 rfl (lv_at hl 2 rfl) ?_
            refine lv_if_le (tgt := 75) X.x X.b dX7_readsPart_58 (by decide) (fun b51 => ?_) (fun b51 => ?_)
            · have hf := zif_t b51 hf
              refine lv_iconst (v := 0) X.x X.b dX7_readsPart_75 ki_0 ?_
              refine lv_istore (lv' := [(4, .int 0), (3, .int q9.1), (2, .int q7.1), (1, .int q1.1), (0, .ref (ad 0))]) X.x X.b dX7_readsPart_76 hl (Nat.le_of_ble_eq_true rfl) rfl (fun ls hl => ?_)
              refine lv_iload X.x X.b dX7_readsPart_78 (lv_at hl 0 rfl) ?_
              refine lv_if_eq (tgt := 133) X.x X.b dX7_readsPart_80 (by decide) (fun _ => ?_) (fun h => absurd h (by decide))
              refine lv_iload X.x X.b dX7_readsPart_133 (lv_at hl 0 rfl) ?_
              cases hf
              exact z_zret X Z (Or.inl rfl) dX7_readsPart_135
            · have hf := zif_f b51 hf
              refine lv_iload_n X.x X.b dX7_readsPart_61 rfl (lv_at hl 1 rfl) ?_
              refine lv_bipush (v := (-2)) X.x X.b dX7_readsPart_62 kb_m2 ?_
              refine lv_icmp_le (tgt := 75) X.x X.b dX7_readsPart_64 (by decide) (fun b52 => ?_) (fun b52 => ?_)
              · have hf := zif_t b52 hf
                refine lv_iconst (v := 0) X.x X.b dX7_readsPart_75 ki_0 ?_
                refine lv_istore (lv' := [(4, .int 0), (3, .int q9.1), (2, .int q7.1), (1, .int q1.1), (0, .ref (ad 0))]) X.x X.b dX7_readsPart_76 hl (Nat.le_of_ble_eq_true rfl) rfl (fun ls hl => ?_)
                refine lv_iload X.x X.b dX7_readsPart_78 (lv_at hl 0 rfl) ?_
                refine lv_if_eq (tgt := 133) X.x X.b dX7_readsPart_80 (by decide) (fun _ => ?_) (fun h => absurd h (by decide))
                refine lv_iload X.x X.b dX7_readsPart_133 (lv_at hl 0 rfl) ?_
                cases hf
                exact z_zret X Z (Or.inl rfl) dX7_readsPart_135
              · have hf := zif_f b52 hf
                refine lv_iload_n X.x X.b dX7_readsPart_67 rfl (lv_at hl 0 rfl) ?_
                refine lv_if_le (tgt := 75) X.x X.b dX7_readsPart_68 (by decide) (fun b53 => ?_) (fun b53 => ?_)
                · have hf := zif_t b53 hf
                  refine lv_iconst (v := 0) X.x X.b dX7_readsPart_75 ki_0 ?_
                  refine lv_istore (lv' := [(4, .int 0), (3, .int q9.1), (2, .int q7.1), (1, .int q1.1), (0, .ref (ad 0))]) X.x X.b dX7_readsPart_76 hl (Nat.le_of_ble_eq_true rfl) rfl (fun ls hl => ?_)
                  refine lv_iload X.x X.b dX7_readsPart_78 (lv_at hl 0 rfl) ?_
                  refine lv_if_eq (tgt := 133) X.x X.b dX7_readsPart_80 (by decide) (fun _ => ?_) (fun h => absurd h (by decide))
                  refine lv_iload X.x X.b dX7_readsPart_133 (lv_at hl 0 rfl) ?_
                  cases hf
                  exact z_zret X Z (Or.inl rfl) dX7_readsPart_135
                · have hf := zif_f b53 hf
                  refine lv_iconst (v := 1) X.x X.b dX7_readsPart_71 ki_1 ?_
                  refine lv_goto (tgt := 76) X.x X.b dX7_readsPart_72 (by decide) ?_
                  refine lv_istore (lv' := [(4, .int 1), (3, .int q9.1), (2, .int q7.1), (1, .int q1.1), (0, .ref (ad 0))]) X.x X.b dX7_readsPart_76 hl (Nat.le_of_ble_eq_true rfl) rfl (fun ls hl => ?_)
                  refine lv_iload X.x X.b dX7_readsPart_78 (lv_at hl 0 rfl) ?_
                  refine lv_if_eq (tgt := 133) X.x X.b dX7_readsPart_80 (by decide) (fun h => absurd h (by decide)) (fun _ => ?_)
                  refine lv_aload_n X.x X.b dX7_readsPart_83 rfl (lv_at hl 4 rfl) ?_
                  refine z_gf inG_X7 (ci := 7) rfl 7 (Nat.le_of_ble_eq_true rfl) rfl X Z wd_829 0 rfl (v := .ref (ad 4)) rfl dX7_readsPart_84 ?_
                  refine lv_iconst (v := 3) X.x X.b dX7_readsPart_87 ki_3 ?_
                  refine lv_aload_n X.x X.b dX7_readsPart_88 rfl (lv_at hl 4 rfl) ?_
                  refine z_gf inG_X7 (ci := 7) rfl 8 (Nat.le_of_ble_eq_true rfl) rfl X Z wd_830 0 rfl (v := .int reads) rfl dX7_readsPart_89 ?_
                  refine lv_imul X.x X.b dX7_readsPart_92 ?_
                  refine lv_iload_n X.x X.b dX7_readsPart_93 rfl (lv_at hl 3 rfl) ?_
                  obtain ⟨b54, hf⟩ := zg_in hf
                  refine z_iast (w' := (wX7 Δ ad thr saved mlen q9.2 reads hash ms mpast mtext (upd mread (3 * reads).toNatClampNeg q1.1))) X Z 4 rfl b54 rfl dX7_readsPart_94 (fun H locs Z => ?_)
                  refine lv_aload_n X.x X.b dX7_readsPart_95 rfl (lv_at hl 4 rfl) ?_
                  refine z_gf inG_X7 (ci := 7) rfl 7 (Nat.le_of_ble_eq_true rfl) rfl X Z wd_829 0 rfl (v := .ref (ad 4)) rfl dX7_readsPart_96 ?_
                  refine lv_iconst (v := 3) X.x X.b dX7_readsPart_99 ki_3 ?_
                  refine lv_aload_n X.x X.b dX7_readsPart_100 rfl (lv_at hl 4 rfl) ?_
                  refine z_gf inG_X7 (ci := 7) rfl 8 (Nat.le_of_ble_eq_true rfl) rfl X Z wd_830 0 rfl (v := .int reads) rfl dX7_readsPart_101 ?_
                  refine lv_imul X.x X.b dX7_readsPart_104 ?_
                  refine lv_iconst (v := 1) X.x X.b dX7_readsPart_105 ki_1 ?_
                  refine lv_iadd X.x X.b dX7_readsPart_106 ?_
                  refine lv_iload_n X.x X.b dX7_readsPart_107 rfl (lv_at hl 2 rfl) ?_
                  obtain ⟨b55, hf⟩ := zg_in hf
                  refine z_iast (w' := (wX7 Δ ad thr saved mlen q9.2 reads hash ms mpast mtext (upd (upd mread (3 * reads).toNatClampNeg q1.1) ((3 * reads) + 1).toNatClampNeg q7.1))) X Z 4 rfl b55 rfl dX7_readsPart_108 (fun H locs Z => ?_)
                  refine lv_aload_n X.x X.b dX7_readsPart_109 rfl (lv_at hl 4 rfl) ?_
                  refine z_gf inG_X7 (ci := 7) rfl 7 (Nat.le_of_ble_eq_true rfl) rfl X Z wd_829 0 rfl (v := .ref (ad 4)) rfl dX7_readsPart_110 ?_
                  refine lv_iconst (v := 3) X.x X.b dX7_readsPart_113 ki_3 ?_
                  refine lv_aload_n X.x X.b dX7_readsPart_114 rfl (lv_at hl 4 rfl) ?_
                  refine z_gf inG_X7 (ci := 7) rfl 8 (Nat.le_of_ble_eq_true rfl) rfl X Z wd_830 0 rfl (v := .int reads) rfl dX7_readsPart_115 ?_
                  refine lv_imul X.x X.b dX7_readsPart_118 ?_
                  refine lv_iconst (v := 2) X.x X.b dX7_readsPart_119 ki_2 ?_
                  refine lv_iadd X.x X.b dX7_readsPart_120 ?_
                  refine lv_iload_n X.x X.b dX7_readsPart_121 rfl (lv_at hl 1 rfl) ?_
                  obtain ⟨b56, hf⟩ := zg_in hf
                  refine z_iast (w' := (wX7 Δ ad thr saved mlen q9.2 reads hash ms mpast mtext (upd (upd (upd mread (3 * reads).toNatClampNeg q1.1) ((3 * reads) + 1).toNatClampNeg q7.1) ((3 * reads) + 2).toNatClampNeg q9.1))) X Z 4 rfl b56 rfl dX7_readsPart_122 (fun H locs Z => ?_)
                  refine lv_aload_n X.x X.b dX7_readsPart_123 rfl (lv_at hl 4 rfl) ?_
                  refine lv_dup X.x X.b dX7_readsPart_124 rfl ?_
                  refine z_gf inG_X7 (ci := 7) rfl 8 (Nat.le_of_ble_eq_true rfl) rfl X Z wd_830 0 rfl (v := .int reads) rfl dX7_readsPart_125 ?_
                  refine lv_iconst (v := 1) X.x X.b dX7_readsPart_128 ki_1 ?_
                  refine lv_iadd X.x X.b dX7_readsPart_129 ?_
                  refine z_pf (w' := (wX7 Δ ad thr saved mlen q9.2 (reads + 1) hash ms mpast mtext (upd (upd (upd mread (3 * reads).toNatClampNeg q1.1) ((3 * reads) + 1).toNatClampNeg q7.1) ((3 * reads) + 2).toNatClampNeg q9.1))) inG_X7 (ci := 7) rfl tyX7 tyX7_ok nmX7 8 (Nat.le_of_ble_eq_true rfl) rfl rfl X Z wd_830 0 rfl rfl rfl (Nat.le_of_ble_eq_true rfl) rfl dX7_readsPart_130 (fun H locs Z => ?_)
                  refine lv_iload X.x X.b dX7_readsPart_133 (lv_at hl 0 rfl) ?_
                  cases hf
                  exact z_zret X Z (Or.inr rfl) dX7_readsPart_135
