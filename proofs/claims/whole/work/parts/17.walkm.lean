set_option maxRecDepth 100000 in
set_option maxHeartbeats 4000000 in
theorem mX7_isText (l : Launch) (Δ : zE) (ad : Nat → Nat) (thr : Int32) (saved : Int32) (mlen : Int32) (spot : Int32) (reads : Int32) (hash : Int64) (ms : Nat → Int32) (mpast : Nat → Int32) (mtext : Nat → Int32) (mread : Nat → Int32)  {res : Int32 × Int32 × Int32 × (Nat → Int32)} (hf : fX7_isText mlen spot reads mtext mread = some res) : zMet l Δ yX7_isText cX7_isText 2 (some .boolean) 4 90 [.ref (ad 0)] (wX7 Δ ad thr saved mlen spot reads hash ms mpast mtext mread) (wX7 Δ ad thr saved mlen res.2.1 res.2.2.1 hash ms mpast mtext res.2.2.2) (some (.int res.1)) := by
  refine z_start (by decide +kernel) (Nat.le_of_ble_eq_true rfl) ?_
  intro p e s m args below meth c A ls X Z hl
  have hl : lv_has ls 2 [(0, .ref (ad 0))] := hl
  have L12 : ∀ (k : Nat) (mlen : Int32) (spot : Int32) (reads : Int32) (mtext : Nat → Int32) (mread : Nat → Int32) (v1 : Int32), fX7_isText_12 k mlen spot reads mtext mread v1 = some res → ∀ (H : Heap) (locs : List Loc) (ls : Array Slot), zW Δ A s.heap (wX7 Δ ad thr saved mlen spot reads hash ms mpast mtext mread) H locs → lv_has ls 2 [(0, .ref (ad 0)), (1, .int v1)] → W p l e { frames := 4, cells := 0, slots := 0, locals := 90 } s m args below meth c H locs 0 0 (zEnd Δ below args s 0 0 A (some (.int res.1)) (wX7 Δ ad thr saved mlen res.2.1 res.2.2.1 hash ms mpast mtext res.2.2.2)) (F0 m 12 ls []) := by
    intro k
    induction k with
    | zero =>
      intro mlen spot reads mtext mread v1 hf
      rw [fX7_isText_12.eq_1] at hf
      cases hf
    | succ k ih =>
      intro mlen spot reads mtext mread v1 hf H locs ls Z hl
      rw [fX7_isText_12.eq_2] at hf
      refine lv_iload_n X.x X.b dX7_isText_12 rfl (lv_at hl 1 rfl) ?_
      refine lv_if_eq (tgt := 35) X.x X.b dX7_isText_13 (by decide) (fun b1 => ?_) (fun b1 => ?_)
      · have hf := zif_t b1 hf
        refine lv_aload_n X.x X.b dX7_isText_35 rfl (lv_at hl 0 rfl) ?_
        refine z_gf inG_X7 (ci := 7) rfl 6 (Nat.le_of_ble_eq_true rfl) rfl X Z wd_828 0 rfl (v := .int spot) rfl dX7_isText_36 ?_
        refine lv_aload_n X.x X.b dX7_isText_39 rfl (lv_at hl 0 rfl) ?_
        refine z_gf inG_X7 (ci := 7) rfl 5 (Nat.le_of_ble_eq_true rfl) rfl X Z wd_827 0 rfl (v := .int mlen) rfl dX7_isText_40 ?_
        refine lv_icmp_ne (tgt := 50) X.x X.b dX7_isText_43 (by decide) (fun b2 => ?_) (fun b2 => ?_)
        · have hf := zif_f b2 hf
          refine lv_iconst (v := 0) X.x X.b dX7_isText_50 ki_0 ?_
          cases hf
          exact z_zret X Z (Or.inl rfl) dX7_isText_51
        · have hf := zif_t b2 hf
          refine lv_iconst (v := 1) X.x X.b dX7_isText_46 ki_1 ?_
          refine lv_goto (tgt := 51) X.x X.b dX7_isText_47 (by decide) ?_
          cases hf
          exact z_zret X Z (Or.inr rfl) dX7_isText_51
      · have hf := zif_f b1 hf
        refine lv_aload_n X.x X.b dX7_isText_16 rfl (lv_at hl 0 rfl) ?_
        obtain ⟨q1, hq1, hf⟩ := zb_ok hf
        refine z_callV X Z hl (mX7_readsPart l Δ ad thr saved mlen spot reads hash ms mpast mtext mread hq1) wd_986 wd_988 wd_35 wd_68 wd_989 ok_X7_readsPart 7 rfl 0 rfl (w' := (wX7 Δ ad thr saved mlen q1.2.1 q1.2.2.1 hash ms mpast mtext q1.2.2.2)) su_16 fs_16 pu_16 rfl (rest := []) rfl (Nat.le_of_ble_eq_true rfl) ⟨Nat.le_of_ble_eq_true rfl, Nat.le_of_ble_eq_true rfl⟩ ⟨Nat.zero_le _, Nat.zero_le _⟩ (st1 := [.int q1.1]) rfl dX7_isText_17 (fun H locs Z => ?_)
        refine lv_if_ne (tgt := 25) X.x X.b dX7_isText_20 (by decide) (fun b3 => ?_) (fun b3 => ?_)
        · have hf := zif_f b3 hf
          refine lv_aload_n X.x X.b dX7_isText_25 rfl (lv_at hl 0 rfl) ?_
          refine lv_bipush (v := 59) X.x X.b dX7_isText_26 kb_59 ?_
          obtain ⟨q2, hq2, hf⟩ := zb_ok hf
          refine z_callV X Z hl (mX7_takes l Δ ad thr saved mlen q1.2.1 q1.2.2.1 hash ms mpast mtext q1.2.2.2 59 hq2) wd_998 wd_1000 wd_38 wd_68 wd_1001 ok_X7_takes 7 rfl 0 rfl (w' := (wX7 Δ ad thr saved mlen q2.2 q1.2.2.1 hash ms mpast mtext q1.2.2.2)) su_16 fs_16 pu_16 rfl (rest := []) rfl (Nat.le_of_ble_eq_true rfl) ⟨Nat.le_of_ble_eq_true rfl, Nat.le_of_ble_eq_true rfl⟩ ⟨Nat.zero_le _, Nat.zero_le _⟩ (st1 := [.int q2.1]) rfl dX7_isText_28 (fun H locs Z => ?_)
          refine lv_istore_n (lv' := [(1, .int q2.1), (0, .ref (ad 0))]) X.x X.b dX7_isText_31 rfl hl (Nat.le_of_ble_eq_true rfl) rfl (fun ls hl => ?_)
          refine lv_goto (tgt := 12) X.x X.b dX7_isText_32 (by decide) ?_
          exact ih mlen q2.2 q1.2.2.1 mtext q1.2.2.2 q2.1 hf _ _ _ Z (lv_sub hl [1, 0] rfl)
        · have hf := zif_t b3 hf
          refine lv_iconst (v := 0) X.x X.b dX7_isText_23 ki_0 ?_
          cases hf
          exact z_zret X Z (Or.inl rfl) dX7_isText_24
  rw [fX7_isText.eq_1] at hf
  refine lv_aload_n X.x X.b dX7_isText_0 rfl (lv_at hl 0 rfl) ?_
  refine lv_iconst (v := 0) X.x X.b dX7_isText_1 ki_0 ?_
  refine z_pf (w' := (wX7 Δ ad thr saved mlen 0 reads hash ms mpast mtext mread)) inG_X7 (ci := 7) rfl tyX7 tyX7_ok nmX7 6 (Nat.le_of_ble_eq_true rfl) rfl rfl X Z wd_828 0 rfl rfl rfl (Nat.le_of_ble_eq_true rfl) rfl dX7_isText_2 (fun H locs Z => ?_)
  refine lv_aload_n X.x X.b dX7_isText_5 rfl (lv_at hl 0 rfl) ?_
  refine lv_iconst (v := 0) X.x X.b dX7_isText_6 ki_0 ?_
  refine z_pf (w' := (wX7 Δ ad thr saved mlen 0 0 hash ms mpast mtext mread)) inG_X7 (ci := 7) rfl tyX7 tyX7_ok nmX7 8 (Nat.le_of_ble_eq_true rfl) rfl rfl X Z wd_830 0 rfl rfl rfl (Nat.le_of_ble_eq_true rfl) rfl dX7_isText_7 (fun H locs Z => ?_)
  refine lv_iconst (v := 1) X.x X.b dX7_isText_10 ki_1 ?_
  refine lv_istore_n (lv' := [(1, .int 1), (0, .ref (ad 0))]) X.x X.b dX7_isText_11 rfl hl (Nat.le_of_ble_eq_true rfl) rfl (fun ls hl => ?_)
  exact L12 zfuel mlen 0 0 mtext mread 1 hf _ _ _ Z (lv_sub hl [1, 0] rfl)
set_option maxRecDepth 100000 in
set_option maxHeartbeats 4000000 in
theorem mX7_firstError (l : Launch) (Δ : zE) (ad : Nat → Nat) (thr : Int32) (saved : Int32) (mlen : Int32) (spot : Int32) (reads : Int32) (hash : Int64) (ms : Nat → Int32) (mpast : Nat → Int32) (mtext : Nat → Int32) (mread : Nat → Int32)  {res : Int32 × Int32 × Int32 × Int32 × (Nat → Int32)} (hf : fX7_firstError thr mlen spot reads mtext mread = some res) : zMet l Δ yX7_firstError cX7_firstError 2 (some .int) 5 111 [.ref (ad 0)] (wX7 Δ ad thr saved mlen spot reads hash ms mpast mtext mread) (wX7 Δ ad res.2.1 saved mlen res.2.2.1 res.2.2.2.1 hash ms mpast mtext res.2.2.2.2) (some (.int res.1)) := by
  refine z_start (by decide +kernel) (Nat.le_of_ble_eq_true rfl) ?_
  intro p e s m args below meth c A ls X Z hl
  have hl : lv_has ls 2 [(0, .ref (ad 0))] := hl
  rw [fX7_firstError.eq_1] at hf
  refine lv_aload_n X.x X.b dX7_firstError_0 rfl (lv_at hl 0 rfl) ?_
  refine lv_iconst (v := 0) X.x X.b dX7_firstError_1 ki_0 ?_
  refine z_pf (w' := (wX7 Δ ad 0 saved mlen spot reads hash ms mpast mtext mread)) inG_X7 (ci := 7) rfl tyX7 tyX7_ok nmX7 0 (Nat.le_of_ble_eq_true rfl) rfl rfl X Z wd_822 0 rfl rfl rfl (Nat.le_of_ble_eq_true rfl) rfl dX7_firstError_2 (fun H locs Z => ?_)
  refine lv_aload_n X.x X.b dX7_firstError_5 rfl (lv_at hl 0 rfl) ?_
  obtain ⟨q1, hq1, hf⟩ := zb_ok hf
  refine z_callV X Z hl (mX7_isText l Δ ad 0 saved mlen spot reads hash ms mpast mtext mread hq1) wd_982 wd_984 wd_34 wd_68 wd_985 ok_X7_isText 7 rfl 0 rfl (w' := (wX7 Δ ad 0 saved mlen q1.2.1 q1.2.2.1 hash ms mpast mtext q1.2.2.2)) su_16 fs_16 pu_16 rfl (rest := []) rfl (Nat.le_of_ble_eq_true rfl) ⟨Nat.le_of_ble_eq_true rfl, Nat.le_of_ble_eq_true rfl⟩ ⟨Nat.zero_le _, Nat.zero_le _⟩ (st1 := [.int q1.1]) rfl dX7_firstError_6 (fun H locs Z => ?_)
  refine lv_istore_n (lv' := [(1, .int q1.1), (0, .ref (ad 0))]) X.x X.b dX7_firstError_9 rfl hl (Nat.le_of_ble_eq_true rfl) rfl (fun ls hl => ?_)
  refine lv_iload_n X.x X.b dX7_firstError_10 rfl (lv_at hl 0 rfl) ?_
  refine lv_if_eq (tgt := 21) X.x X.b dX7_firstError_11 (by decide) (fun b1 => ?_) (fun b1 => ?_)
  · have hf := zif_t b1 hf
    refine lv_aload_n X.x X.b dX7_firstError_21 rfl (lv_at hl 1 rfl) ?_
    refine z_gf inG_X7 (ci := 7) rfl 6 (Nat.le_of_ble_eq_true rfl) rfl X Z wd_828 0 rfl (v := .int q1.2.1) rfl dX7_firstError_22 ?_
    cases hf
    exact z_iret X Z dX7_firstError_25
  · have hf := zif_f b1 hf
    refine lv_aload_n X.x X.b dX7_firstError_14 rfl (lv_at hl 1 rfl) ?_
    refine z_gf inG_X7 (ci := 7) rfl 5 (Nat.le_of_ble_eq_true rfl) rfl X Z wd_827 0 rfl (v := .int mlen) rfl dX7_firstError_15 ?_
    refine lv_goto (tgt := 25) X.x X.b dX7_firstError_18 (by decide) ?_
    cases hf
    exact z_iret X Z dX7_firstError_25
set_option maxRecDepth 100000 in
set_option maxHeartbeats 4000000 in
theorem mX7_addAll (l : Launch) (Δ : zE) (ad : Nat → Nat) (thr : Int32) (saved : Int32) (mlen : Int32) (spot : Int32) (reads : Int32) (hash : Int64) (ms : Nat → Int32) (mpast : Nat → Int32) (mtext : Nat → Int32) (mread : Nat → Int32)  {res : Int32 × Int32 × Int32 × Int32 × Int32 × Int32 × (Nat → Int32) × (Nat → Int32) × (Nat → Int32)} (hf : fX7_addAll thr saved mlen spot reads ms mpast mtext mread = some res) : zMet l Δ yX7_addAll cX7_addAll 3 (some .int) 5 111 [.ref (ad 0)] (wX7 Δ ad thr saved mlen spot reads hash ms mpast mtext mread) (wX7 Δ ad res.2.1 res.2.2.1 res.2.2.2.1 res.2.2.2.2.1 res.2.2.2.2.2.1 hash res.2.2.2.2.2.2.1 res.2.2.2.2.2.2.2.1 mtext res.2.2.2.2.2.2.2.2) (some (.int res.1)) := by
  refine z_start (by decide +kernel) (Nat.le_of_ble_eq_true rfl) ?_
  intro p e s m args below meth c A ls X Z hl
  have hl : lv_has ls 3 [(0, .ref (ad 0))] := hl
  have L49 : ∀ (k : Nat) (thr : Int32) (saved : Int32) (mlen : Int32) (spot : Int32) (reads : Int32) (ms : Nat → Int32) (mpast : Nat → Int32) (mtext : Nat → Int32) (mread : Nat → Int32) (v2 : Int32), fX7_addAll_49 k thr saved mlen spot reads ms mpast mtext mread v2 = some res → ∀ (H : Heap) (locs : List Loc) (ls : Array Slot), zW Δ A s.heap (wX7 Δ ad thr saved mlen spot reads hash ms mpast mtext mread) H locs → lv_has ls 3 [(0, .ref (ad 0)), (2, .int v2)] → W p l e { frames := 5, cells := 0, slots := 0, locals := 111 } s m args below meth c H locs 0 0 (zEnd Δ below args s 0 0 A (some (.int res.1)) (wX7 Δ ad res.2.1 res.2.2.1 res.2.2.2.1 res.2.2.2.2.1 res.2.2.2.2.2.1 hash res.2.2.2.2.2.2.1 res.2.2.2.2.2.2.2.1 mtext res.2.2.2.2.2.2.2.2)) (F0 m 49 ls []) := by
    intro k
    induction k with
    | zero =>
      intro thr saved mlen spot reads ms mpast mtext mread v2 hf
      rw [fX7_addAll_49.eq_1] at hf
      cases hf
    | succ k ih =>
      intro thr saved mlen spot reads ms mpast mtext mread v2 hf H locs ls Z hl
      rw [fX7_addAll_49.eq_2] at hf
      refine lv_iload_n X.x X.b dX7_addAll_49 rfl (lv_at hl 1 rfl) ?_
      refine lv_aload_n X.x X.b dX7_addAll_50 rfl (lv_at hl 0 rfl) ?_
      refine z_gf inG_X7 (ci := 7) rfl 8 (Nat.le_of_ble_eq_true rfl) rfl X Z wd_830 0 rfl (v := .int reads) rfl dX7_addAll_51 ?_
      refine lv_icmp_ge (tgt := 95) X.x X.b dX7_addAll_54 (by decide) (fun b1 => ?_) (fun b1 => ?_)
      · have hf := zif_t b1 hf
        refine lv_aload_n X.x X.b dX7_addAll_95 rfl (lv_at hl 0 rfl) ?_
        refine lv_iconst (v := 0) X.x X.b dX7_addAll_96 ki_0 ?_
        refine z_pf (w' := (wX7 Δ ad thr saved 0 spot reads hash ms mpast mtext mread)) inG_X7 (ci := 7) rfl tyX7 tyX7_ok nmX7 5 (Nat.le_of_ble_eq_true rfl) rfl rfl X Z wd_827 0 rfl rfl rfl (Nat.le_of_ble_eq_true rfl) rfl dX7_addAll_97 (fun H locs Z => ?_)
        refine lv_aload_n X.x X.b dX7_addAll_100 rfl (lv_at hl 0 rfl) ?_
        refine z_gf inG_X7 (ci := 7) rfl 1 (Nat.le_of_ble_eq_true rfl) rfl X Z wd_823 0 rfl (v := .ref (ad 1)) rfl dX7_addAll_101 ?_
        refine lv_iconst (v := 0) X.x X.b dX7_addAll_104 ki_0 ?_
        refine z_iald X Z 1 rfl (zvin (by decide)) dX7_addAll_105 ?_
        cases hf
        exact z_iret X Z dX7_addAll_106
      · have hf := zif_f b1 hf
        refine lv_aload_n X.x X.b dX7_addAll_57 rfl (lv_at hl 0 rfl) ?_
        refine lv_aload_n X.x X.b dX7_addAll_58 rfl (lv_at hl 0 rfl) ?_
        refine z_gf inG_X7 (ci := 7) rfl 7 (Nat.le_of_ble_eq_true rfl) rfl X Z wd_829 0 rfl (v := .ref (ad 4)) rfl dX7_addAll_59 ?_
        refine lv_iconst (v := 3) X.x X.b dX7_addAll_62 ki_3 ?_
        refine lv_iload_n X.x X.b dX7_addAll_63 rfl (lv_at hl 1 rfl) ?_
        refine lv_imul X.x X.b dX7_addAll_64 ?_
        obtain ⟨b2, hf⟩ := zg_in hf
        refine z_iald X Z 4 rfl b2 dX7_addAll_65 ?_
        refine lv_aload_n X.x X.b dX7_addAll_66 rfl (lv_at hl 0 rfl) ?_
        refine z_gf inG_X7 (ci := 7) rfl 7 (Nat.le_of_ble_eq_true rfl) rfl X Z wd_829 0 rfl (v := .ref (ad 4)) rfl dX7_addAll_67 ?_
        refine lv_iconst (v := 3) X.x X.b dX7_addAll_70 ki_3 ?_
        refine lv_iload_n X.x X.b dX7_addAll_71 rfl (lv_at hl 1 rfl) ?_
        refine lv_imul X.x X.b dX7_addAll_72 ?_
        refine lv_iconst (v := 1) X.x X.b dX7_addAll_73 ki_1 ?_
        refine lv_iadd X.x X.b dX7_addAll_74 ?_
        obtain ⟨b3, hf⟩ := zg_in hf
        refine z_iald X Z 4 rfl b3 dX7_addAll_75 ?_
        refine lv_aload_n X.x X.b dX7_addAll_76 rfl (lv_at hl 0 rfl) ?_
        refine z_gf inG_X7 (ci := 7) rfl 7 (Nat.le_of_ble_eq_true rfl) rfl X Z wd_829 0 rfl (v := .ref (ad 4)) rfl dX7_addAll_77 ?_
        refine lv_iconst (v := 3) X.x X.b dX7_addAll_80 ki_3 ?_
        refine lv_iload_n X.x X.b dX7_addAll_81 rfl (lv_at hl 1 rfl) ?_
        refine lv_imul X.x X.b dX7_addAll_82 ?_
        refine lv_iconst (v := 2) X.x X.b dX7_addAll_83 ki_2 ?_
        refine lv_iadd X.x X.b dX7_addAll_84 ?_
        obtain ⟨b4, hf⟩ := zg_in hf
        refine z_iald X Z 4 rfl b4 dX7_addAll_85 ?_
        obtain ⟨q1, hq1, hf⟩ := zb_ok hf
        refine z_callV X Z hl (mX7_adds l Δ ad thr saved mlen spot reads hash ms mpast mtext mread (mread (3 * v2).toNatClampNeg) (mread ((3 * v2) + 1).toNatClampNeg) (mread ((3 * v2) + 2).toNatClampNeg) hq1) wd_880 wd_882 wd_20 wd_68 wd_883 ok_X7_adds 7 rfl 0 rfl (w' := (wX7 Δ ad thr saved mlen spot reads hash q1 mpast mtext mread)) su_16 fs_16 pu_16 rfl (rest := []) rfl (Nat.le_of_ble_eq_true rfl) ⟨Nat.le_of_ble_eq_true rfl, Nat.le_of_ble_eq_true rfl⟩ ⟨Nat.zero_le _, Nat.zero_le _⟩ (st1 := []) rfl dX7_addAll_86 (fun H locs Z => ?_)
        refine lv_iinc (v := (v2 + 1)) (lv' := [(2, .int (v2 + 1)), (0, .ref (ad 0))]) X.x X.b dX7_addAll_89 hl (k := 1) rfl (congrArg _ ki_1) (Nat.le_of_ble_eq_true rfl) rfl (fun ls hl => ?_)
        refine lv_goto (tgt := 49) X.x X.b dX7_addAll_92 (by decide) ?_
        exact ih thr saved mlen spot reads q1 mpast mtext mread (v2 + 1) hf _ _ _ Z (lv_sub hl [1, 0] rfl)
  rw [fX7_addAll.eq_1] at hf
  refine lv_aload_n X.x X.b dX7_addAll_0 rfl (lv_at hl 0 rfl) ?_
  obtain ⟨q1, hq1, hf⟩ := zb_ok hf
  refine z_callV X Z hl (mX7_isText l Δ ad thr saved mlen spot reads hash ms mpast mtext mread hq1) wd_982 wd_984 wd_34 wd_68 wd_985 ok_X7_isText 7 rfl 0 rfl (w' := (wX7 Δ ad thr saved mlen q1.2.1 q1.2.2.1 hash ms mpast mtext q1.2.2.2)) su_16 fs_16 pu_16 rfl (rest := []) rfl (Nat.le_of_ble_eq_true rfl) ⟨Nat.le_of_ble_eq_true rfl, Nat.le_of_ble_eq_true rfl⟩ ⟨Nat.zero_le _, Nat.zero_le _⟩ (st1 := [.int q1.1]) rfl dX7_addAll_1 (fun H locs Z => ?_)
  refine lv_istore_n (lv' := [(1, .int q1.1), (0, .ref (ad 0))]) X.x X.b dX7_addAll_4 rfl hl (Nat.le_of_ble_eq_true rfl) rfl (fun ls hl => ?_)
  refine lv_aload_n X.x X.b dX7_addAll_5 rfl (lv_at hl 1 rfl) ?_
  refine lv_iload_n X.x X.b dX7_addAll_6 rfl (lv_at hl 0 rfl) ?_
  refine lv_if_ne (tgt := 14) X.x X.b dX7_addAll_7 (by decide) (fun b1 => ?_) (fun b1 => ?_)
  · have hf := zif_f b1 hf
    refine lv_aload_n X.x X.b dX7_addAll_14 rfl (lv_at hl 1 rfl) ?_
    refine z_gf inG_X7 (ci := 7) rfl 1 (Nat.le_of_ble_eq_true rfl) rfl X Z wd_823 0 rfl (v := .ref (ad 1)) rfl dX7_addAll_15 ?_
    refine lv_iconst (v := 0) X.x X.b dX7_addAll_18 ki_0 ?_
    refine z_iald X Z 1 rfl (zvin (by decide)) dX7_addAll_19 ?_
    refine lv_aload_n X.x X.b dX7_addAll_20 rfl (lv_at hl 1 rfl) ?_
    refine z_gf inG_X7 (ci := 7) rfl 8 (Nat.le_of_ble_eq_true rfl) rfl X Z wd_830 0 rfl (v := .int q1.2.2.1) rfl dX7_addAll_21 ?_
    refine lv_iadd X.x X.b dX7_addAll_24 ?_
    refine lv_bipush (v := 20) X.x X.b dX7_addAll_25 kb_20 ?_
    refine lv_icmp_le (tgt := 34) X.x X.b dX7_addAll_27 (by decide) (fun b2 => ?_) (fun b2 => ?_)
    · have hf := zif_t b2 hf
      refine lv_iconst (v := 0) X.x X.b dX7_addAll_34 ki_0 ?_
      obtain ⟨q2, hq2, hf⟩ := zb_ok hf
      refine z_callV X Z hl (mX7_refuses l Δ ad thr saved mlen q1.2.1 q1.2.2.1 hash ms mpast mtext q1.2.2.2 0 hq2) wd_862 wd_864 wd_18 wd_68 wd_865 ok_X7_refuses 7 rfl 0 rfl (w' := (wX7 Δ ad q2.2 saved mlen q1.2.1 q1.2.2.1 hash ms mpast mtext q1.2.2.2)) su_16 fs_16 pu_16 rfl (rest := []) rfl (Nat.le_of_ble_eq_true rfl) ⟨Nat.le_of_ble_eq_true rfl, Nat.le_of_ble_eq_true rfl⟩ ⟨Nat.zero_le _, Nat.zero_le _⟩ (st1 := [.int q2.1]) rfl dX7_addAll_35 (fun H locs Z => ?_)
      refine lv_if_eq (tgt := 43) X.x X.b dX7_addAll_38 (by decide) (fun b3 => ?_) (fun b3 => ?_)
      · have hf := zif_t b3 hf
        refine lv_aload_n X.x X.b dX7_addAll_43 rfl (lv_at hl 1 rfl) ?_
        obtain ⟨q3, hq3, hf⟩ := zb_ok hf
        refine z_callV X Z hl (mX7_saves l Δ ad q2.2 saved mlen q1.2.1 q1.2.2.1 hash ms mpast mtext q1.2.2.2 hq3) wd_876 wd_878 wd_19 wd_68 wd_879 ok_X7_saves 7 rfl 0 rfl (w' := (wX7 Δ ad q2.2 q3.1 mlen q1.2.1 q1.2.2.1 hash ms q3.2 mtext q1.2.2.2)) su_16 fs_16 pu_16 rfl (rest := []) rfl (Nat.le_of_ble_eq_true rfl) ⟨Nat.le_of_ble_eq_true rfl, Nat.le_of_ble_eq_true rfl⟩ ⟨Nat.zero_le _, Nat.zero_le _⟩ (st1 := []) rfl dX7_addAll_44 (fun H locs Z => ?_)
        refine lv_iconst (v := 0) X.x X.b dX7_addAll_47 ki_0 ?_
        refine lv_istore_n (lv' := [(2, .int 0), (1, .int q1.1), (0, .ref (ad 0))]) X.x X.b dX7_addAll_48 rfl hl (Nat.le_of_ble_eq_true rfl) rfl (fun ls hl => ?_)
        exact L49 zfuel q2.2 q3.1 mlen q1.2.1 q1.2.2.1 ms q3.2 mtext q1.2.2.2 0 hf _ _ _ Z (lv_sub hl [2, 0] rfl)
      · have hf := zif_f b3 hf
        refine lv_iconst (v := 0) X.x X.b dX7_addAll_41 ki_0 ?_
        cases hf
        exact z_iret X Z dX7_addAll_42
    · have hf := zif_f b2 hf
      refine lv_iconst (v := 2) X.x X.b dX7_addAll_30 ki_2 ?_
      refine lv_goto (tgt := 35) X.x X.b dX7_addAll_31 (by decide) ?_
      obtain ⟨q4, hq4, hf⟩ := zb_ok hf
      refine z_callV X Z hl (mX7_refuses l Δ ad thr saved mlen q1.2.1 q1.2.2.1 hash ms mpast mtext q1.2.2.2 2 hq4) wd_862 wd_864 wd_18 wd_68 wd_865 ok_X7_refuses 7 rfl 0 rfl (w' := (wX7 Δ ad q4.2 saved mlen q1.2.1 q1.2.2.1 hash ms mpast mtext q1.2.2.2)) su_16 fs_16 pu_16 rfl (rest := []) rfl (Nat.le_of_ble_eq_true rfl) ⟨Nat.le_of_ble_eq_true rfl, Nat.le_of_ble_eq_true rfl⟩ ⟨Nat.zero_le _, Nat.zero_le _⟩ (st1 := [.int q4.1]) rfl dX7_addAll_35 (fun H locs Z => ?_)
      refine lv_if_eq (tgt := 43) X.x X.b dX7_addAll_38 (by decide) (fun b4 => ?_) (fun b4 => ?_)
      · have hf := zif_t b4 hf
        refine lv_aload_n X.x X.b dX7_addAll_43 rfl (lv_at hl 1 rfl) ?_
        obtain ⟨q5, hq5, hf⟩ := zb_ok hf
        refine z_callV X Z hl (mX7_saves l Δ ad q4.2 saved mlen q1.2.1 q1.2.2.1 hash ms mpast mtext q1.2.2.2 hq5) wd_876 wd_878 wd_19 wd_68 wd_879 ok_X7_saves 7 rfl 0 rfl (w' := (wX7 Δ ad q4.2 q5.1 mlen q1.2.1 q1.2.2.1 hash ms q5.2 mtext q1.2.2.2)) su_16 fs_16 pu_16 rfl (rest := []) rfl (Nat.le_of_ble_eq_true rfl) ⟨Nat.le_of_ble_eq_true rfl, Nat.le_of_ble_eq_true rfl⟩ ⟨Nat.zero_le _, Nat.zero_le _⟩ (st1 := []) rfl dX7_addAll_44 (fun H locs Z => ?_)
        refine lv_iconst (v := 0) X.x X.b dX7_addAll_47 ki_0 ?_
        refine lv_istore_n (lv' := [(2, .int 0), (1, .int q1.1), (0, .ref (ad 0))]) X.x X.b dX7_addAll_48 rfl hl (Nat.le_of_ble_eq_true rfl) rfl (fun ls hl => ?_)
        exact L49 zfuel q4.2 q5.1 mlen q1.2.1 q1.2.2.1 ms q5.2 mtext q1.2.2.2 0 hf _ _ _ Z (lv_sub hl [2, 0] rfl)
      · have hf := zif_f b4 hf
        refine lv_iconst (v := 0) X.x X.b dX7_addAll_41 ki_0 ?_
        cases hf
        exact z_iret X Z dX7_addAll_42
  · have hf := zif_t b1 hf
    refine lv_iconst (v := 1) X.x X.b dX7_addAll_10 ki_1 ?_
    refine lv_goto (tgt := 35) X.x X.b dX7_addAll_11 (by decide) ?_
    obtain ⟨q6, hq6, hf⟩ := zb_ok hf
    refine z_callV X Z hl (mX7_refuses l Δ ad thr saved mlen q1.2.1 q1.2.2.1 hash ms mpast mtext q1.2.2.2 1 hq6) wd_862 wd_864 wd_18 wd_68 wd_865 ok_X7_refuses 7 rfl 0 rfl (w' := (wX7 Δ ad q6.2 saved mlen q1.2.1 q1.2.2.1 hash ms mpast mtext q1.2.2.2)) su_16 fs_16 pu_16 rfl (rest := []) rfl (Nat.le_of_ble_eq_true rfl) ⟨Nat.le_of_ble_eq_true rfl, Nat.le_of_ble_eq_true rfl⟩ ⟨Nat.zero_le _, Nat.zero_le _⟩ (st1 := [.int q6.1]) rfl dX7_addAll_35 (fun H locs Z => ?_)
    refine lv_if_eq (tgt := 43) X.x X.b dX7_addAll_38 (by decide) (fun b5 => ?_) (fun b5 => ?_)
    · have hf := zif_t b5 hf
      refine lv_aload_n X.x X.b dX7_addAll_43 rfl (lv_at hl 1 rfl) ?_
      obtain ⟨q7, hq7, hf⟩ := zb_ok hf
      refine z_callV X Z hl (mX7_saves l Δ ad q6.2 saved mlen q1.2.1 q1.2.2.1 hash ms mpast mtext q1.2.2.2 hq7) wd_876 wd_878 wd_19 wd_68 wd_879 ok_X7_saves 7 rfl 0 rfl (w' := (wX7 Δ ad q6.2 q7.1 mlen q1.2.1 q1.2.2.1 hash ms q7.2 mtext q1.2.2.2)) su_16 fs_16 pu_16 rfl (rest := []) rfl (Nat.le_of_ble_eq_true rfl) ⟨Nat.le_of_ble_eq_true rfl, Nat.le_of_ble_eq_true rfl⟩ ⟨Nat.zero_le _, Nat.zero_le _⟩ (st1 := []) rfl dX7_addAll_44 (fun H locs Z => ?_)
      refine lv_iconst (v := 0) X.x X.b dX7_addAll_47 ki_0 ?_
      refine lv_istore_n (lv' := [(2, .int 0), (1, .int q1.1), (0, .ref (ad 0))]) X.x X.b dX7_addAll_48 rfl hl (Nat.le_of_ble_eq_true rfl) rfl (fun ls hl => ?_)
      exact L49 zfuel q6.2 q7.1 mlen q1.2.1 q1.2.2.1 ms q7.2 mtext q1.2.2.2 0 hf _ _ _ Z (lv_sub hl [2, 0] rfl)
    · have hf := zif_f b5 hf
      refine lv_iconst (v := 0) X.x X.b dX7_addAll_41 ki_0 ?_
      cases hf
      exact z_iret X Z dX7_addAll_42
set_option maxRecDepth 100000 in
set_option maxHeartbeats 4000000 in
theorem mX7_needing (l : Launch) (Δ : zE) (ad : Nat → Nat) (thr : Int32) (saved : Int32) (mlen : Int32) (spot : Int32) (reads : Int32) (hash : Int64) (ms : Nat → Int32) (mpast : Nat → Int32) (mtext : Nat → Int32) (mread : Nat → Int32) (x1 : Int32) {res : Int32} (hf : fX7_needing ms x1 = some res) : zMet l Δ yX7_needing cX7_needing 4 (some .int) 2 46 [.ref (ad 0), .int x1] (wX7 Δ ad thr saved mlen spot reads hash ms mpast mtext mread) (wX7 Δ ad thr saved mlen spot reads hash ms mpast mtext mread) (some (.int res)) := by
  refine z_start (by decide +kernel) (Nat.le_of_ble_eq_true rfl) ?_
  intro p e s m args below meth c A ls X Z hl
  have hl : lv_has ls 4 [(0, .ref (ad 0)), (1, .int x1)] := hl
  have L6 : ∀ (k : Nat) (ms : Nat → Int32) (v1 : Int32) (v2 : Int32) (v3 : Int32), fX7_needing_6 k ms v1 v2 v3 = some res → ∀ (H : Heap) (locs : List Loc) (ls : Array Slot), zW Δ A s.heap (wX7 Δ ad thr saved mlen spot reads hash ms mpast mtext mread) H locs → lv_has ls 4 [(0, .ref (ad 0)), (1, .int v1), (2, .int v2), (3, .int v3)] → W p l e { frames := 2, cells := 0, slots := 0, locals := 46 } s m args below meth c H locs 0 0 (zEnd Δ below args s 0 0 A (some (.int res)) (wX7 Δ ad thr saved mlen spot reads hash ms mpast mtext mread)) (F0 m 6 ls []) := by
    intro k
    induction k with
    | zero =>
      intro ms v1 v2 v3 hf
      rw [fX7_needing_6.eq_1] at hf
      cases hf
    | succ k ih =>
      intro ms v1 v2 v3 hf H locs ls Z hl
      rw [fX7_needing_6.eq_2] at hf
      refine lv_iload_n X.x X.b dX7_needing_6 rfl (lv_at hl 3 rfl) ?_
      refine lv_aload_n X.x X.b dX7_needing_7 rfl (lv_at hl 0 rfl) ?_
      refine z_gf inG_X7 (ci := 7) rfl 1 (Nat.le_of_ble_eq_true rfl) rfl X Z wd_823 0 rfl (v := .ref (ad 1)) rfl dX7_needing_8 ?_
      refine lv_iconst (v := 0) X.x X.b dX7_needing_11 ki_0 ?_
      refine z_iald X Z 1 rfl (zvin (by decide)) dX7_needing_12 ?_
      refine lv_icmp_ge (tgt := 34) X.x X.b dX7_needing_13 (by decide) (fun b1 => ?_) (fun b1 => ?_)
      · have hf := zif_t b1 hf
        refine lv_iload_n X.x X.b dX7_needing_34 rfl (lv_at hl 2 rfl) ?_
        cases hf
        exact z_iret X Z dX7_needing_35
      · have hf := zif_f b1 hf
        refine lv_iload_n X.x X.b dX7_needing_16 rfl (lv_at hl 2 rfl) ?_
        refine lv_aload_n X.x X.b dX7_needing_17 rfl (lv_at hl 0 rfl) ?_
        refine lv_iload_n X.x X.b dX7_needing_18 rfl (lv_at hl 3 rfl) ?_
        obtain ⟨q1, hq1, hf⟩ := zb_ok hf
        refine z_callV X Z hl (mX7_needs l Δ ad thr saved mlen spot reads hash ms mpast mtext mread v3 hq1) wd_942 wd_944 wd_30 wd_68 wd_945 ok_X7_needs 7 rfl 0 rfl (w' := (wX7 Δ ad thr saved mlen spot reads hash ms mpast mtext mread)) su_16 fs_16 pu_16 rfl (rest := [.int v2]) rfl (Nat.le_of_ble_eq_true rfl) ⟨Nat.le_of_ble_eq_true rfl, Nat.le_of_ble_eq_true rfl⟩ ⟨Nat.zero_le _, Nat.zero_le _⟩ (st1 := [.int q1, .int v2]) rfl dX7_needing_19 (fun H locs Z => ?_)
        refine lv_iload_n X.x X.b dX7_needing_22 rfl (lv_at hl 1 rfl) ?_
        refine lv_ishr X.x X.b dX7_needing_23 ?_
        refine lv_iconst (v := 1) X.x X.b dX7_needing_24 ki_1 ?_
        refine lv_iand X.x X.b dX7_needing_25 ?_
        refine lv_iadd X.x X.b dX7_needing_26 ?_
        refine lv_istore_n (lv' := [(2, .int (v2 + ((q1 >>> (v1 &&& 31)) &&& 1))), (0, .ref (ad 0)), (1, .int v1), (3, .int v3)]) X.x X.b dX7_needing_27 rfl hl (Nat.le_of_ble_eq_true rfl) rfl (fun ls hl => ?_)
        refine lv_iinc (v := (v3 + 1)) (lv' := [(3, .int (v3 + 1)), (2, .int (v2 + ((q1 >>> (v1 &&& 31)) &&& 1))), (0, .ref (ad 0)), (1, .int v1)]) X.x X.b dX7_needing_28 hl (k := 3) rfl (congrArg _ ki_1) (Nat.le_of_ble_eq_true rfl) rfl (fun ls hl => ?_)
        refine lv_goto (tgt := 6) X.x X.b dX7_needing_31 (by decide) ?_
        exact ih ms v1 (v2 + ((q1 >>> (v1 &&& 31)) &&& 1)) (v3 + 1) hf _ _ _ Z (lv_sub hl [2, 3, 1, 0] rfl)
  rw [fX7_needing.eq_1] at hf
  refine lv_iconst (v := 0) X.x X.b dX7_needing_0 ki_0 ?_
  refine lv_istore_n (lv' := [(2, .int 0), (0, .ref (ad 0)), (1, .int x1)]) X.x X.b dX7_needing_1 rfl hl (Nat.le_of_ble_eq_true rfl) rfl (fun ls hl => ?_)
  refine lv_iload_n X.x X.b dX7_needing_2 rfl (lv_at hl 2 rfl) ?_
  refine lv_iconst (v := 1) X.x X.b dX7_needing_3 ki_1 ?_
  refine lv_iadd X.x X.b dX7_needing_4 ?_
  refine lv_istore_n (lv' := [(3, .int (x1 + 1)), (2, .int 0), (0, .ref (ad 0)), (1, .int x1)]) X.x X.b dX7_needing_5 rfl hl (Nat.le_of_ble_eq_true rfl) rfl (fun ls hl => ?_)
  exact L6 zfuel ms x1 0 (x1 + 1) hf _ _ _ Z (lv_sub hl [2, 3, 1, 0] rfl)
set_option maxRecDepth 100000 in
set_option maxHeartbeats 4000000 in
theorem mX7_partOf (l : Launch) (Δ : zE) (ad : Nat → Nat) (thr : Int32) (saved : Int32) (mlen : Int32) (spot : Int32) (reads : Int32) (hash : Int64) (ms : Nat → Int32) (mpast : Nat → Int32) (mtext : Nat → Int32) (mread : Nat → Int32) (x1 : Int32) (x2 : Int32) {res : Int32} (hf : fX7_partOf ms x1 x2 = some res) : zMet l Δ yX7_partOf cX7_partOf 3 (some .int) 3 70 [.ref (ad 0), .int x1, .int x2] (wX7 Δ ad thr saved mlen spot reads hash ms mpast mtext mread) (wX7 Δ ad thr saved mlen spot reads hash ms mpast mtext mread) (some (.int res)) := by
  refine z_start (by decide +kernel) (Nat.le_of_ble_eq_true rfl) ?_
  intro p e s m args below meth c A ls X Z hl
  have hl : lv_has ls 3 [(0, .ref (ad 0)), (1, .int x1), (2, .int x2)] := hl
  rw [fX7_partOf.eq_1] at hf
  refine lv_iload_n X.x X.b dX7_partOf_0 rfl (lv_at hl 2 rfl) ?_
  by_cases b1 : x2 = 3
  · have hf := zif_t b1 hf
    refine lv_tableIn (tgt := 32) X.x X.b dX7_partOf_1 (zt_lo b1 (by decide)) (zt_hi b1 (by decide)) (zt_at (off := 31) b1 rfl) (by decide) ?_
    refine lv_aload_n X.x X.b dX7_partOf_32 rfl (lv_at hl 0 rfl) ?_
    refine lv_iload_n X.x X.b dX7_partOf_33 rfl (lv_at hl 1 rfl) ?_
    obtain ⟨q1, hq1, hf⟩ := zb_ok hf
    refine z_callV X Z hl (mX7_needs l Δ ad thr saved mlen spot reads hash ms mpast mtext mread x1 hq1) wd_942 wd_944 wd_30 wd_68 wd_945 ok_X7_needs 7 rfl 0 rfl (w' := (wX7 Δ ad thr saved mlen spot reads hash ms mpast mtext mread)) su_16 fs_16 pu_16 rfl (rest := []) rfl (Nat.le_of_ble_eq_true rfl) ⟨Nat.le_of_ble_eq_true rfl, Nat.le_of_ble_eq_true rfl⟩ ⟨Nat.zero_le _, Nat.zero_le _⟩ (st1 := [.int q1]) rfl dX7_partOf_34 (fun H locs Z => ?_)
    cases hf
    exact z_iret X Z dX7_partOf_37
  · have hf := zif_f b1 hf
    by_cases b2 : x2 = 4
    · have hf := zif_t b2 hf
      refine lv_tableIn (tgt := 38) X.x X.b dX7_partOf_1 (zt_lo b2 (by decide)) (zt_hi b2 (by decide)) (zt_at (off := 37) b2 rfl) (by decide) ?_
      refine lv_aload_n X.x X.b dX7_partOf_38 rfl (lv_at hl 0 rfl) ?_
      refine lv_iload_n X.x X.b dX7_partOf_39 rfl (lv_at hl 1 rfl) ?_
      obtain ⟨q2, hq2, hf⟩ := zb_ok hf
      refine z_callV X Z hl (mX7_needing l Δ ad thr saved mlen spot reads hash ms mpast mtext mread x1 hq2) wd_1022 wd_1024 wd_42 wd_68 wd_1025 ok_X7_needing 7 rfl 0 rfl (w' := (wX7 Δ ad thr saved mlen spot reads hash ms mpast mtext mread)) su_16 fs_16 pu_16 rfl (rest := []) rfl (Nat.le_of_ble_eq_true rfl) ⟨Nat.le_of_ble_eq_true rfl, Nat.le_of_ble_eq_true rfl⟩ ⟨Nat.zero_le _, Nat.zero_le _⟩ (st1 := [.int q2]) rfl dX7_partOf_40 (fun H locs Z => ?_)
      cases hf
      exact z_iret X Z dX7_partOf_43
    · have hf := zif_f b2 hf
      by_cases b3 : x2 = 5
      · have hf := zif_t b3 hf
        refine lv_tableIn (tgt := 44) X.x X.b dX7_partOf_1 (zt_lo b3 (by decide)) (zt_hi b3 (by decide)) (zt_at (off := 43) b3 rfl) (by decide) ?_
        refine lv_aload_n X.x X.b dX7_partOf_44 rfl (lv_at hl 0 rfl) ?_
        refine lv_iload_n X.x X.b dX7_partOf_45 rfl (lv_at hl 1 rfl) ?_
        obtain ⟨q3, hq3, hf⟩ := zb_ok hf
        refine z_callV X Z hl (mX7_readersOf l Δ ad thr saved mlen spot reads hash ms mpast mtext mread x1 hq3) wd_904 wd_906 wd_24 wd_68 wd_907 ok_X7_readersOf 7 rfl 0 rfl (w' := (wX7 Δ ad thr saved mlen spot reads hash ms mpast mtext mread)) su_16 fs_16 pu_16 rfl (rest := []) rfl (Nat.le_of_ble_eq_true rfl) ⟨Nat.le_of_ble_eq_true rfl, Nat.le_of_ble_eq_true rfl⟩ ⟨Nat.zero_le _, Nat.zero_le _⟩ (st1 := [.int q3]) rfl dX7_partOf_46 (fun H locs Z => ?_)
        cases hf
        exact z_iret X Z dX7_partOf_49
      · have hf := zif_f b3 hf
        by_cases b4 : x2 = 6
        · have hf := zif_t b4 hf
          refine lv_tableIn (tgt := 50) X.x X.b dX7_partOf_1 (zt_lo b4 (by decide)) (zt_hi b4 (by decide)) (zt_at (off := 49) b4 rfl) (by decide) ?_
          refine lv_aload_n X.x X.b dX7_partOf_50 rfl (lv_at hl 0 rfl) ?_
          refine lv_iload_n X.x X.b dX7_partOf_51 rfl (lv_at hl 1 rfl) ?_
          refine lv_iconst (v := (-1)) X.x X.b dX7_partOf_52 ki_m1 ?_
          obtain ⟨q4, hq4, hf⟩ := zb_ok hf
          refine z_callV X Z hl (mX7_needsAmong l Δ ad thr saved mlen spot reads hash ms mpast mtext mread x1 (-1) hq4) wd_938 wd_940 wd_29 wd_68 wd_941 ok_X7_needsAmong 7 rfl 0 rfl (w' := (wX7 Δ ad thr saved mlen spot reads hash ms mpast mtext mread)) su_16 fs_16 pu_16 rfl (rest := []) rfl (Nat.le_of_ble_eq_true rfl) ⟨Nat.le_of_ble_eq_true rfl, Nat.le_of_ble_eq_true rfl⟩ ⟨Nat.zero_le _, Nat.zero_le _⟩ (st1 := [.int q4]) rfl dX7_partOf_53 (fun H locs Z => ?_)
          obtain ⟨q5, hq5, hf⟩ := zb_ok hf
          refine z_callS X Z hl (mX7_ones l Δ  q4 hq5) wd_912 wd_913 wd_68 wd_914 ok_X7_ones (w' := (wX7 Δ ad thr saved mlen spot reads hash ms mpast mtext mread)) zSub_nil rfl zput_nil rfl (rest := []) rfl (Nat.le_of_ble_eq_true rfl) ⟨Nat.le_of_ble_eq_true rfl, Nat.le_of_ble_eq_true rfl⟩ ⟨Nat.zero_le _, Nat.zero_le _⟩ (st1 := [.int q5]) rfl dX7_partOf_56 (fun H locs Z => ?_)
          cases hf
          exact z_iret X Z dX7_partOf_59
        · have hf := zif_f b4 hf
          refine lv_tableOut (tgt := 60) X.x X.b dX7_partOf_1 (by have := (x2 : Int32).toInt; have := zt_ne (n := 3) b1 (by decide); have := zt_ne (n := 4) b2 (by decide); have := zt_ne (n := 5) b3 (by decide); have := zt_ne (n := 6) b4 (by decide); omega) (by decide) ?_
          refine lv_aload_n X.x X.b dX7_partOf_60 rfl (lv_at hl 0 rfl) ?_
          refine lv_iload_n X.x X.b dX7_partOf_61 rfl (lv_at hl 1 rfl) ?_
          refine lv_iload_n X.x X.b dX7_partOf_62 rfl (lv_at hl 2 rfl) ?_
          obtain ⟨q6, hq6, hf⟩ := zb_ok hf
          refine z_callV X Z hl (mX7_of l Δ ad thr saved mlen spot reads hash ms mpast mtext mread x1 x2 hq6) wd_896 wd_898 wd_23 wd_68 wd_899 ok_X7_of 7 rfl 0 rfl (w' := (wX7 Δ ad thr saved mlen spot reads hash ms mpast mtext mread)) su_16 fs_16 pu_16 rfl (rest := []) rfl (Nat.le_of_ble_eq_true rfl) ⟨Nat.le_of_ble_eq_true rfl, Nat.le_of_ble_eq_true rfl⟩ ⟨Nat.zero_le _, Nat.zero_le _⟩ (st1 := [.int q6]) rfl dX7_partOf_63 (fun H locs Z => ?_)
          cases hf
          exact z_iret X Z dX7_partOf_66
set_option maxRecDepth 100000 in
set_option maxHeartbeats 4000000 in
theorem mX7_part (l : Launch) (Δ : zE) (ad : Nat → Nat) (thr : Int32) (saved : Int32) (mlen : Int32) (spot : Int32) (reads : Int32) (hash : Int64) (ms : Nat → Int32) (mpast : Nat → Int32) (mtext : Nat → Int32) (mread : Nat → Int32) (x1 : Int32) (x2 : Int32) {res : Int32 × Int32} (hf : fX7_part thr ms x1 x2 = some res) : zMet l Δ yX7_part cX7_part 3 (some .int) 4 92 [.ref (ad 0), .int x1, .int x2] (wX7 Δ ad thr saved mlen spot reads hash ms mpast mtext mread) (wX7 Δ ad res.2 saved mlen spot reads hash ms mpast mtext mread) (some (.int res.1)) := by
  refine z_start (by decide +kernel) (Nat.le_of_ble_eq_true rfl) ?_
  intro p e s m args below meth c A ls X Z hl
  have hl : lv_has ls 3 [(0, .ref (ad 0)), (1, .int x1), (2, .int x2)] := hl
  rw [fX7_part.eq_1] at hf
  refine lv_aload_n X.x X.b dX7_part_0 rfl (lv_at hl 0 rfl) ?_
  refine lv_aload_n X.x X.b dX7_part_1 rfl (lv_at hl 0 rfl) ?_
  refine lv_iload_n X.x X.b dX7_part_2 rfl (lv_at hl 1 rfl) ?_
  obtain ⟨q1, hq1, hf⟩ := zb_ok hf
  refine z_callV X Z hl (mX7_isPart l Δ ad thr saved mlen spot reads hash ms mpast mtext mread x1 hq1) wd_892 wd_894 wd_22 wd_68 wd_895 ok_X7_isPart 7 rfl 0 rfl (w' := (wX7 Δ ad thr saved mlen spot reads hash ms mpast mtext mread)) su_16 fs_16 pu_16 rfl (rest := [.ref (ad 0)]) rfl (Nat.le_of_ble_eq_true rfl) ⟨Nat.le_of_ble_eq_true rfl, Nat.le_of_ble_eq_true rfl⟩ ⟨Nat.zero_le _, Nat.zero_le _⟩ (st1 := [.int q1, .ref (ad 0)]) rfl dX7_part_3 (fun H locs Z => ?_)
  refine lv_if_ne (tgt := 13) X.x X.b dX7_part_6 (by decide) (fun b1 => ?_) (fun b1 => ?_)
  · have hf := zif_f b1 hf
    refine lv_iload_n X.x X.b dX7_part_13 rfl (lv_at hl 2 rfl) ?_
    refine lv_iconst (v := 0) X.x X.b dX7_part_14 ki_0 ?_
    refine lv_bipush (v := 6) X.x X.b dX7_part_15 kb_6 ?_
    obtain ⟨q2, hq2, hf⟩ := zb_ok hf
    refine z_callS X Z hl (mX7_in l Δ  x2 0 6 hq2) wd_870 wd_871 wd_68 wd_872 ok_X7_in (w' := (wX7 Δ ad thr saved mlen spot reads hash ms mpast mtext mread)) zSub_nil rfl zput_nil rfl (rest := [.ref (ad 0)]) rfl (Nat.le_of_ble_eq_true rfl) ⟨Nat.le_of_ble_eq_true rfl, Nat.le_of_ble_eq_true rfl⟩ ⟨Nat.zero_le _, Nat.zero_le _⟩ (st1 := [.int q2, .ref (ad 0)]) rfl dX7_part_17 (fun H locs Z => ?_)
    refine lv_if_eq (tgt := 27) X.x X.b dX7_part_20 (by decide) (fun b2 => ?_) (fun b2 => ?_)
    · have hf := zif_t b2 hf
      refine lv_iconst (v := 2) X.x X.b dX7_part_27 ki_2 ?_
      obtain ⟨q3, hq3, hf⟩ := zb_ok hf
      refine z_callV X Z hl (mX7_refuses l Δ ad thr saved mlen spot reads hash ms mpast mtext mread 2 hq3) wd_862 wd_864 wd_18 wd_68 wd_865 ok_X7_refuses 7 rfl 0 rfl (w' := (wX7 Δ ad q3.2 saved mlen spot reads hash ms mpast mtext mread)) su_16 fs_16 pu_16 rfl (rest := []) rfl (Nat.le_of_ble_eq_true rfl) ⟨Nat.le_of_ble_eq_true rfl, Nat.le_of_ble_eq_true rfl⟩ ⟨Nat.zero_le _, Nat.zero_le _⟩ (st1 := [.int q3.1]) rfl dX7_part_28 (fun H locs Z => ?_)
      refine lv_if_eq (tgt := 38) X.x X.b dX7_part_31 (by decide) (fun b3 => ?_) (fun b3 => ?_)
      · have hf := zif_t b3 hf
        refine lv_aload_n X.x X.b dX7_part_38 rfl (lv_at hl 0 rfl) ?_
        refine lv_iload_n X.x X.b dX7_part_39 rfl (lv_at hl 1 rfl) ?_
        refine lv_iload_n X.x X.b dX7_part_40 rfl (lv_at hl 2 rfl) ?_
        obtain ⟨q4, hq4, hf⟩ := zb_ok hf
        refine z_callV X Z hl (mX7_partOf l Δ ad q3.2 saved mlen spot reads hash ms mpast mtext mread x1 x2 hq4) wd_1018 wd_1020 wd_41 wd_68 wd_1021 ok_X7_partOf 7 rfl 0 rfl (w' := (wX7 Δ ad q3.2 saved mlen spot reads hash ms mpast mtext mread)) su_16 fs_16 pu_16 rfl (rest := []) rfl (Nat.le_of_ble_eq_true rfl) ⟨Nat.le_of_ble_eq_true rfl, Nat.le_of_ble_eq_true rfl⟩ ⟨Nat.zero_le _, Nat.zero_le _⟩ (st1 := [.int q4]) rfl dX7_part_41 (fun H locs Z => ?_)
        cases hf
        exact z_iret X Z dX7_part_44
      · have hf := zif_f b3 hf
        refine lv_iconst (v := 0) X.x X.b dX7_part_34 ki_0 ?_
        refine lv_goto (tgt := 44) X.x X.b dX7_part_35 (by decide) ?_
        cases hf
        exact z_iret X Z dX7_part_44
    · have hf := zif_f b2 hf
      refine lv_iconst (v := 0) X.x X.b dX7_part_23 ki_0 ?_
      refine lv_goto (tgt := 28) X.x X.b dX7_part_24 (by decide) ?_
      obtain ⟨q5, hq5, hf⟩ := zb_ok hf
      refine z_callV X Z hl (mX7_refuses l Δ ad thr saved mlen spot reads hash ms mpast mtext mread 0 hq5) wd_862 wd_864 wd_18 wd_68 wd_865 ok_X7_refuses 7 rfl 0 rfl (w' := (wX7 Δ ad q5.2 saved mlen spot reads hash ms mpast mtext mread)) su_16 fs_16 pu_16 rfl (rest := []) rfl (Nat.le_of_ble_eq_true rfl) ⟨Nat.le_of_ble_eq_true rfl, Nat.le_of_ble_eq_true rfl⟩ ⟨Nat.zero_le _, Nat.zero_le _⟩ (st1 := [.int q5.1]) rfl dX7_part_28 (fun H locs Z => ?_)
      refine lv_if_eq (tgt := 38) X.x X.b dX7_part_31 (by decide) (fun b4 => ?_) (fun b4 => ?_)
      · have hf := zif_t b4 hf
        refine lv_aload_n X.x X.b dX7_part_38 rfl (lv_at hl 0 rfl) ?_
        refine lv_iload_n X.x X.b dX7_part_39 rfl (lv_at hl 1 rfl) ?_
        refine lv_iload_n X.x X.b dX7_part_40 rfl (lv_at hl 2 rfl) ?_
        obtain ⟨q6, hq6, hf⟩ := zb_ok hf
        refine z_callV X Z hl (mX7_partOf l Δ ad q5.2 saved mlen spot reads hash ms mpast mtext mread x1 x2 hq6) wd_1018 wd_1020 wd_41 wd_68 wd_1021 ok_X7_partOf 7 rfl 0 rfl (w' := (wX7 Δ ad q5.2 saved mlen spot reads hash ms mpast mtext mread)) su_16 fs_16 pu_16 rfl (rest := []) rfl (Nat.le_of_ble_eq_true rfl) ⟨Nat.le_of_ble_eq_true rfl, Nat.le_of_ble_eq_true rfl⟩ ⟨Nat.zero_le _, Nat.zero_le _⟩ (st1 := [.int q6]) rfl dX7_part_41 (fun H locs Z => ?_)
        cases hf
        exact z_iret X Z dX7_part_44
      · have hf := zif_f b4 hf
        refine lv_iconst (v := 0) X.x X.b dX7_part_34 ki_0 ?_
        refine lv_goto (tgt := 44) X.x X.b dX7_part_35 (by decide) ?_
        cases hf
        exact z_iret X Z dX7_part_44
  · have hf := zif_t b1 hf
    refine lv_iconst (v := 1) X.x X.b dX7_part_9 ki_1 ?_
    refine lv_goto (tgt := 28) X.x X.b dX7_part_10 (by decide) ?_
    obtain ⟨q7, hq7, hf⟩ := zb_ok hf
    refine z_callV X Z hl (mX7_refuses l Δ ad thr saved mlen spot reads hash ms mpast mtext mread 1 hq7) wd_862 wd_864 wd_18 wd_68 wd_865 ok_X7_refuses 7 rfl 0 rfl (w' := (wX7 Δ ad q7.2 saved mlen spot reads hash ms mpast mtext mread)) su_16 fs_16 pu_16 rfl (rest := []) rfl (Nat.le_of_ble_eq_true rfl) ⟨Nat.le_of_ble_eq_true rfl, Nat.le_of_ble_eq_true rfl⟩ ⟨Nat.zero_le _, Nat.zero_le _⟩ (st1 := [.int q7.1]) rfl dX7_part_28 (fun H locs Z => ?_)
    refine lv_if_eq (tgt := 38) X.x X.b dX7_part_31 (by decide) (fun b5 => ?_) (fun b5 => ?_)
    · have hf := zif_t b5 hf
      refine lv_aload_n X.x X.b dX7_part_38 rfl (lv_at hl 0 rfl) ?_
      refine lv_iload_n X.x X.b dX7_part_39 rfl (lv_at hl 1 rfl) ?_
      refine lv_iload_n X.x X.b dX7_part_40 rfl (lv_at hl 2 rfl) ?_
      obtain ⟨q8, hq8, hf⟩ := zb_ok hf
      refine z_callV X Z hl (mX7_partOf l Δ ad q7.2 saved mlen spot reads hash ms mpast mtext mread x1 x2 hq8) wd_1018 wd_1020 wd_41 wd_68 wd_1021 ok_X7_partOf 7 rfl 0 rfl (w' := (wX7 Δ ad q7.2 saved mlen spot reads hash ms mpast mtext mread)) su_16 fs_16 pu_16 rfl (rest := []) rfl (Nat.le_of_ble_eq_true rfl) ⟨Nat.le_of_ble_eq_true rfl, Nat.le_of_ble_eq_true rfl⟩ ⟨Nat.zero_le _, Nat.zero_le _⟩ (st1 := [.int q8]) rfl dX7_part_41 (fun H locs Z => ?_)
      cases hf
      exact z_iret X Z dX7_part_44
    · have hf := zif_f b5 hf
      refine lv_iconst (v := 0) X.x X.b dX7_part_34 ki_0 ?_
      refine lv_goto (tgt := 44) X.x X.b dX7_part_35 (by decide) ?_
      cases hf
      exact z_iret X Z dX7_part_44
set_option maxRecDepth 100000 in
set_option maxHeartbeats 4000000 in
theorem mX7_knows (l : Launch) (Δ : zE) (ad : Nat → Nat) (thr : Int32) (saved : Int32) (mlen : Int32) (spot : Int32) (reads : Int32) (hash : Int64) (ms : Nat → Int32) (mpast : Nat → Int32) (mtext : Nat → Int32) (mread : Nat → Int32) (x1 : Int32) (x2 : Int32) {res : Int32 × Int32} (hf : fX7_knows thr ms x1 x2 = some res) : zMet l Δ yX7_knows cX7_knows 3 (some .int) 2 43 [.ref (ad 0), .int x1, .int x2] (wX7 Δ ad thr saved mlen spot reads hash ms mpast mtext mread) (wX7 Δ ad res.2 saved mlen spot reads hash ms mpast mtext mread) (some (.int res.1)) := by
  refine z_start (by decide +kernel) (Nat.le_of_ble_eq_true rfl) ?_
  intro p e s m args below meth c A ls X Z hl
  have hl : lv_has ls 3 [(0, .ref (ad 0)), (1, .int x1), (2, .int x2)] := hl
  rw [fX7_knows.eq_1] at hf
  refine lv_aload_n X.x X.b dX7_knows_0 rfl (lv_at hl 0 rfl) ?_
  refine lv_iload_n X.x X.b dX7_knows_1 rfl (lv_at hl 1 rfl) ?_
  obtain ⟨q1, hq1, hf⟩ := zb_ok hf
  refine z_callS X Z hl (mX7_isReader l Δ  x1 hq1) wd_923 wd_924 wd_68 wd_925 ok_X7_isReader (w' := (wX7 Δ ad thr saved mlen spot reads hash ms mpast mtext mread)) zSub_nil rfl zput_nil rfl (rest := [.ref (ad 0)]) rfl (Nat.le_of_ble_eq_true rfl) ⟨Nat.le_of_ble_eq_true rfl, Nat.le_of_ble_eq_true rfl⟩ ⟨Nat.zero_le _, Nat.zero_le _⟩ (st1 := [.int q1, .ref (ad 0)]) rfl dX7_knows_2 (fun H locs Z => ?_)
  refine lv_if_eq (tgt := 20) X.x X.b dX7_knows_5 (by decide) (fun b1 => ?_) (fun b1 => ?_)
  · have hf := zif_t b1 hf
    refine lv_iconst (v := 1) X.x X.b dX7_knows_20 ki_1 ?_
    obtain ⟨q2, hq2, hf⟩ := zb_ok hf
    refine z_callV X Z hl (mX7_refuses l Δ ad thr saved mlen spot reads hash ms mpast mtext mread 1 hq2) wd_862 wd_864 wd_18 wd_68 wd_865 ok_X7_refuses 7 rfl 0 rfl (w' := (wX7 Δ ad q2.2 saved mlen spot reads hash ms mpast mtext mread)) su_16 fs_16 pu_16 rfl (rest := []) rfl (Nat.le_of_ble_eq_true rfl) ⟨Nat.le_of_ble_eq_true rfl, Nat.le_of_ble_eq_true rfl⟩ ⟨Nat.zero_le _, Nat.zero_le _⟩ (st1 := [.int q2.1]) rfl dX7_knows_21 (fun H locs Z => ?_)
    refine lv_if_eq (tgt := 31) X.x X.b dX7_knows_24 (by decide) (fun b2 => ?_) (fun b2 => ?_)
    · have hf := zif_t b2 hf
      refine lv_aload_n X.x X.b dX7_knows_31 rfl (lv_at hl 0 rfl) ?_
      refine lv_iload_n X.x X.b dX7_knows_32 rfl (lv_at hl 1 rfl) ?_
      refine lv_iload_n X.x X.b dX7_knows_33 rfl (lv_at hl 2 rfl) ?_
      obtain ⟨q3, hq3, hf⟩ := zb_ok hf
      refine z_callV X Z hl (mX7_known l Δ ad q2.2 saved mlen spot reads hash ms mpast mtext mread x1 x2 hq3) wd_908 wd_910 wd_25 wd_68 wd_911 ok_X7_known 7 rfl 0 rfl (w' := (wX7 Δ ad q2.2 saved mlen spot reads hash ms mpast mtext mread)) su_16 fs_16 pu_16 rfl (rest := []) rfl (Nat.le_of_ble_eq_true rfl) ⟨Nat.le_of_ble_eq_true rfl, Nat.le_of_ble_eq_true rfl⟩ ⟨Nat.zero_le _, Nat.zero_le _⟩ (st1 := [.int q3]) rfl dX7_knows_34 (fun H locs Z => ?_)
      cases hf
      exact z_iret X Z dX7_knows_37
    · have hf := zif_f b2 hf
      refine lv_iconst (v := 0) X.x X.b dX7_knows_27 ki_0 ?_
      refine lv_goto (tgt := 37) X.x X.b dX7_knows_28 (by decide) ?_
      cases hf
      exact z_iret X Z dX7_knows_37
  · have hf := zif_f b1 hf
    refine lv_aload_n X.x X.b dX7_knows_8 rfl (lv_at hl 0 rfl) ?_
    refine lv_iload_n X.x X.b dX7_knows_9 rfl (lv_at hl 2 rfl) ?_
    obtain ⟨q4, hq4, hf⟩ := zb_ok hf
    refine z_callV X Z hl (mX7_isPart l Δ ad thr saved mlen spot reads hash ms mpast mtext mread x2 hq4) wd_892 wd_894 wd_22 wd_68 wd_895 ok_X7_isPart 7 rfl 0 rfl (w' := (wX7 Δ ad thr saved mlen spot reads hash ms mpast mtext mread)) su_16 fs_16 pu_16 rfl (rest := [.ref (ad 0)]) rfl (Nat.le_of_ble_eq_true rfl) ⟨Nat.le_of_ble_eq_true rfl, Nat.le_of_ble_eq_true rfl⟩ ⟨Nat.zero_le _, Nat.zero_le _⟩ (st1 := [.int q4, .ref (ad 0)]) rfl dX7_knows_10 (fun H locs Z => ?_)
    refine lv_if_eq (tgt := 20) X.x X.b dX7_knows_13 (by decide) (fun b3 => ?_) (fun b3 => ?_)
    · have hf := zif_t b3 hf
      refine lv_iconst (v := 1) X.x X.b dX7_knows_20 ki_1 ?_
      obtain ⟨q5, hq5, hf⟩ := zb_ok hf
      refine z_callV X Z hl (mX7_refuses l Δ ad thr saved mlen spot reads hash ms mpast mtext mread 1 hq5) wd_862 wd_864 wd_18 wd_68 wd_865 ok_X7_refuses 7 rfl 0 rfl (w' := (wX7 Δ ad q5.2 saved mlen spot reads hash ms mpast mtext mread)) su_16 fs_16 pu_16 rfl (rest := []) rfl (Nat.le_of_ble_eq_true rfl) ⟨Nat.le_of_ble_eq_true rfl, Nat.le_of_ble_eq_true rfl⟩ ⟨Nat.zero_le _, Nat.zero_le _⟩ (st1 := [.int q5.1]) rfl dX7_knows_21 (fun H locs Z => ?_)
      refine lv_if_eq (tgt := 31) X.x X.b dX7_knows_24 (by decide) (fun b4 => ?_) (fun b4 => ?_)
      · have hf := zif_t b4 hf
        refine lv_aload_n X.x X.b dX7_knows_31 rfl (lv_at hl 0 rfl) ?_
        refine lv_iload_n X.x X.b dX7_knows_32 rfl (lv_at hl 1 rfl) ?_
        refine lv_iload_n X.x X.b dX7_knows_33 rfl (lv_at hl 2 rfl) ?_
        obtain ⟨q6, hq6, hf⟩ := zb_ok hf
        refine z_callV X Z hl (mX7_known l Δ ad q5.2 saved mlen spot reads hash ms mpast mtext mread x1 x2 hq6) wd_908 wd_910 wd_25 wd_68 wd_911 ok_X7_known 7 rfl 0 rfl (w' := (wX7 Δ ad q5.2 saved mlen spot reads hash ms mpast mtext mread)) su_16 fs_16 pu_16 rfl (rest := []) rfl (Nat.le_of_ble_eq_true rfl) ⟨Nat.le_of_ble_eq_true rfl, Nat.le_of_ble_eq_true rfl⟩ ⟨Nat.zero_le _, Nat.zero_le _⟩ (st1 := [.int q6]) rfl dX7_knows_34 (fun H locs Z => ?_)
        cases hf
        exact z_iret X Z dX7_knows_37
      · have hf := zif_f b4 hf
        refine lv_iconst (v := 0) X.x X.b dX7_knows_27 ki_0 ?_
        refine lv_goto (tgt := 37) X.x X.b dX7_knows_28 (by decide) ?_
        cases hf
        exact z_iret X Z dX7_knows_37
    · have hf := zif_f b3 hf
      refine lv_iconst (v := 0) X.x X.b dX7_knows_16 ki_0 ?_
      refine lv_goto (tgt := 21) X.x X.b dX7_knows_17 (by decide) ?_
      obtain ⟨q7, hq7, hf⟩ := zb_ok hf
      refine z_callV X Z hl (mX7_refuses l Δ ad thr saved mlen spot reads hash ms mpast mtext mread 0 hq7) wd_862 wd_864 wd_18 wd_68 wd_865 ok_X7_refuses 7 rfl 0 rfl (w' := (wX7 Δ ad q7.2 saved mlen spot reads hash ms mpast mtext mread)) su_16 fs_16 pu_16 rfl (rest := []) rfl (Nat.le_of_ble_eq_true rfl) ⟨Nat.le_of_ble_eq_true rfl, Nat.le_of_ble_eq_true rfl⟩ ⟨Nat.zero_le _, Nat.zero_le _⟩ (st1 := [.int q7.1]) rfl dX7_knows_21 (fun H locs Z => ?_)
      refine lv_if_eq (tgt := 31) X.x X.b dX7_knows_24 (by decide) (fun b5 => ?_) (fun b5 => ?_)
      · have hf := zif_t b5 hf
        refine lv_aload_n X.x X.b dX7_knows_31 rfl (lv_at hl 0 rfl) ?_
        refine lv_iload_n X.x X.b dX7_knows_32 rfl (lv_at hl 1 rfl) ?_
        refine lv_iload_n X.x X.b dX7_knows_33 rfl (lv_at hl 2 rfl) ?_
        obtain ⟨q8, hq8, hf⟩ := zb_ok hf
        refine z_callV X Z hl (mX7_known l Δ ad q7.2 saved mlen spot reads hash ms mpast mtext mread x1 x2 hq8) wd_908 wd_910 wd_25 wd_68 wd_911 ok_X7_known 7 rfl 0 rfl (w' := (wX7 Δ ad q7.2 saved mlen spot reads hash ms mpast mtext mread)) su_16 fs_16 pu_16 rfl (rest := []) rfl (Nat.le_of_ble_eq_true rfl) ⟨Nat.le_of_ble_eq_true rfl, Nat.le_of_ble_eq_true rfl⟩ ⟨Nat.zero_le _, Nat.zero_le _⟩ (st1 := [.int q8]) rfl dX7_knows_34 (fun H locs Z => ?_)
        cases hf
        exact z_iret X Z dX7_knows_37
      · have hf := zif_f b5 hf
        refine lv_iconst (v := 0) X.x X.b dX7_knows_27 ki_0 ?_
        refine lv_goto (tgt := 37) X.x X.b dX7_knows_28 (by decide) ?_
        cases hf
        exact z_iret X Z dX7_knows_37
set_option maxRecDepth 100000 in
set_option maxHeartbeats 4000000 in
theorem mX7_manyKnown (l : Launch) (Δ : zE) (ad : Nat → Nat) (thr : Int32) (saved : Int32) (mlen : Int32) (spot : Int32) (reads : Int32) (hash : Int64) (ms : Nat → Int32) (mpast : Nat → Int32) (mtext : Nat → Int32) (mread : Nat → Int32) (x1 : Int32) (x2 : Int32) {res : Int32} (hf : fX7_manyKnown ms x1 x2 = some res) : zMet l Δ yX7_manyKnown cX7_manyKnown 5 (some .int) 1 22 [.ref (ad 0), .int x1, .int x2] (wX7 Δ ad thr saved mlen spot reads hash ms mpast mtext mread) (wX7 Δ ad thr saved mlen spot reads hash ms mpast mtext mread) (some (.int res)) := by
  refine z_start (by decide +kernel) (Nat.le_of_ble_eq_true rfl) ?_
  intro p e s m args below meth c A ls X Z hl
  have hl : lv_has ls 5 [(0, .ref (ad 0)), (1, .int x1), (2, .int x2)] := hl
  have L5 : ∀ (k : Nat) (ms : Nat → Int32) (v1 : Int32) (v2 : Int32) (v3 : Int32) (v4 : Int32), fX7_manyKnown_5 k ms v1 v2 v3 v4 = some res → ∀ (H : Heap) (locs : List Loc) (ls : Array Slot), zW Δ A s.heap (wX7 Δ ad thr saved mlen spot reads hash ms mpast mtext mread) H locs → lv_has ls 5 [(0, .ref (ad 0)), (1, .int v1), (2, .int v2), (3, .int v3), (4, .int v4)] → W p l e { frames := 1, cells := 0, slots := 0, locals := 22 } s m args below meth c H locs 0 0 (zEnd Δ below args s 0 0 A (some (.int res)) (wX7 Δ ad thr saved mlen spot reads hash ms mpast mtext mread)) (F0 m 5 ls []) := by
    intro k
    induction k with
    | zero =>
      intro ms v1 v2 v3 v4 hf
      rw [fX7_manyKnown_5.eq_1] at hf
      cases hf
    | succ k ih =>
      intro ms v1 v2 v3 v4 hf H locs ls Z hl
      rw [fX7_manyKnown_5.eq_2] at hf
      refine lv_iload X.x X.b dX7_manyKnown_5 (lv_at hl 4 rfl) ?_
      refine lv_aload_n X.x X.b dX7_manyKnown_7 rfl (lv_at hl 0 rfl) ?_
      refine z_gf inG_X7 (ci := 7) rfl 1 (Nat.le_of_ble_eq_true rfl) rfl X Z wd_823 0 rfl (v := .ref (ad 1)) rfl dX7_manyKnown_8 ?_
      refine lv_iconst (v := 0) X.x X.b dX7_manyKnown_11 ki_0 ?_
      refine z_iald X Z 1 rfl (zvin (by decide)) dX7_manyKnown_12 ?_
      refine lv_icmp_ge (tgt := 41) X.x X.b dX7_manyKnown_13 (by decide) (fun b1 => ?_) (fun b1 => ?_)
      · have hf := zif_t b1 hf
        refine lv_iload_n X.x X.b dX7_manyKnown_41 rfl (lv_at hl 3 rfl) ?_
        cases hf
        exact z_iret X Z dX7_manyKnown_42
      · have hf := zif_f b1 hf
        refine lv_iload_n X.x X.b dX7_manyKnown_16 rfl (lv_at hl 3 rfl) ?_
        refine lv_aload_n X.x X.b dX7_manyKnown_17 rfl (lv_at hl 0 rfl) ?_
        refine lv_iload_n X.x X.b dX7_manyKnown_18 rfl (lv_at hl 1 rfl) ?_
        refine lv_iload X.x X.b dX7_manyKnown_19 (lv_at hl 4 rfl) ?_
        obtain ⟨q1, hq1, hf⟩ := zb_ok hf
        refine z_callV X Z hl (mX7_known l Δ ad thr saved mlen spot reads hash ms mpast mtext mread v1 v4 hq1) wd_908 wd_910 wd_25 wd_68 wd_911 ok_X7_known 7 rfl 0 rfl (w' := (wX7 Δ ad thr saved mlen spot reads hash ms mpast mtext mread)) su_16 fs_16 pu_16 rfl (rest := [.int v3]) rfl (Nat.le_of_ble_eq_true rfl) ⟨Nat.le_of_ble_eq_true rfl, Nat.le_of_ble_eq_true rfl⟩ ⟨Nat.zero_le _, Nat.zero_le _⟩ (st1 := [.int q1, .int v3]) rfl dX7_manyKnown_21 (fun H locs Z => ?_)
        refine lv_iload_n X.x X.b dX7_manyKnown_24 rfl (lv_at hl 2 rfl) ?_
        refine lv_icmp_ne (tgt := 32) X.x X.b dX7_manyKnown_25 (by decide) (fun b2 => ?_) (fun b2 => ?_)
        · have hf := zif_f b2 hf
          refine lv_iconst (v := 0) X.x X.b dX7_manyKnown_32 ki_0 ?_
          refine lv_iadd X.x X.b dX7_manyKnown_33 ?_
          refine lv_istore_n (lv' := [(3, .int (v3 + 0)), (0, .ref (ad 0)), (1, .int v1), (2, .int v2), (4, .int v4)]) X.x X.b dX7_manyKnown_34 rfl hl (Nat.le_of_ble_eq_true rfl) rfl (fun ls hl => ?_)
          refine lv_iinc (v := (v4 + 1)) (lv' := [(4, .int (v4 + 1)), (3, .int (v3 + 0)), (0, .ref (ad 0)), (1, .int v1), (2, .int v2)]) X.x X.b dX7_manyKnown_35 hl (k := 4) rfl (congrArg _ ki_1) (Nat.le_of_ble_eq_true rfl) rfl (fun ls hl => ?_)
          refine lv_goto (tgt := 5) X.x X.b dX7_manyKnown_38 (by decide) ?_
          exact ih ms v1 v2 (v3 + 0) (v4 + 1) hf _ _ _ Z (lv_sub hl [2, 3, 4, 1, 0] rfl)
        · have hf := zif_t b2 hf
          refine lv_iconst (v := 1) X.x X.b dX7_manyKnown_28 ki_1 ?_
          refine lv_goto (tgt := 33) X.x X.b dX7_manyKnown_29 (by decide) ?_
          refine lv_iadd X.x X.b dX7_manyKnown_33 ?_
          refine lv_istore_n (lv' := [(3, .int (v3 + 1)), (0, .ref (ad 0)), (1, .int v1), (2, .int v2), (4, .int v4)]) X.x X.b dX7_manyKnown_34 rfl hl (Nat.le_of_ble_eq_true rfl) rfl (fun ls hl => ?_)
          refine lv_iinc (v := (v4 + 1)) (lv' := [(4, .int (v4 + 1)), (3, .int (v3 + 1)), (0, .ref (ad 0)), (1, .int v1), (2, .int v2)]) X.x X.b dX7_manyKnown_35 hl (k := 4) rfl (congrArg _ ki_1) (Nat.le_of_ble_eq_true rfl) rfl (fun ls hl => ?_)
          refine lv_goto (tgt := 5) X.x X.b dX7_manyKnown_38 (by decide) ?_
          exact ih ms v1 v2 (v3 + 1) (v4 + 1) hf _ _ _ Z (lv_sub hl [2, 3, 4, 1, 0] rfl)
  rw [fX7_manyKnown.eq_1] at hf
  refine lv_iconst (v := 0) X.x X.b dX7_manyKnown_0 ki_0 ?_
  refine lv_istore_n (lv' := [(3, .int 0), (0, .ref (ad 0)), (1, .int x1), (2, .int x2)]) X.x X.b dX7_manyKnown_1 rfl hl (Nat.le_of_ble_eq_true rfl) rfl (fun ls hl => ?_)
  refine lv_iconst (v := 0) X.x X.b dX7_manyKnown_2 ki_0 ?_
  refine lv_istore (lv' := [(4, .int 0), (3, .int 0), (0, .ref (ad 0)), (1, .int x1), (2, .int x2)]) X.x X.b dX7_manyKnown_3 hl (Nat.le_of_ble_eq_true rfl) rfl (fun ls hl => ?_)
  exact L5 zfuel ms x1 x2 0 0 hf _ _ _ Z (lv_sub hl [2, 3, 4, 1, 0] rfl)
