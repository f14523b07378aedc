set_option maxRecDepth 100000 in
set_option maxHeartbeats 4000000 in
theorem mX7_thrown (l : Launch) (Δ : zE) (ad : Nat → Nat) (thr : Int32) (saved : Int32) (mlen : Int32) (spot : Int32) (reads : Int32) (hash : Int64) (ms : Nat → Int32) (mpast : Nat → Int32) (mtext : Nat → Int32) (mread : Nat → Int32)  {res : Int32} (hf : fX7_thrown thr = some res) : zMet l Δ yX7_thrown cX7_thrown 1 (some .int) 0 0 [.ref (ad 0)] (wX7 Δ ad thr saved mlen spot reads hash ms mpast mtext mread) (wX7 Δ ad thr saved mlen spot reads hash ms mpast mtext mread) (some (.int res)) := by
  refine z_start (by decide +kernel) (Nat.le_of_ble_eq_true rfl) ?_
  intro p e s m args below meth c A ls X Z hl
  have hl : lv_has ls 1 [(0, .ref (ad 0))] := hl
  rw [fX7_thrown.eq_1] at hf
  refine lv_aload_n X.x X.b dX7_thrown_0 rfl (lv_at hl 0 rfl) ?_
  refine z_gf inG_X7 (ci := 7) rfl 0 (Nat.le_of_ble_eq_true rfl) rfl X Z wd_822 0 rfl (v := .int thr) rfl dX7_thrown_1 ?_
  cases hf
  exact z_iret X Z dX7_thrown_4
set_option maxRecDepth 100000 in
set_option maxHeartbeats 4000000 in
theorem mX7_in (l : Launch) (Δ : zE)  (x0 : Int32) (x1 : Int32) (x2 : Int32) {res : Int32} (hf : fX7_in x0 x1 x2 = some res) : zMet l Δ yX7_in cX7_in 3 (some .boolean) 0 0 [.int x0, .int x1, .int x2] [] [] (some (.int res)) := by
  refine z_start (by decide +kernel) (Nat.le_of_ble_eq_true rfl) ?_
  intro p e s m args below meth c A ls X Z hl
  have hl : lv_has ls 3 [(0, .int x0), (1, .int x1), (2, .int x2)] := hl
  rw [fX7_in.eq_1] at hf
  refine lv_iload_n X.x X.b dX7_in_0 rfl (lv_at hl 0 rfl) ?_
  refine lv_iload_n X.x X.b dX7_in_1 rfl (lv_at hl 1 rfl) ?_
  refine lv_icmp_lt (tgt := 14) X.x X.b dX7_in_2 (by decide) (fun b1 => ?_) (fun b1 => ?_)
  · have hf := zif_t b1 hf
    refine lv_iconst (v := 0) X.x X.b dX7_in_14 ki_0 ?_
    cases hf
    exact z_zret X Z (Or.inl rfl) dX7_in_15
  · have hf := zif_f b1 hf
    refine lv_iload_n X.x X.b dX7_in_5 rfl (lv_at hl 0 rfl) ?_
    refine lv_iload_n X.x X.b dX7_in_6 rfl (lv_at hl 2 rfl) ?_
    refine lv_icmp_gt (tgt := 14) X.x X.b dX7_in_7 (by decide) (fun b2 => ?_) (fun b2 => ?_)
    · have hf := zif_t b2 hf
      refine lv_iconst (v := 0) X.x X.b dX7_in_14 ki_0 ?_
      cases hf
      exact z_zret X Z (Or.inl rfl) dX7_in_15
    · have hf := zif_f b2 hf
      refine lv_iconst (v := 1) X.x X.b dX7_in_10 ki_1 ?_
      refine lv_goto (tgt := 15) X.x X.b dX7_in_11 (by decide) ?_
      cases hf
      exact z_zret X Z (Or.inr rfl) dX7_in_15
set_option maxRecDepth 100000 in
set_option maxHeartbeats 4000000 in
theorem mX7_refuses (l : Launch) (Δ : zE) (ad : Nat → Nat) (thr : Int32) (saved : Int32) (mlen : Int32) (spot : Int32) (reads : Int32) (hash : Int64) (ms : Nat → Int32) (mpast : Nat → Int32) (mtext : Nat → Int32) (mread : Nat → Int32) (x1 : Int32) {res : Int32 × Int32} (hf : fX7_refuses thr x1 = some res) : zMet l Δ yX7_refuses cX7_refuses 2 (some .boolean) 0 0 [.ref (ad 0), .int x1] (wX7 Δ ad thr saved mlen spot reads hash ms mpast mtext mread) (wX7 Δ ad res.2 saved mlen spot reads hash ms mpast mtext mread) (some (.int res.1)) := by
  refine z_start (by decide +kernel) (Nat.le_of_ble_eq_true rfl) ?_
  intro p e s m args below meth c A ls X Z hl
  have hl : lv_has ls 2 [(0, .ref (ad 0)), (1, .int x1)] := hl
  rw [fX7_refuses.eq_1] at hf
  refine lv_aload_n X.x X.b dX7_refuses_0 rfl (lv_at hl 0 rfl) ?_
  refine lv_iload_n X.x X.b dX7_refuses_1 rfl (lv_at hl 1 rfl) ?_
  refine z_pf (w' := (wX7 Δ ad x1 saved mlen spot reads hash ms mpast mtext mread)) inG_X7 (ci := 7) rfl tyX7 tyX7_ok nmX7 0 (Nat.le_of_ble_eq_true rfl) rfl rfl X Z wd_822 0 rfl rfl rfl (Nat.le_of_ble_eq_true rfl) rfl dX7_refuses_2 (fun H locs Z => ?_)
  refine lv_iload_n X.x X.b dX7_refuses_5 rfl (lv_at hl 1 rfl) ?_
  refine lv_if_le (tgt := 13) X.x X.b dX7_refuses_6 (by decide) (fun b1 => ?_) (fun b1 => ?_)
  · have hf := zif_t b1 hf
    refine lv_iconst (v := 0) X.x X.b dX7_refuses_13 ki_0 ?_
    cases hf
    exact z_zret X Z (Or.inl rfl) dX7_refuses_14
  · have hf := zif_f b1 hf
    refine lv_iconst (v := 1) X.x X.b dX7_refuses_9 ki_1 ?_
    refine lv_goto (tgt := 14) X.x X.b dX7_refuses_10 (by decide) ?_
    cases hf
    exact z_zret X Z (Or.inr rfl) dX7_refuses_14
set_option maxRecDepth 100000 in
set_option maxHeartbeats 4000000 in
theorem mX7_saves (l : Launch) (Δ : zE) (ad : Nat → Nat) (thr : Int32) (saved : Int32) (mlen : Int32) (spot : Int32) (reads : Int32) (hash : Int64) (ms : Nat → Int32) (mpast : Nat → Int32) (mtext : Nat → Int32) (mread : Nat → Int32)  {res : Int32 × (Nat → Int32)} (hf : fX7_saves saved ms mpast = some res) : zMet l Δ yX7_saves cX7_saves 2 none 0 0 [.ref (ad 0)] (wX7 Δ ad thr saved mlen spot reads hash ms mpast mtext mread) (wX7 Δ ad thr res.1 mlen spot reads hash ms res.2 mtext mread) none := by
  refine z_start (by decide +kernel) (Nat.le_of_ble_eq_true rfl) ?_
  intro p e s m args below meth c A ls X Z hl
  have hl : lv_has ls 2 [(0, .ref (ad 0))] := hl
  have L52 : ∀ (k : Nat) (saved : Int32) (ms : Nat → Int32) (mpast : Nat → Int32) (v1 : Int32), fX7_saves_52 k saved ms mpast v1 = some res → ∀ (H : Heap) (locs : List Loc) (ls : Array Slot), zW Δ A s.heap (wX7 Δ ad thr saved mlen spot reads hash ms mpast mtext mread) H locs → lv_has ls 2 [(0, .ref (ad 0)), (1, .int v1)] → W p l e { frames := 0, cells := 0, slots := 0, locals := 0 } s m args below meth c H locs 0 0 (zEnd Δ below args s 0 0 A none (wX7 Δ ad thr res.1 mlen spot reads hash ms res.2 mtext mread)) (F0 m 52 ls []) := by
    intro k
    induction k with
    | zero =>
      intro saved ms mpast v1 hf
      rw [fX7_saves_52.eq_1] at hf
      cases hf
    | succ k ih =>
      intro saved ms mpast v1 hf H locs ls Z hl
      rw [fX7_saves_52.eq_2] at hf
      refine lv_iload_n X.x X.b dX7_saves_52 rfl (lv_at hl 1 rfl) ?_
      refine lv_sipush (v := 203) X.x X.b dX7_saves_53 kh_203 ?_
      refine lv_icmp_ge (tgt := 86) X.x X.b dX7_saves_56 (by decide) (fun b1 => ?_) (fun b1 => ?_)
      · have hf := zif_t b1 hf
        refine lv_aload_n X.x X.b dX7_saves_86 rfl (lv_at hl 0 rfl) ?_
        refine lv_dup X.x X.b dX7_saves_87 rfl ?_
        refine z_gf inG_X7 (ci := 7) rfl 3 (Nat.le_of_ble_eq_true rfl) rfl X Z wd_825 0 rfl (v := .int saved) rfl dX7_saves_88 ?_
        refine lv_iconst (v := 1) X.x X.b dX7_saves_91 ki_1 ?_
        refine lv_iadd X.x X.b dX7_saves_92 ?_
        refine z_pf (w' := (wX7 Δ ad thr (saved + 1) mlen spot reads hash ms mpast mtext mread)) inG_X7 (ci := 7) rfl tyX7 tyX7_ok nmX7 3 (Nat.le_of_ble_eq_true rfl) rfl rfl X Z wd_825 0 rfl rfl rfl (Nat.le_of_ble_eq_true rfl) rfl dX7_saves_93 (fun H locs Z => ?_)
        cases hf
        exact z_vret X Z dX7_saves_96
      · have hf := zif_f b1 hf
        refine lv_aload_n X.x X.b dX7_saves_59 rfl (lv_at hl 0 rfl) ?_
        refine z_gf inG_X7 (ci := 7) rfl 2 (Nat.le_of_ble_eq_true rfl) rfl X Z wd_824 0 rfl (v := .ref (ad 2)) rfl dX7_saves_60 ?_
        refine lv_sipush (v := 203) X.x X.b dX7_saves_63 kh_203 ?_
        refine lv_aload_n X.x X.b dX7_saves_66 rfl (lv_at hl 0 rfl) ?_
        refine z_gf inG_X7 (ci := 7) rfl 3 (Nat.le_of_ble_eq_true rfl) rfl X Z wd_825 0 rfl (v := .int saved) rfl dX7_saves_67 ?_
        refine lv_imul X.x X.b dX7_saves_70 ?_
        refine lv_iload_n X.x X.b dX7_saves_71 rfl (lv_at hl 1 rfl) ?_
        refine lv_iadd X.x X.b dX7_saves_72 ?_
        refine lv_aload_n X.x X.b dX7_saves_73 rfl (lv_at hl 0 rfl) ?_
        refine z_gf inG_X7 (ci := 7) rfl 1 (Nat.le_of_ble_eq_true rfl) rfl X Z wd_823 0 rfl (v := .ref (ad 1)) rfl dX7_saves_74 ?_
        refine lv_iload_n X.x X.b dX7_saves_77 rfl (lv_at hl 1 rfl) ?_
        obtain ⟨b2, hf⟩ := zg_in hf
        refine z_iald X Z 1 rfl b2 dX7_saves_78 ?_
        obtain ⟨b3, hf⟩ := zg_in hf
        refine z_iast (w' := (wX7 Δ ad thr saved mlen spot reads hash ms (upd mpast ((203 * saved) + v1).toNatClampNeg (ms v1.toNatClampNeg)) mtext mread)) X Z 2 rfl b3 rfl dX7_saves_79 (fun H locs Z => ?_)
        refine lv_iinc (v := (v1 + 1)) (lv' := [(1, .int (v1 + 1)), (0, .ref (ad 0))]) X.x X.b dX7_saves_80 hl (k := 1) rfl (congrArg _ ki_1) (Nat.le_of_ble_eq_true rfl) rfl (fun ls hl => ?_)
        refine lv_goto (tgt := 52) X.x X.b dX7_saves_83 (by decide) ?_
        exact ih saved ms (upd mpast ((203 * saved) + v1).toNatClampNeg (ms v1.toNatClampNeg)) (v1 + 1) hf _ _ _ Z (lv_sub hl [1, 0] rfl)
  have L11 : ∀ (k : Nat) (saved : Int32) (ms : Nat → Int32) (mpast : Nat → Int32) (v1 : Int32), fX7_saves_11 k saved ms mpast v1 = some res → ∀ (H : Heap) (locs : List Loc) (ls : Array Slot), zW Δ A s.heap (wX7 Δ ad thr saved mlen spot reads hash ms mpast mtext mread) H locs → lv_has ls 2 [(0, .ref (ad 0)), (1, .int v1)] → W p l e { frames := 0, cells := 0, slots := 0, locals := 0 } s m args below meth c H locs 0 0 (zEnd Δ below args s 0 0 A none (wX7 Δ ad thr res.1 mlen spot reads hash ms res.2 mtext mread)) (F0 m 11 ls []) := by
    intro k
    induction k with
    | zero =>
      intro saved ms mpast v1 hf
      rw [fX7_saves_11.eq_1] at hf
      cases hf
    | succ k ih =>
      intro saved ms mpast v1 hf H locs ls Z hl
      rw [fX7_saves_11.eq_2] at hf
      refine lv_iload_n X.x X.b dX7_saves_11 rfl (lv_at hl 1 rfl) ?_
      refine lv_sipush (v := 1015) X.x X.b dX7_saves_12 kh_1015 ?_
      refine lv_icmp_ge (tgt := 40) X.x X.b dX7_saves_15 (by decide) (fun b1 => ?_) (fun b1 => ?_)
      · have hf := zif_t b1 hf
        refine lv_aload_n X.x X.b dX7_saves_40 rfl (lv_at hl 0 rfl) ?_
        refine lv_dup X.x X.b dX7_saves_41 rfl ?_
        refine z_gf inG_X7 (ci := 7) rfl 3 (Nat.le_of_ble_eq_true rfl) rfl X Z wd_825 0 rfl (v := .int saved) rfl dX7_saves_42 ?_
        refine lv_iconst (v := 1) X.x X.b dX7_saves_45 ki_1 ?_
        refine lv_isub X.x X.b dX7_saves_46 ?_
        refine z_pf (w' := (wX7 Δ ad thr (saved - 1) mlen spot reads hash ms mpast mtext mread)) inG_X7 (ci := 7) rfl tyX7 tyX7_ok nmX7 3 (Nat.le_of_ble_eq_true rfl) rfl rfl X Z wd_825 0 rfl rfl rfl (Nat.le_of_ble_eq_true rfl) rfl dX7_saves_47 (fun H locs Z => ?_)
        refine lv_iconst (v := 0) X.x X.b dX7_saves_50 ki_0 ?_
        refine lv_istore_n (lv' := [(1, .int 0), (0, .ref (ad 0))]) X.x X.b dX7_saves_51 rfl hl (Nat.le_of_ble_eq_true rfl) rfl (fun ls hl => ?_)
        exact L52 zfuel (saved - 1) ms mpast 0 hf _ _ _ Z (lv_sub hl [1, 0] rfl)
      · have hf := zif_f b1 hf
        refine lv_aload_n X.x X.b dX7_saves_18 rfl (lv_at hl 0 rfl) ?_
        refine z_gf inG_X7 (ci := 7) rfl 2 (Nat.le_of_ble_eq_true rfl) rfl X Z wd_824 0 rfl (v := .ref (ad 2)) rfl dX7_saves_19 ?_
        refine lv_iload_n X.x X.b dX7_saves_22 rfl (lv_at hl 1 rfl) ?_
        refine lv_aload_n X.x X.b dX7_saves_23 rfl (lv_at hl 0 rfl) ?_
        refine z_gf inG_X7 (ci := 7) rfl 2 (Nat.le_of_ble_eq_true rfl) rfl X Z wd_824 0 rfl (v := .ref (ad 2)) rfl dX7_saves_24 ?_
        refine lv_iload_n X.x X.b dX7_saves_27 rfl (lv_at hl 1 rfl) ?_
        refine lv_sipush (v := 203) X.x X.b dX7_saves_28 kh_203 ?_
        refine lv_iadd X.x X.b dX7_saves_31 ?_
        obtain ⟨b2, hf⟩ := zg_in hf
        refine z_iald X Z 2 rfl b2 dX7_saves_32 ?_
        obtain ⟨b3, hf⟩ := zg_in hf
        refine z_iast (w' := (wX7 Δ ad thr saved mlen spot reads hash ms (upd mpast v1.toNatClampNeg (mpast (v1 + 203).toNatClampNeg)) mtext mread)) X Z 2 rfl b3 rfl dX7_saves_33 (fun H locs Z => ?_)
        refine lv_iinc (v := (v1 + 1)) (lv' := [(1, .int (v1 + 1)), (0, .ref (ad 0))]) X.x X.b dX7_saves_34 hl (k := 1) rfl (congrArg _ ki_1) (Nat.le_of_ble_eq_true rfl) rfl (fun ls hl => ?_)
        refine lv_goto (tgt := 11) X.x X.b dX7_saves_37 (by decide) ?_
        exact ih saved ms (upd mpast v1.toNatClampNeg (mpast (v1 + 203).toNatClampNeg)) (v1 + 1) hf _ _ _ Z (lv_sub hl [1, 0] rfl)
  rw [fX7_saves.eq_1] at hf
  refine lv_aload_n X.x X.b dX7_saves_0 rfl (lv_at hl 0 rfl) ?_
  refine z_gf inG_X7 (ci := 7) rfl 3 (Nat.le_of_ble_eq_true rfl) rfl X Z wd_825 0 rfl (v := .int saved) rfl dX7_saves_1 ?_
  refine lv_bipush (v := 6) X.x X.b dX7_saves_4 kb_6 ?_
  refine lv_icmp_ne (tgt := 50) X.x X.b dX7_saves_6 (by decide) (fun b1 => ?_) (fun b1 => ?_)
  · have hf := zif_f b1 hf
    refine lv_iconst (v := 0) X.x X.b dX7_saves_50 ki_0 ?_
    refine lv_istore_n (lv' := [(1, .int 0), (0, .ref (ad 0))]) X.x X.b dX7_saves_51 rfl hl (Nat.le_of_ble_eq_true rfl) rfl (fun ls hl => ?_)
    exact L52 zfuel saved ms mpast 0 hf _ _ _ Z (lv_sub hl [1, 0] rfl)
  · have hf := zif_t b1 hf
    refine lv_iconst (v := 0) X.x X.b dX7_saves_9 ki_0 ?_
    refine lv_istore_n (lv' := [(1, .int 0), (0, .ref (ad 0))]) X.x X.b dX7_saves_10 rfl hl (Nat.le_of_ble_eq_true rfl) rfl (fun ls hl => ?_)
    exact L11 zfuel saved ms mpast 0 hf _ _ _ Z (lv_sub hl [1, 0] rfl)
set_option maxRecDepth 100000 in
set_option maxHeartbeats 4000000 in
theorem mX7_undo (l : Launch) (Δ : zE) (ad : Nat → Nat) (thr : Int32) (saved : Int32) (mlen : Int32) (spot : Int32) (reads : Int32) (hash : Int64) (ms : Nat → Int32) (mpast : Nat → Int32) (mtext : Nat → Int32) (mread : Nat → Int32)  {res : Int32 × Int32 × Int32 × (Nat → Int32)} (hf : fX7_undo thr saved ms mpast = some res) : zMet l Δ yX7_undo cX7_undo 2 (some .int) 1 21 [.ref (ad 0)] (wX7 Δ ad thr saved mlen spot reads hash ms mpast mtext mread) (wX7 Δ ad res.2.1 res.2.2.1 mlen spot reads hash res.2.2.2 mpast mtext mread) (some (.int res.1)) := by
  refine z_start (by decide +kernel) (Nat.le_of_ble_eq_true rfl) ?_
  intro p e s m args below meth c A ls X Z hl
  have hl : lv_has ls 2 [(0, .ref (ad 0))] := hl
  have L33 : ∀ (k : Nat) (thr : Int32) (saved : Int32) (ms : Nat → Int32) (mpast : Nat → Int32) (v1 : Int32), fX7_undo_33 k thr saved ms mpast v1 = some res → ∀ (H : Heap) (locs : List Loc) (ls : Array Slot), zW Δ A s.heap (wX7 Δ ad thr saved mlen spot reads hash ms mpast mtext mread) H locs → lv_has ls 2 [(0, .ref (ad 0)), (1, .int v1)] → W p l e { frames := 1, cells := 0, slots := 0, locals := 21 } s m args below meth c H locs 0 0 (zEnd Δ below args s 0 0 A (some (.int res.1)) (wX7 Δ ad res.2.1 res.2.2.1 mlen spot reads hash res.2.2.2 mpast mtext mread)) (F0 m 33 ls []) := by
    intro k
    induction k with
    | zero =>
      intro thr saved ms mpast v1 hf
      rw [fX7_undo_33.eq_1] at hf
      cases hf
    | succ k ih =>
      intro thr saved ms mpast v1 hf H locs ls Z hl
      rw [fX7_undo_33.eq_2] at hf
      refine lv_iload_n X.x X.b dX7_undo_33 rfl (lv_at hl 1 rfl) ?_
      refine lv_sipush (v := 203) X.x X.b dX7_undo_34 kh_203 ?_
      refine lv_icmp_ge (tgt := 67) X.x X.b dX7_undo_37 (by decide) (fun b1 => ?_) (fun b1 => ?_)
      · have hf := zif_t b1 hf
        refine lv_aload_n X.x X.b dX7_undo_67 rfl (lv_at hl 0 rfl) ?_
        refine z_gf inG_X7 (ci := 7) rfl 3 (Nat.le_of_ble_eq_true rfl) rfl X Z wd_825 0 rfl (v := .int saved) rfl dX7_undo_68 ?_
        cases hf
        exact z_iret X Z dX7_undo_71
      · have hf := zif_f b1 hf
        refine lv_aload_n X.x X.b dX7_undo_40 rfl (lv_at hl 0 rfl) ?_
        refine z_gf inG_X7 (ci := 7) rfl 1 (Nat.le_of_ble_eq_true rfl) rfl X Z wd_823 0 rfl (v := .ref (ad 1)) rfl dX7_undo_41 ?_
        refine lv_iload_n X.x X.b dX7_undo_44 rfl (lv_at hl 1 rfl) ?_
        refine lv_aload_n X.x X.b dX7_undo_45 rfl (lv_at hl 0 rfl) ?_
        refine z_gf inG_X7 (ci := 7) rfl 2 (Nat.le_of_ble_eq_true rfl) rfl X Z wd_824 0 rfl (v := .ref (ad 2)) rfl dX7_undo_46 ?_
        refine lv_sipush (v := 203) X.x X.b dX7_undo_49 kh_203 ?_
        refine lv_aload_n X.x X.b dX7_undo_52 rfl (lv_at hl 0 rfl) ?_
        refine z_gf inG_X7 (ci := 7) rfl 3 (Nat.le_of_ble_eq_true rfl) rfl X Z wd_825 0 rfl (v := .int saved) rfl dX7_undo_53 ?_
        refine lv_imul X.x X.b dX7_undo_56 ?_
        refine lv_iload_n X.x X.b dX7_undo_57 rfl (lv_at hl 1 rfl) ?_
        refine lv_iadd X.x X.b dX7_undo_58 ?_
        obtain ⟨b2, hf⟩ := zg_in hf
        refine z_iald X Z 2 rfl b2 dX7_undo_59 ?_
        obtain ⟨b3, hf⟩ := zg_in hf
        refine z_iast (w' := (wX7 Δ ad thr saved mlen spot reads hash (upd ms v1.toNatClampNeg (mpast ((203 * saved) + v1).toNatClampNeg)) mpast mtext mread)) X Z 1 rfl b3 rfl dX7_undo_60 (fun H locs Z => ?_)
        refine lv_iinc (v := (v1 + 1)) (lv' := [(1, .int (v1 + 1)), (0, .ref (ad 0))]) X.x X.b dX7_undo_61 hl (k := 1) rfl (congrArg _ ki_1) (Nat.le_of_ble_eq_true rfl) rfl (fun ls hl => ?_)
        refine lv_goto (tgt := 33) X.x X.b dX7_undo_64 (by decide) ?_
        exact ih thr saved (upd ms v1.toNatClampNeg (mpast ((203 * saved) + v1).toNatClampNeg)) mpast (v1 + 1) hf _ _ _ Z (lv_sub hl [1, 0] rfl)
  rw [fX7_undo.eq_1] at hf
  refine lv_aload_n X.x X.b dX7_undo_0 rfl (lv_at hl 0 rfl) ?_
  refine lv_aload_n X.x X.b dX7_undo_1 rfl (lv_at hl 0 rfl) ?_
  refine z_gf inG_X7 (ci := 7) rfl 3 (Nat.le_of_ble_eq_true rfl) rfl X Z wd_825 0 rfl (v := .int saved) rfl dX7_undo_2 ?_
  refine lv_if_ne (tgt := 12) X.x X.b dX7_undo_5 (by decide) (fun b1 => ?_) (fun b1 => ?_)
  · have hf := zif_f b1 hf
    refine lv_iconst (v := 0) X.x X.b dX7_undo_12 ki_0 ?_
    obtain ⟨q1, hq1, hf⟩ := zb_ok hf
    refine z_callV X Z hl (mX7_refuses l Δ ad thr saved mlen spot reads hash ms mpast mtext mread 0 hq1) wd_862 wd_864 wd_18 wd_68 wd_865 ok_X7_refuses 7 rfl 0 rfl (w' := (wX7 Δ ad q1.2 saved mlen spot reads hash ms mpast mtext mread)) su_16 fs_16 pu_16 rfl (rest := []) rfl (Nat.le_of_ble_eq_true rfl) ⟨Nat.le_of_ble_eq_true rfl, Nat.le_of_ble_eq_true rfl⟩ ⟨Nat.zero_le _, Nat.zero_le _⟩ (st1 := [.int q1.1]) rfl dX7_undo_13 (fun H locs Z => ?_)
    refine lv_if_eq (tgt := 21) X.x X.b dX7_undo_16 (by decide) (fun b2 => ?_) (fun b2 => ?_)
    · have hf := zif_t b2 hf
      refine lv_aload_n X.x X.b dX7_undo_21 rfl (lv_at hl 0 rfl) ?_
      refine lv_dup X.x X.b dX7_undo_22 rfl ?_
      refine z_gf inG_X7 (ci := 7) rfl 3 (Nat.le_of_ble_eq_true rfl) rfl X Z wd_825 0 rfl (v := .int saved) rfl dX7_undo_23 ?_
      refine lv_iconst (v := 1) X.x X.b dX7_undo_26 ki_1 ?_
      refine lv_isub X.x X.b dX7_undo_27 ?_
      refine z_pf (w' := (wX7 Δ ad q1.2 (saved - 1) mlen spot reads hash ms mpast mtext mread)) inG_X7 (ci := 7) rfl tyX7 tyX7_ok nmX7 3 (Nat.le_of_ble_eq_true rfl) rfl rfl X Z wd_825 0 rfl rfl rfl (Nat.le_of_ble_eq_true rfl) rfl dX7_undo_28 (fun H locs Z => ?_)
      refine lv_iconst (v := 0) X.x X.b dX7_undo_31 ki_0 ?_
      refine lv_istore_n (lv' := [(1, .int 0), (0, .ref (ad 0))]) X.x X.b dX7_undo_32 rfl hl (Nat.le_of_ble_eq_true rfl) rfl (fun ls hl => ?_)
      exact L33 zfuel q1.2 (saved - 1) ms mpast 0 hf _ _ _ Z (lv_sub hl [1, 0] rfl)
    · have hf := zif_f b2 hf
      refine lv_iconst (v := 0) X.x X.b dX7_undo_19 ki_0 ?_
      cases hf
      exact z_iret X Z dX7_undo_20
  · have hf := zif_t b1 hf
    refine lv_iconst (v := 1) X.x X.b dX7_undo_8 ki_1 ?_
    refine lv_goto (tgt := 13) X.x X.b dX7_undo_9 (by decide) ?_
    obtain ⟨q2, hq2, hf⟩ := zb_ok hf
    refine z_callV X Z hl (mX7_refuses l Δ ad thr saved mlen spot reads hash ms mpast mtext mread 1 hq2) wd_862 wd_864 wd_18 wd_68 wd_865 ok_X7_refuses 7 rfl 0 rfl (w' := (wX7 Δ ad q2.2 saved mlen spot reads hash ms mpast mtext mread)) su_16 fs_16 pu_16 rfl (rest := []) rfl (Nat.le_of_ble_eq_true rfl) ⟨Nat.le_of_ble_eq_true rfl, Nat.le_of_ble_eq_true rfl⟩ ⟨Nat.zero_le _, Nat.zero_le _⟩ (st1 := [.int q2.1]) rfl dX7_undo_13 (fun H locs Z => ?_)
    refine lv_if_eq (tgt := 21) X.x X.b dX7_undo_16 (by decide) (fun b3 => ?_) (fun b3 => ?_)
    · have hf := zif_t b3 hf
      refine lv_aload_n X.x X.b dX7_undo_21 rfl (lv_at hl 0 rfl) ?_
      refine lv_dup X.x X.b dX7_undo_22 rfl ?_
      refine z_gf inG_X7 (ci := 7) rfl 3 (Nat.le_of_ble_eq_true rfl) rfl X Z wd_825 0 rfl (v := .int saved) rfl dX7_undo_23 ?_
      refine lv_iconst (v := 1) X.x X.b dX7_undo_26 ki_1 ?_
      refine lv_isub X.x X.b dX7_undo_27 ?_
      refine z_pf (w' := (wX7 Δ ad q2.2 (saved - 1) mlen spot reads hash ms mpast mtext mread)) inG_X7 (ci := 7) rfl tyX7 tyX7_ok nmX7 3 (Nat.le_of_ble_eq_true rfl) rfl rfl X Z wd_825 0 rfl rfl rfl (Nat.le_of_ble_eq_true rfl) rfl dX7_undo_28 (fun H locs Z => ?_)
      refine lv_iconst (v := 0) X.x X.b dX7_undo_31 ki_0 ?_
      refine lv_istore_n (lv' := [(1, .int 0), (0, .ref (ad 0))]) X.x X.b dX7_undo_32 rfl hl (Nat.le_of_ble_eq_true rfl) rfl (fun ls hl => ?_)
      exact L33 zfuel q2.2 (saved - 1) ms mpast 0 hf _ _ _ Z (lv_sub hl [1, 0] rfl)
    · have hf := zif_f b3 hf
      refine lv_iconst (v := 0) X.x X.b dX7_undo_19 ki_0 ?_
      cases hf
      exact z_iret X Z dX7_undo_20
set_option maxRecDepth 100000 in
set_option maxHeartbeats 4000000 in
theorem mX7_isPart (l : Launch) (Δ : zE) (ad : Nat → Nat) (thr : Int32) (saved : Int32) (mlen : Int32) (spot : Int32) (reads : Int32) (hash : Int64) (ms : Nat → Int32) (mpast : Nat → Int32) (mtext : Nat → Int32) (mread : Nat → Int32) (x1 : Int32) {res : Int32} (hf : fX7_isPart ms x1 = some res) : zMet l Δ yX7_isPart cX7_isPart 2 (some .boolean) 1 22 [.ref (ad 0), .int x1] (wX7 Δ ad thr saved mlen spot reads hash ms mpast mtext mread) (wX7 Δ ad thr saved mlen spot reads hash ms mpast mtext mread) (some (.int res)) := by
  refine z_start (by decide +kernel) (Nat.le_of_ble_eq_true rfl) ?_
  intro p e s m args below meth c A ls X Z hl
  have hl : lv_has ls 2 [(0, .ref (ad 0)), (1, .int x1)] := hl
  rw [fX7_isPart.eq_1] at hf
  refine lv_iload_n X.x X.b dX7_isPart_0 rfl (lv_at hl 1 rfl) ?_
  refine lv_iconst (v := 0) X.x X.b dX7_isPart_1 ki_0 ?_
  refine lv_aload_n X.x X.b dX7_isPart_2 rfl (lv_at hl 0 rfl) ?_
  refine z_gf inG_X7 (ci := 7) rfl 1 (Nat.le_of_ble_eq_true rfl) rfl X Z wd_823 0 rfl (v := .ref (ad 1)) rfl dX7_isPart_3 ?_
  refine lv_iconst (v := 0) X.x X.b dX7_isPart_6 ki_0 ?_
  refine z_iald X Z 1 rfl (zvin (by decide)) dX7_isPart_7 ?_
  refine lv_iconst (v := 1) X.x X.b dX7_isPart_8 ki_1 ?_
  refine lv_isub X.x X.b dX7_isPart_9 ?_
  obtain ⟨q1, hq1, hf⟩ := zb_ok hf
  refine z_callS X Z hl (mX7_in l Δ  x1 0 ((ms (0 : Int32).toNatClampNeg) - 1) hq1) wd_870 wd_871 wd_68 wd_872 ok_X7_in (w' := (wX7 Δ ad thr saved mlen spot reads hash ms mpast mtext mread)) zSub_nil rfl zput_nil rfl (rest := []) rfl (Nat.le_of_ble_eq_true rfl) ⟨Nat.le_of_ble_eq_true rfl, Nat.le_of_ble_eq_true rfl⟩ ⟨Nat.zero_le _, Nat.zero_le _⟩ (st1 := [.int q1]) rfl dX7_isPart_10 (fun H locs Z => ?_)
  obtain ⟨b1, hf⟩ := zg_bo hf
  cases hf
  exact z_zret X Z b1 dX7_isPart_13
set_option maxRecDepth 100000 in
set_option maxHeartbeats 4000000 in
theorem mX7_isReader (l : Launch) (Δ : zE)  (x0 : Int32) {res : Int32} (hf : fX7_isReader x0 = some res) : zMet l Δ yX7_isReader cX7_isReader 1 (some .boolean) 1 22 [.int x0] [] [] (some (.int res)) := by
  refine z_start (by decide +kernel) (Nat.le_of_ble_eq_true rfl) ?_
  intro p e s m args below meth c A ls X Z hl
  have hl : lv_has ls 1 [(0, .int x0)] := hl
  rw [fX7_isReader.eq_1] at hf
  refine lv_iload_n X.x X.b dX7_isReader_0 rfl (lv_at hl 0 rfl) ?_
  refine lv_iconst (v := 0) X.x X.b dX7_isReader_1 ki_0 ?_
  refine lv_iconst (v := 5) X.x X.b dX7_isReader_2 ki_5 ?_
  obtain ⟨q1, hq1, hf⟩ := zb_ok hf
  refine z_callS X Z hl (mX7_in l Δ  x0 0 5 hq1) wd_870 wd_871 wd_68 wd_872 ok_X7_in (w' := []) zSub_nil rfl zput_nil rfl (rest := []) rfl (Nat.le_of_ble_eq_true rfl) ⟨Nat.le_of_ble_eq_true rfl, Nat.le_of_ble_eq_true rfl⟩ ⟨Nat.zero_le _, Nat.zero_le _⟩ (st1 := [.int q1]) rfl dX7_isReader_3 (fun H locs Z => ?_)
  obtain ⟨b1, hf⟩ := zg_bo hf
  cases hf
  exact z_zret X Z b1 dX7_isReader_6
set_option maxRecDepth 100000 in
set_option maxHeartbeats 4000000 in
theorem mX7_of (l : Launch) (Δ : zE) (ad : Nat → Nat) (thr : Int32) (saved : Int32) (mlen : Int32) (spot : Int32) (reads : Int32) (hash : Int64) (ms : Nat → Int32) (mpast : Nat → Int32) (mtext : Nat → Int32) (mread : Nat → Int32) (x1 : Int32) (x2 : Int32) {res : Int32} (hf : fX7_of ms x1 x2 = some res) : zMet l Δ yX7_of cX7_of 3 (some .int) 0 0 [.ref (ad 0), .int x1, .int x2] (wX7 Δ ad thr saved mlen spot reads hash ms mpast mtext mread) (wX7 Δ ad thr saved mlen spot reads hash ms mpast mtext mread) (some (.int res)) := by
  refine z_start (by decide +kernel) (Nat.le_of_ble_eq_true rfl) ?_
  intro p e s m args below meth c A ls X Z hl
  have hl : lv_has ls 3 [(0, .ref (ad 0)), (1, .int x1), (2, .int x2)] := hl
  rw [fX7_of.eq_1] at hf
  refine lv_aload_n X.x X.b dX7_of_0 rfl (lv_at hl 0 rfl) ?_
  refine z_gf inG_X7 (ci := 7) rfl 1 (Nat.le_of_ble_eq_true rfl) rfl X Z wd_823 0 rfl (v := .ref (ad 1)) rfl dX7_of_1 ?_
  refine lv_iconst (v := 5) X.x X.b dX7_of_4 ki_5 ?_
  refine lv_iconst (v := 3) X.x X.b dX7_of_5 ki_3 ?_
  refine lv_iload_n X.x X.b dX7_of_6 rfl (lv_at hl 1 rfl) ?_
  refine lv_imul X.x X.b dX7_of_7 ?_
  refine lv_iadd X.x X.b dX7_of_8 ?_
  refine lv_iload_n X.x X.b dX7_of_9 rfl (lv_at hl 2 rfl) ?_
  refine lv_iadd X.x X.b dX7_of_10 ?_
  obtain ⟨b1, hf⟩ := zg_in hf
  refine z_iald X Z 1 rfl b1 dX7_of_11 ?_
  cases hf
  exact z_iret X Z dX7_of_12
set_option maxRecDepth 100000 in
set_option maxHeartbeats 4000000 in
theorem mX7_goesOn (l : Launch) (Δ : zE) (ad : Nat → Nat) (thr : Int32) (saved : Int32) (mlen : Int32) (spot : Int32) (reads : Int32) (hash : Int64) (ms : Nat → Int32) (mpast : Nat → Int32) (mtext : Nat → Int32) (mread : Nat → Int32) (x1 : Int32) (x2 : Int32) {res : Int32} (hf : fX7_goesOn ms x1 x2 = some res) : zMet l Δ yX7_goesOn cX7_goesOn 3 (some .boolean) 1 22 [.ref (ad 0), .int x1, .int x2] (wX7 Δ ad thr saved mlen spot reads hash ms mpast mtext mread) (wX7 Δ ad thr saved mlen spot reads hash ms mpast mtext mread) (some (.int res)) := by
  refine z_start (by decide +kernel) (Nat.le_of_ble_eq_true rfl) ?_
  intro p e s m args below meth c A ls X Z hl
  have hl : lv_has ls 3 [(0, .ref (ad 0)), (1, .int x1), (2, .int x2)] := hl
  rw [fX7_goesOn.eq_1] at hf
  refine lv_aload_n X.x X.b dX7_goesOn_0 rfl (lv_at hl 0 rfl) ?_
  refine lv_iload_n X.x X.b dX7_goesOn_1 rfl (lv_at hl 1 rfl) ?_
  refine lv_iconst (v := 0) X.x X.b dX7_goesOn_2 ki_0 ?_
  obtain ⟨q1, hq1, hf⟩ := zb_ok hf
  refine z_callV X Z hl (mX7_of l Δ ad thr saved mlen spot reads hash ms mpast mtext mread x1 0 hq1) wd_896 wd_898 wd_23 wd_68 wd_899 ok_X7_of 7 rfl 0 rfl (w' := (wX7 Δ ad thr saved mlen spot reads hash ms mpast mtext mread)) su_16 fs_16 pu_16 rfl (rest := []) rfl (Nat.le_of_ble_eq_true rfl) ⟨Nat.le_of_ble_eq_true rfl, Nat.le_of_ble_eq_true rfl⟩ ⟨Nat.zero_le _, Nat.zero_le _⟩ (st1 := [.int q1]) rfl dX7_goesOn_3 (fun H locs Z => ?_)
  refine lv_iload_n X.x X.b dX7_goesOn_6 rfl (lv_at hl 2 rfl) ?_
  refine lv_ishr X.x X.b dX7_goesOn_7 ?_
  refine lv_iconst (v := 1) X.x X.b dX7_goesOn_8 ki_1 ?_
  refine lv_iand X.x X.b dX7_goesOn_9 ?_
  refine lv_iconst (v := 1) X.x X.b dX7_goesOn_10 ki_1 ?_
  refine lv_icmp_ne (tgt := 18) X.x X.b dX7_goesOn_11 (by decide) (fun b1 => ?_) (fun b1 => ?_)
  · have hf := zif_f b1 hf
    refine lv_iconst (v := 0) X.x X.b dX7_goesOn_18 ki_0 ?_
    cases hf
    exact z_zret X Z (Or.inl rfl) dX7_goesOn_19
  · have hf := zif_t b1 hf
    refine lv_iconst (v := 1) X.x X.b dX7_goesOn_14 ki_1 ?_
    refine lv_goto (tgt := 19) X.x X.b dX7_goesOn_15 (by decide) ?_
    cases hf
    exact z_zret X Z (Or.inr rfl) dX7_goesOn_19
set_option maxRecDepth 100000 in
set_option maxHeartbeats 4000000 in
theorem mX7_known (l : Launch) (Δ : zE) (ad : Nat → Nat) (thr : Int32) (saved : Int32) (mlen : Int32) (spot : Int32) (reads : Int32) (hash : Int64) (ms : Nat → Int32) (mpast : Nat → Int32) (mtext : Nat → Int32) (mread : Nat → Int32) (x1 : Int32) (x2 : Int32) {res : Int32} (hf : fX7_known ms x1 x2 = some res) : zMet l Δ yX7_known cX7_known 3 (some .int) 0 0 [.ref (ad 0), .int x1, .int x2] (wX7 Δ ad thr saved mlen spot reads hash ms mpast mtext mread) (wX7 Δ ad thr saved mlen spot reads hash ms mpast mtext mread) (some (.int res)) := by
  refine z_start (by decide +kernel) (Nat.le_of_ble_eq_true rfl) ?_
  intro p e s m args below meth c A ls X Z hl
  have hl : lv_has ls 3 [(0, .ref (ad 0)), (1, .int x1), (2, .int x2)] := hl
  rw [fX7_known.eq_1] at hf
  refine lv_aload_n X.x X.b dX7_known_0 rfl (lv_at hl 0 rfl) ?_
  refine z_gf inG_X7 (ci := 7) rfl 1 (Nat.le_of_ble_eq_true rfl) rfl X Z wd_823 0 rfl (v := .ref (ad 1)) rfl dX7_known_1 ?_
  refine lv_bipush (v := 83) X.x X.b dX7_known_4 kb_83 ?_
  refine lv_bipush (v := 20) X.x X.b dX7_known_6 kb_20 ?_
  refine lv_iload_n X.x X.b dX7_known_8 rfl (lv_at hl 1 rfl) ?_
  refine lv_imul X.x X.b dX7_known_9 ?_
  refine lv_iadd X.x X.b dX7_known_10 ?_
  refine lv_iload_n X.x X.b dX7_known_11 rfl (lv_at hl 2 rfl) ?_
  refine lv_iadd X.x X.b dX7_known_12 ?_
  obtain ⟨b1, hf⟩ := zg_in hf
  refine z_iald X Z 1 rfl b1 dX7_known_13 ?_
  cases hf
  exact z_iret X Z dX7_known_14
set_option maxRecDepth 100000 in
set_option maxHeartbeats 4000000 in
theorem mX7_learns (l : Launch) (Δ : zE) (ad : Nat → Nat) (thr : Int32) (saved : Int32) (mlen : Int32) (spot : Int32) (reads : Int32) (hash : Int64) (ms : Nat → Int32) (mpast : Nat → Int32) (mtext : Nat → Int32) (mread : Nat → Int32) (x1 : Int32) (x2 : Int32) (x3 : Int32) {res : (Nat → Int32)} (hf : fX7_learns ms x1 x2 x3 = some res) : zMet l Δ yX7_learns cX7_learns 4 none 0 0 [.ref (ad 0), .int x1, .int x2, .int x3] (wX7 Δ ad thr saved mlen spot reads hash ms mpast mtext mread) (wX7 Δ ad thr saved mlen spot reads hash res mpast mtext mread) none := by
  refine z_start (by decide +kernel) (Nat.le_of_ble_eq_true rfl) ?_
  intro p e s m args below meth c A ls X Z hl
  have hl : lv_has ls 4 [(0, .ref (ad 0)), (1, .int x1), (2, .int x2), (3, .int x3)] := hl
  rw [fX7_learns.eq_1] at hf
  refine lv_aload_n X.x X.b dX7_learns_0 rfl (lv_at hl 0 rfl) ?_
  refine z_gf inG_X7 (ci := 7) rfl 1 (Nat.le_of_ble_eq_true rfl) rfl X Z wd_823 0 rfl (v := .ref (ad 1)) rfl dX7_learns_1 ?_
  refine lv_bipush (v := 83) X.x X.b dX7_learns_4 kb_83 ?_
  refine lv_bipush (v := 20) X.x X.b dX7_learns_6 kb_20 ?_
  refine lv_iload_n X.x X.b dX7_learns_8 rfl (lv_at hl 1 rfl) ?_
  refine lv_imul X.x X.b dX7_learns_9 ?_
  refine lv_iadd X.x X.b dX7_learns_10 ?_
  refine lv_iload_n X.x X.b dX7_learns_11 rfl (lv_at hl 2 rfl) ?_
  refine lv_iadd X.x X.b dX7_learns_12 ?_
  refine lv_iload_n X.x X.b dX7_learns_13 rfl (lv_at hl 3 rfl) ?_
  obtain ⟨b1, hf⟩ := zg_in hf
  refine z_iast (w' := (wX7 Δ ad thr saved mlen spot reads hash (upd ms ((83 + (20 * x1)) + x2).toNatClampNeg x3) mpast mtext mread)) X Z 1 rfl b1 rfl dX7_learns_14 (fun H locs Z => ?_)
  cases hf
  exact z_vret X Z dX7_learns_15
set_option maxRecDepth 100000 in
set_option maxHeartbeats 4000000 in
theorem mX7_grows (l : Launch) (Δ : zE) (ad : Nat → Nat) (thr : Int32) (saved : Int32) (mlen : Int32) (spot : Int32) (reads : Int32) (hash : Int64) (ms : Nat → Int32) (mpast : Nat → Int32) (mtext : Nat → Int32) (mread : Nat → Int32) (x1 : Int32) (x2 : Int32) (x3 : Int32) {res : (Nat → Int32)} (hf : fX7_grows ms x1 x2 x3 = some res) : zMet l Δ yX7_grows cX7_grows 4 none 0 0 [.ref (ad 0), .int x1, .int x2, .int x3] (wX7 Δ ad thr saved mlen spot reads hash ms mpast mtext mread) (wX7 Δ ad thr saved mlen spot reads hash res mpast mtext mread) none := by
  refine z_start (by decide +kernel) (Nat.le_of_ble_eq_true rfl) ?_
  intro p e s m args below meth c A ls X Z hl
  have hl : lv_has ls 4 [(0, .ref (ad 0)), (1, .int x1), (2, .int x2), (3, .int x3)] := hl
  rw [fX7_grows.eq_1] at hf
  refine lv_aload_n X.x X.b dX7_grows_0 rfl (lv_at hl 0 rfl) ?_
  refine z_gf inG_X7 (ci := 7) rfl 1 (Nat.le_of_ble_eq_true rfl) rfl X Z wd_823 0 rfl (v := .ref (ad 1)) rfl dX7_grows_1 ?_
  refine lv_bipush (v := 65) X.x X.b dX7_grows_4 kb_65 ?_
  refine lv_iconst (v := 3) X.x X.b dX7_grows_6 ki_3 ?_
  refine lv_iload_n X.x X.b dX7_grows_7 rfl (lv_at hl 1 rfl) ?_
  refine lv_imul X.x X.b dX7_grows_8 ?_
  refine lv_iadd X.x X.b dX7_grows_9 ?_
  refine lv_iload_n X.x X.b dX7_grows_10 rfl (lv_at hl 2 rfl) ?_
  refine lv_iadd X.x X.b dX7_grows_11 ?_
  refine lv_dup2_11 X.x X.b dX7_grows_12 rfl rfl ?_
  obtain ⟨b1, hf⟩ := zg_in hf
  refine z_iald X Z 1 rfl b1 dX7_grows_13 ?_
  refine lv_iload_n X.x X.b dX7_grows_14 rfl (lv_at hl 3 rfl) ?_
  refine lv_iadd X.x X.b dX7_grows_15 ?_
  obtain ⟨b2, hf⟩ := zg_in hf
  refine z_iast (w' := (wX7 Δ ad thr saved mlen spot reads hash (upd ms ((65 + (3 * x1)) + x2).toNatClampNeg ((ms ((65 + (3 * x1)) + x2).toNatClampNeg) + x3)) mpast mtext mread)) X Z 1 rfl b2 rfl dX7_grows_16 (fun H locs Z => ?_)
  cases hf
  exact z_vret X Z dX7_grows_17
set_option maxRecDepth 100000 in
set_option maxHeartbeats 4000000 in
theorem mX7_ones (l : Launch) (Δ : zE)  (x0 : Int32) {res : Int32} (hf : fX7_ones x0 = some res) : zMet l Δ yX7_ones cX7_ones 3 (some .int) 0 0 [.int x0] [] [] (some (.int res)) := by
  refine z_start (by decide +kernel) (Nat.le_of_ble_eq_true rfl) ?_
  intro p e s m args below meth c A ls X Z hl
  have hl : lv_has ls 3 [(0, .int x0)] := hl
  have L4 : ∀ (k : Nat) (v0 : Int32) (v1 : Int32) (v2 : Int32), fX7_ones_4 k v0 v1 v2 = some res → ∀ (H : Heap) (locs : List Loc) (ls : Array Slot), zW Δ A s.heap [] H locs → lv_has ls 3 [(0, .int v0), (1, .int v1), (2, .int v2)] → W p l e { frames := 0, cells := 0, slots := 0, locals := 0 } s m args below meth c H locs 0 0 (zEnd Δ below args s 0 0 A (some (.int res)) []) (F0 m 4 ls []) := by
    intro k
    induction k with
    | zero =>
      intro v0 v1 v2 hf
      rw [fX7_ones_4.eq_1] at hf
      cases hf
    | succ k ih =>
      intro v0 v1 v2 hf H locs ls Z hl
      rw [fX7_ones_4.eq_2] at hf
      refine lv_iload_n X.x X.b dX7_ones_4 rfl (lv_at hl 2 rfl) ?_
      refine lv_bipush (v := 20) X.x X.b dX7_ones_5 kb_20 ?_
      refine lv_icmp_ge (tgt := 24) X.x X.b dX7_ones_7 (by decide) (fun b1 => ?_) (fun b1 => ?_)
      · have hf := zif_t b1 hf
        refine lv_iload_n X.x X.b dX7_ones_24 rfl (lv_at hl 1 rfl) ?_
        cases hf
        exact z_iret X Z dX7_ones_25
      · have hf := zif_f b1 hf
        refine lv_iload_n X.x X.b dX7_ones_10 rfl (lv_at hl 1 rfl) ?_
        refine lv_iload_n X.x X.b dX7_ones_11 rfl (lv_at hl 0 rfl) ?_
        refine lv_iload_n X.x X.b dX7_ones_12 rfl (lv_at hl 2 rfl) ?_
        refine lv_ishr X.x X.b dX7_ones_13 ?_
        refine lv_iconst (v := 1) X.x X.b dX7_ones_14 ki_1 ?_
        refine lv_iand X.x X.b dX7_ones_15 ?_
        refine lv_iadd X.x X.b dX7_ones_16 ?_
        refine lv_istore_n (lv' := [(1, .int (v1 + ((v0 >>> (v2 &&& 31)) &&& 1))), (0, .int v0), (2, .int v2)]) X.x X.b dX7_ones_17 rfl hl (Nat.le_of_ble_eq_true rfl) rfl (fun ls hl => ?_)
        refine lv_iinc (v := (v2 + 1)) (lv' := [(2, .int (v2 + 1)), (1, .int (v1 + ((v0 >>> (v2 &&& 31)) &&& 1))), (0, .int v0)]) X.x X.b dX7_ones_18 hl (k := 2) rfl (congrArg _ ki_1) (Nat.le_of_ble_eq_true rfl) rfl (fun ls hl => ?_)
        refine lv_goto (tgt := 4) X.x X.b dX7_ones_21 (by decide) ?_
        exact ih v0 (v1 + ((v0 >>> (v2 &&& 31)) &&& 1)) (v2 + 1) hf _ _ _ Z (lv_sub hl [2, 1, 0] rfl)
  rw [fX7_ones.eq_1] at hf
  refine lv_iconst (v := 0) X.x X.b dX7_ones_0 ki_0 ?_
  refine lv_istore_n (lv' := [(1, .int 0), (0, .int x0)]) X.x X.b dX7_ones_1 rfl hl (Nat.le_of_ble_eq_true rfl) rfl (fun ls hl => ?_)
  refine lv_iconst (v := 0) X.x X.b dX7_ones_2 ki_0 ?_
  refine lv_istore_n (lv' := [(2, .int 0), (1, .int 0), (0, .int x0)]) X.x X.b dX7_ones_3 rfl hl (Nat.le_of_ble_eq_true rfl) rfl (fun ls hl => ?_)
  exact L4 zfuel x0 0 0 hf _ _ _ Z (lv_sub hl [2, 1, 0] rfl)
set_option maxRecDepth 100000 in
set_option maxHeartbeats 4000000 in
theorem mX7_needs (l : Launch) (Δ : zE) (ad : Nat → Nat) (thr : Int32) (saved : Int32) (mlen : Int32) (spot : Int32) (reads : Int32) (hash : Int64) (ms : Nat → Int32) (mpast : Nat → Int32) (mtext : Nat → Int32) (mread : Nat → Int32) (x1 : Int32) {res : Int32} (hf : fX7_needs ms x1 = some res) : zMet l Δ yX7_needs cX7_needs 5 (some .int) 1 22 [.ref (ad 0), .int x1] (wX7 Δ ad thr saved mlen spot reads hash ms mpast mtext mread) (wX7 Δ ad thr saved mlen spot reads hash ms mpast mtext mread) (some (.int res)) := by
  refine z_start (by decide +kernel) (Nat.le_of_ble_eq_true rfl) ?_
  intro p e s m args below meth c A ls X Z hl
  have hl : lv_has ls 5 [(0, .ref (ad 0)), (1, .int x1)] := hl
  have L14 : ∀ (k : Nat) (ms : Nat → Int32) (v2 : Int32) (v3 : Int32) (v4 : Int32), fX7_needs_14 k ms v2 v3 v4 = some res → ∀ (H : Heap) (locs : List Loc) (ls : Array Slot), zW Δ A s.heap (wX7 Δ ad thr saved mlen spot reads hash ms mpast mtext mread) H locs → lv_has ls 5 [(0, .ref (ad 0)), (2, .int v2), (3, .int v3), (4, .int v4)] → W p l e { frames := 1, cells := 0, slots := 0, locals := 22 } s m args below meth c H locs 0 0 (zEnd Δ below args s 0 0 A (some (.int res)) (wX7 Δ ad thr saved mlen spot reads hash ms mpast mtext mread)) (F0 m 14 ls []) := by
    intro k
    induction k with
    | zero =>
      intro ms v2 v3 v4 hf
      rw [fX7_needs_14.eq_1] at hf
      cases hf
    | succ k ih =>
      intro ms v2 v3 v4 hf H locs ls Z hl
      rw [fX7_needs_14.eq_2] at hf
      refine lv_iload X.x X.b dX7_needs_14 (lv_at hl 3 rfl) ?_
      refine lv_if_lt (tgt := 60) X.x X.b dX7_needs_16 (by decide) (fun b1 => ?_) (fun b1 => ?_)
      · have hf := zif_t b1 hf
        refine lv_iload_n X.x X.b dX7_needs_60 rfl (lv_at hl 1 rfl) ?_
        cases hf
        exact z_iret X Z dX7_needs_61
      · have hf := zif_f b1 hf
        refine lv_iload_n X.x X.b dX7_needs_19 rfl (lv_at hl 1 rfl) ?_
        refine lv_iload_n X.x X.b dX7_needs_20 rfl (lv_at hl 2 rfl) ?_
        refine lv_aload_n X.x X.b dX7_needs_21 rfl (lv_at hl 0 rfl) ?_
        refine lv_iload X.x X.b dX7_needs_22 (lv_at hl 3 rfl) ?_
        refine lv_iconst (v := 0) X.x X.b dX7_needs_24 ki_0 ?_
        obtain ⟨q1, hq1, hf⟩ := zb_ok hf
        refine z_callV X Z hl (mX7_of l Δ ad thr saved mlen spot reads hash ms mpast mtext mread v4 0 hq1) wd_896 wd_898 wd_23 wd_68 wd_899 ok_X7_of 7 rfl 0 rfl (w' := (wX7 Δ ad thr saved mlen spot reads hash ms mpast mtext mread)) su_16 fs_16 pu_16 rfl (rest := [.int v3, .int v2]) rfl (Nat.le_of_ble_eq_true rfl) ⟨Nat.le_of_ble_eq_true rfl, Nat.le_of_ble_eq_true rfl⟩ ⟨Nat.zero_le _, Nat.zero_le _⟩ (st1 := [.int q1, .int v3, .int v2]) rfl dX7_needs_25 (fun H locs Z => ?_)
        refine lv_iand X.x X.b dX7_needs_28 ?_
        refine lv_if_eq (tgt := 39) X.x X.b dX7_needs_29 (by decide) (fun b2 => ?_) (fun b2 => ?_)
        · have hf := zif_t b2 hf
          refine lv_iconst (v := 0) X.x X.b dX7_needs_39 ki_0 ?_
          refine lv_ior X.x X.b dX7_needs_40 ?_
          refine lv_istore_n (lv' := [(2, .int (v2 ||| 0)), (0, .ref (ad 0)), (3, .int v3), (4, .int v4)]) X.x X.b dX7_needs_41 rfl hl (Nat.le_of_ble_eq_true rfl) rfl (fun ls hl => ?_)
          refine lv_iload_n X.x X.b dX7_needs_42 rfl (lv_at hl 2 rfl) ?_
          refine lv_aload_n X.x X.b dX7_needs_43 rfl (lv_at hl 1 rfl) ?_
          refine lv_iload X.x X.b dX7_needs_44 (lv_at hl 3 rfl) ?_
          refine lv_iconst (v := 0) X.x X.b dX7_needs_46 ki_0 ?_
          obtain ⟨q2, hq2, hf⟩ := zb_ok hf
          refine z_callV X Z hl (mX7_of l Δ ad thr saved mlen spot reads hash ms mpast mtext mread v4 0 hq2) wd_896 wd_898 wd_23 wd_68 wd_899 ok_X7_of 7 rfl 0 rfl (w' := (wX7 Δ ad thr saved mlen spot reads hash ms mpast mtext mread)) su_16 fs_16 pu_16 rfl (rest := [.int v3]) rfl (Nat.le_of_ble_eq_true rfl) ⟨Nat.le_of_ble_eq_true rfl, Nat.le_of_ble_eq_true rfl⟩ ⟨Nat.zero_le _, Nat.zero_le _⟩ (st1 := [.int q2, .int v3]) rfl dX7_needs_47 (fun H locs Z => ?_)
          refine lv_iconst (v := (-1)) X.x X.b dX7_needs_50 ki_m1 ?_
          refine lv_ixor X.x X.b dX7_needs_51 ?_
          refine lv_iand X.x X.b dX7_needs_52 ?_
          refine lv_istore_n (lv' := [(3, .int (v3 &&& (q2 ^^^ (-1)))), (2, .int (v2 ||| 0)), (0, .ref (ad 0)), (4, .int v4)]) X.x X.b dX7_needs_53 rfl hl (Nat.le_of_ble_eq_true rfl) rfl (fun ls hl => ?_)
          refine lv_iinc (v := (v4 + (-1))) (lv' := [(4, .int (v4 + (-1))), (3, .int (v3 &&& (q2 ^^^ (-1)))), (2, .int (v2 ||| 0)), (0, .ref (ad 0))]) X.x X.b dX7_needs_54 hl (k := 3) rfl (congrArg _ ki_m1) (Nat.le_of_ble_eq_true rfl) rfl (fun ls hl => ?_)
          refine lv_goto (tgt := 14) X.x X.b dX7_needs_57 (by decide) ?_
          exact ih ms (v2 ||| 0) (v3 &&& (q2 ^^^ (-1))) (v4 + (-1)) hf _ _ _ Z (lv_sub hl [3, 2, 1, 0] rfl)
        · have hf := zif_f b2 hf
          refine lv_iconst (v := 1) X.x X.b dX7_needs_32 ki_1 ?_
          refine lv_iload X.x X.b dX7_needs_33 (lv_at hl 3 rfl) ?_
          refine lv_ishl X.x X.b dX7_needs_35 ?_
          refine lv_goto (tgt := 40) X.x X.b dX7_needs_36 (by decide) ?_
          refine lv_ior X.x X.b dX7_needs_40 ?_
          refine lv_istore_n (lv' := [(2, .int (v2 ||| ((1 : Int32) <<< (v4 &&& 31)))), (0, .ref (ad 0)), (3, .int v3), (4, .int v4)]) X.x X.b dX7_needs_41 rfl hl (Nat.le_of_ble_eq_true rfl) rfl (fun ls hl => ?_)
          refine lv_iload_n X.x X.b dX7_needs_42 rfl (lv_at hl 2 rfl) ?_
          refine lv_aload_n X.x X.b dX7_needs_43 rfl (lv_at hl 1 rfl) ?_
          refine lv_iload X.x X.b dX7_needs_44 (lv_at hl 3 rfl) ?_
          refine lv_iconst (v := 0) X.x X.b dX7_needs_46 ki_0 ?_
          obtain ⟨q3, hq3, hf⟩ := zb_ok hf
          refine z_callV X Z hl (mX7_of l Δ ad thr saved mlen spot reads hash ms mpast mtext mread v4 0 hq3) wd_896 wd_898 wd_23 wd_68 wd_899 ok_X7_of 7 rfl 0 rfl (w' := (wX7 Δ ad thr saved mlen spot reads hash ms mpast mtext mread)) su_16 fs_16 pu_16 rfl (rest := [.int v3]) rfl (Nat.le_of_ble_eq_true rfl) ⟨Nat.le_of_ble_eq_true rfl, Nat.le_of_ble_eq_true rfl⟩ ⟨Nat.zero_le _, Nat.zero_le _⟩ (st1 := [.int q3, .int v3]) rfl dX7_needs_47 (fun H locs Z => ?_)
          refine lv_iconst (v := (-1)) X.x X.b dX7_needs_50 ki_m1 ?_
          refine lv_ixor X.x X.b dX7_needs_51 ?_
          refine lv_iand X.x X.b dX7_needs_52 ?_
          refine lv_istore_n (lv' := [(3, .int (v3 &&& (q3 ^^^ (-1)))), (2, .int (v2 ||| ((1 : Int32) <<< (v4 &&& 31)))), (0, .ref (ad 0)), (4, .int v4)]) X.x X.b dX7_needs_53 rfl hl (Nat.le_of_ble_eq_true rfl) rfl (fun ls hl => ?_)
          refine lv_iinc (v := (v4 + (-1))) (lv' := [(4, .int (v4 + (-1))), (3, .int (v3 &&& (q3 ^^^ (-1)))), (2, .int (v2 ||| ((1 : Int32) <<< (v4 &&& 31)))), (0, .ref (ad 0))]) X.x X.b dX7_needs_54 hl (k := 3) rfl (congrArg _ ki_m1) (Nat.le_of_ble_eq_true rfl) rfl (fun ls hl => ?_)
          refine lv_goto (tgt := 14) X.x X.b dX7_needs_57 (by decide) ?_
          exact ih ms (v2 ||| ((1 : Int32) <<< (v4 &&& 31))) (v3 &&& (q3 ^^^ (-1))) (v4 + (-1)) hf _ _ _ Z (lv_sub hl [3, 2, 1, 0] rfl)
  rw [fX7_needs.eq_1] at hf
  refine lv_iconst (v := 0) X.x X.b dX7_needs_0 ki_0 ?_
  refine lv_istore_n (lv' := [(2, .int 0), (0, .ref (ad 0)), (1, .int x1)]) X.x X.b dX7_needs_1 rfl hl (Nat.le_of_ble_eq_true rfl) rfl (fun ls hl => ?_)
  refine lv_aload_n X.x X.b dX7_needs_2 rfl (lv_at hl 1 rfl) ?_
  refine lv_iload_n X.x X.b dX7_needs_3 rfl (lv_at hl 2 rfl) ?_
  refine lv_iconst (v := 0) X.x X.b dX7_needs_4 ki_0 ?_
  obtain ⟨q1, hq1, hf⟩ := zb_ok hf
  refine z_callV X Z hl (mX7_of l Δ ad thr saved mlen spot reads hash ms mpast mtext mread x1 0 hq1) wd_896 wd_898 wd_23 wd_68 wd_899 ok_X7_of 7 rfl 0 rfl (w' := (wX7 Δ ad thr saved mlen spot reads hash ms mpast mtext mread)) su_16 fs_16 pu_16 rfl (rest := []) rfl (Nat.le_of_ble_eq_true rfl) ⟨Nat.le_of_ble_eq_true rfl, Nat.le_of_ble_eq_true rfl⟩ ⟨Nat.zero_le _, Nat.zero_le _⟩ (st1 := [.int q1]) rfl dX7_needs_5 (fun H locs Z => ?_)
  refine lv_istore_n (lv' := [(3, .int q1), (2, .int 0), (0, .ref (ad 0)), (1, .int x1)]) X.x X.b dX7_needs_8 rfl hl (Nat.le_of_ble_eq_true rfl) rfl (fun ls hl => ?_)
  refine lv_iload_n X.x X.b dX7_needs_9 rfl (lv_at hl 3 rfl) ?_
  refine lv_iconst (v := 1) X.x X.b dX7_needs_10 ki_1 ?_
  refine lv_isub X.x X.b dX7_needs_11 ?_
  refine lv_istore (lv' := [(4, .int (x1 - 1)), (3, .int q1), (2, .int 0), (0, .ref (ad 0)), (1, .int x1)]) X.x X.b dX7_needs_12 hl (Nat.le_of_ble_eq_true rfl) rfl (fun ls hl => ?_)
  exact L14 zfuel ms 0 q1 (x1 - 1) hf _ _ _ Z (lv_sub hl [3, 2, 1, 0] rfl)
set_option maxRecDepth 100000 in
set_option maxHeartbeats 4000000 in
theorem mX7_needsAmong (l : Launch) (Δ : zE) (ad : Nat → Nat) (thr : Int32) (saved : Int32) (mlen : Int32) (spot : Int32) (reads : Int32) (hash : Int64) (ms : Nat → Int32) (mpast : Nat → Int32) (mtext : Nat → Int32) (mread : Nat → Int32) (x1 : Int32) (x2 : Int32) {res : Int32} (hf : fX7_needsAmong ms x1 x2 = some res) : zMet l Δ yX7_needsAmong cX7_needsAmong 5 (some .int) 2 46 [.ref (ad 0), .int x1, .int x2] (wX7 Δ ad thr saved mlen spot reads hash ms mpast mtext mread) (wX7 Δ ad thr saved mlen spot reads hash ms mpast mtext mread) (some (.int res)) := by
  refine z_start (by decide +kernel) (Nat.le_of_ble_eq_true rfl) ?_
  intro p e s m args below meth c A ls X Z hl
  have hl : lv_has ls 5 [(0, .ref (ad 0)), (1, .int x1), (2, .int x2)] := hl
  have L13 : ∀ (k : Nat) (ms : Nat → Int32) (v2 : Int32) (v3 : Int32) (v4 : Int32), fX7_needsAmong_13 k ms v2 v3 v4 = some res → ∀ (H : Heap) (locs : List Loc) (ls : Array Slot), zW Δ A s.heap (wX7 Δ ad thr saved mlen spot reads hash ms mpast mtext mread) H locs → lv_has ls 5 [(0, .ref (ad 0)), (2, .int v2), (3, .int v3), (4, .int v4)] → W p l e { frames := 2, cells := 0, slots := 0, locals := 46 } s m args below meth c H locs 0 0 (zEnd Δ below args s 0 0 A (some (.int res)) (wX7 Δ ad thr saved mlen spot reads hash ms mpast mtext mread)) (F0 m 13 ls []) := by
    intro k
    induction k with
    | zero =>
      intro ms v2 v3 v4 hf
      rw [fX7_needsAmong_13.eq_1] at hf
      cases hf
    | succ k ih =>
      intro ms v2 v3 v4 hf H locs ls Z hl
      rw [fX7_needsAmong_13.eq_2] at hf
      refine lv_iload X.x X.b dX7_needsAmong_13 (lv_at hl 3 rfl) ?_
      refine lv_if_lt (tgt := 49) X.x X.b dX7_needsAmong_15 (by decide) (fun b1 => ?_) (fun b1 => ?_)
      · have hf := zif_t b1 hf
        refine lv_iload_n X.x X.b dX7_needsAmong_49 rfl (lv_at hl 2 rfl) ?_
        cases hf
        exact z_iret X Z dX7_needsAmong_50
      · have hf := zif_f b1 hf
        refine lv_iload_n X.x X.b dX7_needsAmong_18 rfl (lv_at hl 2 rfl) ?_
        refine lv_iload_n X.x X.b dX7_needsAmong_19 rfl (lv_at hl 2 rfl) ?_
        refine lv_iload X.x X.b dX7_needsAmong_20 (lv_at hl 3 rfl) ?_
        refine lv_ishr X.x X.b dX7_needsAmong_22 ?_
        refine lv_iconst (v := 1) X.x X.b dX7_needsAmong_23 ki_1 ?_
        refine lv_iand X.x X.b dX7_needsAmong_24 ?_
        refine lv_iconst (v := 1) X.x X.b dX7_needsAmong_25 ki_1 ?_
        refine lv_icmp_ne (tgt := 40) X.x X.b dX7_needsAmong_26 (by decide) (fun b2 => ?_) (fun b2 => ?_)
        · have hf := zif_f b2 hf
          refine lv_iconst (v := 0) X.x X.b dX7_needsAmong_40 ki_0 ?_
          refine lv_ior X.x X.b dX7_needsAmong_41 ?_
          refine lv_istore_n (lv' := [(3, .int (v3 ||| 0)), (0, .ref (ad 0)), (2, .int v2), (4, .int v4)]) X.x X.b dX7_needsAmong_42 rfl hl (Nat.le_of_ble_eq_true rfl) rfl (fun ls hl => ?_)
          refine lv_iinc (v := (v4 + (-1))) (lv' := [(4, .int (v4 + (-1))), (3, .int (v3 ||| 0)), (0, .ref (ad 0)), (2, .int v2)]) X.x X.b dX7_needsAmong_43 hl (k := 3) rfl (congrArg _ ki_m1) (Nat.le_of_ble_eq_true rfl) rfl (fun ls hl => ?_)
          refine lv_goto (tgt := 13) X.x X.b dX7_needsAmong_46 (by decide) ?_
          exact ih ms v2 (v3 ||| 0) (v4 + (-1)) hf _ _ _ Z (lv_sub hl [2, 3, 1, 0] rfl)
        · have hf := zif_t b2 hf
          refine lv_aload_n X.x X.b dX7_needsAmong_29 rfl (lv_at hl 0 rfl) ?_
          refine lv_iload X.x X.b dX7_needsAmong_30 (lv_at hl 3 rfl) ?_
          obtain ⟨q1, hq1, hf⟩ := zb_ok hf
          refine z_callV X Z hl (mX7_needs l Δ ad thr saved mlen spot reads hash ms mpast mtext mread v4 hq1) wd_942 wd_944 wd_30 wd_68 wd_945 ok_X7_needs 7 rfl 0 rfl (w' := (wX7 Δ ad thr saved mlen spot reads hash ms mpast mtext mread)) su_16 fs_16 pu_16 rfl (rest := [.int v3]) rfl (Nat.le_of_ble_eq_true rfl) ⟨Nat.le_of_ble_eq_true rfl, Nat.le_of_ble_eq_true rfl⟩ ⟨Nat.zero_le _, Nat.zero_le _⟩ (st1 := [.int q1, .int v3]) rfl dX7_needsAmong_32 (fun H locs Z => ?_)
          refine lv_iload_n X.x X.b dX7_needsAmong_35 rfl (lv_at hl 1 rfl) ?_
          refine lv_iand X.x X.b dX7_needsAmong_36 ?_
          refine lv_goto (tgt := 41) X.x X.b dX7_needsAmong_37 (by decide) ?_
          refine lv_ior X.x X.b dX7_needsAmong_41 ?_
          refine lv_istore_n (lv' := [(3, .int (v3 ||| (q1 &&& v2))), (0, .ref (ad 0)), (2, .int v2), (4, .int v4)]) X.x X.b dX7_needsAmong_42 rfl hl (Nat.le_of_ble_eq_true rfl) rfl (fun ls hl => ?_)
          refine lv_iinc (v := (v4 + (-1))) (lv' := [(4, .int (v4 + (-1))), (3, .int (v3 ||| (q1 &&& v2))), (0, .ref (ad 0)), (2, .int v2)]) X.x X.b dX7_needsAmong_43 hl (k := 3) rfl (congrArg _ ki_m1) (Nat.le_of_ble_eq_true rfl) rfl (fun ls hl => ?_)
          refine lv_goto (tgt := 13) X.x X.b dX7_needsAmong_46 (by decide) ?_
          exact ih ms v2 (v3 ||| (q1 &&& v2)) (v4 + (-1)) hf _ _ _ Z (lv_sub hl [2, 3, 1, 0] rfl)
  rw [fX7_needsAmong.eq_1] at hf
  refine lv_aload_n X.x X.b dX7_needsAmong_0 rfl (lv_at hl 0 rfl) ?_
  refine lv_iload_n X.x X.b dX7_needsAmong_1 rfl (lv_at hl 1 rfl) ?_
  obtain ⟨q1, hq1, hf⟩ := zb_ok hf
  refine z_callV X Z hl (mX7_needs l Δ ad thr saved mlen spot reads hash ms mpast mtext mread x1 hq1) wd_942 wd_944 wd_30 wd_68 wd_945 ok_X7_needs 7 rfl 0 rfl (w' := (wX7 Δ ad thr saved mlen spot reads hash ms mpast mtext mread)) su_16 fs_16 pu_16 rfl (rest := []) rfl (Nat.le_of_ble_eq_true rfl) ⟨Nat.le_of_ble_eq_true rfl, Nat.le_of_ble_eq_true rfl⟩ ⟨Nat.zero_le _, Nat.zero_le _⟩ (st1 := [.int q1]) rfl dX7_needsAmong_2 (fun H locs Z => ?_)
  refine lv_iload_n X.x X.b dX7_needsAmong_5 rfl (lv_at hl 2 rfl) ?_
  refine lv_iand X.x X.b dX7_needsAmong_6 ?_
  refine lv_istore_n (lv' := [(3, .int (q1 &&& x2)), (0, .ref (ad 0)), (1, .int x1), (2, .int x2)]) X.x X.b dX7_needsAmong_7 rfl hl (Nat.le_of_ble_eq_true rfl) rfl (fun ls hl => ?_)
  refine lv_iload_n X.x X.b dX7_needsAmong_8 rfl (lv_at hl 2 rfl) ?_
  refine lv_iconst (v := 1) X.x X.b dX7_needsAmong_9 ki_1 ?_
  refine lv_isub X.x X.b dX7_needsAmong_10 ?_
  refine lv_istore (lv' := [(4, .int (x1 - 1)), (3, .int (q1 &&& x2)), (0, .ref (ad 0)), (1, .int x1), (2, .int x2)]) X.x X.b dX7_needsAmong_11 hl (Nat.le_of_ble_eq_true rfl) rfl (fun ls hl => ?_)
  exact L13 zfuel ms x2 (q1 &&& x2) (x1 - 1) hf _ _ _ Z (lv_sub hl [2, 4, 1, 0] rfl)
set_option maxRecDepth 100000 in
set_option maxHeartbeats 4000000 in
theorem mX7_unknown (l : Launch) (Δ : zE) (ad : Nat → Nat) (thr : Int32) (saved : Int32) (mlen : Int32) (spot : Int32) (reads : Int32) (hash : Int64) (ms : Nat → Int32) (mpast : Nat → Int32) (mtext : Nat → Int32) (mread : Nat → Int32) (x1 : Int32) {res : Int32} (hf : fX7_unknown ms x1 = some res) : zMet l Δ yX7_unknown cX7_unknown 4 (some .int) 1 22 [.ref (ad 0), .int x1] (wX7 Δ ad thr saved mlen spot reads hash ms mpast mtext mread) (wX7 Δ ad thr saved mlen spot reads hash ms mpast mtext mread) (some (.int res)) := by
  refine z_start (by decide +kernel) (Nat.le_of_ble_eq_true rfl) ?_
  intro p e s m args below meth c A ls X Z hl
  have hl : lv_has ls 4 [(0, .ref (ad 0)), (1, .int x1)] := hl
  have L4 : ∀ (k : Nat) (ms : Nat → Int32) (v1 : Int32) (v2 : Int32) (v3 : Int32), fX7_unknown_4 k ms v1 v2 v3 = some res → ∀ (H : Heap) (locs : List Loc) (ls : Array Slot), zW Δ A s.heap (wX7 Δ ad thr saved mlen spot reads hash ms mpast mtext mread) H locs → lv_has ls 4 [(0, .ref (ad 0)), (1, .int v1), (2, .int v2), (3, .int v3)] → W p l e { frames := 1, cells := 0, slots := 0, locals := 22 } s m args below meth c H locs 0 0 (zEnd Δ below args s 0 0 A (some (.int res)) (wX7 Δ ad thr saved mlen spot reads hash ms mpast mtext mread)) (F0 m 4 ls []) := by
    intro k
    induction k with
    | zero =>
      intro ms v1 v2 v3 hf
      rw [fX7_unknown_4.eq_1] at hf
      cases hf
    | succ k ih =>
      intro ms v1 v2 v3 hf H locs ls Z hl
      rw [fX7_unknown_4.eq_2] at hf
      refine lv_iload_n X.x X.b dX7_unknown_4 rfl (lv_at hl 3 rfl) ?_
      refine lv_aload_n X.x X.b dX7_unknown_5 rfl (lv_at hl 0 rfl) ?_
      refine z_gf inG_X7 (ci := 7) rfl 1 (Nat.le_of_ble_eq_true rfl) rfl X Z wd_823 0 rfl (v := .ref (ad 1)) rfl dX7_unknown_6 ?_
      refine lv_iconst (v := 0) X.x X.b dX7_unknown_9 ki_0 ?_
      refine z_iald X Z 1 rfl (zvin (by decide)) dX7_unknown_10 ?_
      refine lv_icmp_ge (tgt := 39) X.x X.b dX7_unknown_11 (by decide) (fun b1 => ?_) (fun b1 => ?_)
      · have hf := zif_t b1 hf
        refine lv_iload_n X.x X.b dX7_unknown_39 rfl (lv_at hl 2 rfl) ?_
        cases hf
        exact z_iret X Z dX7_unknown_40
      · have hf := zif_f b1 hf
        refine lv_iload_n X.x X.b dX7_unknown_14 rfl (lv_at hl 2 rfl) ?_
        refine lv_aload_n X.x X.b dX7_unknown_15 rfl (lv_at hl 0 rfl) ?_
        refine lv_iload_n X.x X.b dX7_unknown_16 rfl (lv_at hl 1 rfl) ?_
        refine lv_iload_n X.x X.b dX7_unknown_17 rfl (lv_at hl 3 rfl) ?_
        obtain ⟨q1, hq1, hf⟩ := zb_ok hf
        refine z_callV X Z hl (mX7_known l Δ ad thr saved mlen spot reads hash ms mpast mtext mread v1 v3 hq1) wd_908 wd_910 wd_25 wd_68 wd_911 ok_X7_known 7 rfl 0 rfl (w' := (wX7 Δ ad thr saved mlen spot reads hash ms mpast mtext mread)) su_16 fs_16 pu_16 rfl (rest := [.int v2]) rfl (Nat.le_of_ble_eq_true rfl) ⟨Nat.le_of_ble_eq_true rfl, Nat.le_of_ble_eq_true rfl⟩ ⟨Nat.zero_le _, Nat.zero_le _⟩ (st1 := [.int q1, .int v2]) rfl dX7_unknown_18 (fun H locs Z => ?_)
        refine lv_if_ne (tgt := 30) X.x X.b dX7_unknown_21 (by decide) (fun b2 => ?_) (fun b2 => ?_)
        · have hf := zif_f b2 hf
          refine lv_iconst (v := 0) X.x X.b dX7_unknown_30 ki_0 ?_
          refine lv_ior X.x X.b dX7_unknown_31 ?_
          refine lv_istore_n (lv' := [(2, .int (v2 ||| 0)), (0, .ref (ad 0)), (1, .int v1), (3, .int v3)]) X.x X.b dX7_unknown_32 rfl hl (Nat.le_of_ble_eq_true rfl) rfl (fun ls hl => ?_)
          refine lv_iinc (v := (v3 + 1)) (lv' := [(3, .int (v3 + 1)), (2, .int (v2 ||| 0)), (0, .ref (ad 0)), (1, .int v1)]) X.x X.b dX7_unknown_33 hl (k := 3) rfl (congrArg _ ki_1) (Nat.le_of_ble_eq_true rfl) rfl (fun ls hl => ?_)
          refine lv_goto (tgt := 4) X.x X.b dX7_unknown_36 (by decide) ?_
          exact ih ms v1 (v2 ||| 0) (v3 + 1) hf _ _ _ Z (lv_sub hl [2, 3, 1, 0] rfl)
        · have hf := zif_t b2 hf
          refine lv_iconst (v := 1) X.x X.b dX7_unknown_24 ki_1 ?_
          refine lv_iload_n X.x X.b dX7_unknown_25 rfl (lv_at hl 3 rfl) ?_
          refine lv_ishl X.x X.b dX7_unknown_26 ?_
          refine lv_goto (tgt := 31) X.x X.b dX7_unknown_27 (by decide) ?_
          refine lv_ior X.x X.b dX7_unknown_31 ?_
          refine lv_istore_n (lv' := [(2, .int (v2 ||| ((1 : Int32) <<< (v3 &&& 31)))), (0, .ref (ad 0)), (1, .int v1), (3, .int v3)]) X.x X.b dX7_unknown_32 rfl hl (Nat.le_of_ble_eq_true rfl) rfl (fun ls hl => ?_)
          refine lv_iinc (v := (v3 + 1)) (lv' := [(3, .int (v3 + 1)), (2, .int (v2 ||| ((1 : Int32) <<< (v3 &&& 31)))), (0, .ref (ad 0)), (1, .int v1)]) X.x X.b dX7_unknown_33 hl (k := 3) rfl (congrArg _ ki_1) (Nat.le_of_ble_eq_true rfl) rfl (fun ls hl => ?_)
          refine lv_goto (tgt := 4) X.x X.b dX7_unknown_36 (by decide) ?_
          exact ih ms v1 (v2 ||| ((1 : Int32) <<< (v3 &&& 31))) (v3 + 1) hf _ _ _ Z (lv_sub hl [2, 3, 1, 0] rfl)
  rw [fX7_unknown.eq_1] at hf
  refine lv_iconst (v := 0) X.x X.b dX7_unknown_0 ki_0 ?_
  refine lv_istore_n (lv' := [(2, .int 0), (0, .ref (ad 0)), (1, .int x1)]) X.x X.b dX7_unknown_1 rfl hl (Nat.le_of_ble_eq_true rfl) rfl (fun ls hl => ?_)
  refine lv_iconst (v := 0) X.x X.b dX7_unknown_2 ki_0 ?_
  refine lv_istore_n (lv' := [(3, .int 0), (2, .int 0), (0, .ref (ad 0)), (1, .int x1)]) X.x X.b dX7_unknown_3 rfl hl (Nat.le_of_ble_eq_true rfl) rfl (fun ls hl => ?_)
  exact L4 zfuel ms x1 0 0 hf _ _ _ Z (lv_sub hl [2, 3, 1, 0] rfl)
set_option maxRecDepth 100000 in
set_option maxHeartbeats 4000000 in
theorem mX7_missed (l : Launch) (Δ : zE) (ad : Nat → Nat) (thr : Int32) (saved : Int32) (mlen : Int32) (spot : Int32) (reads : Int32) (hash : Int64) (ms : Nat → Int32) (mpast : Nat → Int32) (mtext : Nat → Int32) (mread : Nat → Int32) (x1 : Int32) (x2 : Int32) {res : Int32} (hf : fX7_missed ms x1 x2 = some res) : zMet l Δ yX7_missed cX7_missed 3 (some .int) 3 70 [.ref (ad 0), .int x1, .int x2] (wX7 Δ ad thr saved mlen spot reads hash ms mpast mtext mread) (wX7 Δ ad thr saved mlen spot reads hash ms mpast mtext mread) (some (.int res)) := by
  refine z_start (by decide +kernel) (Nat.le_of_ble_eq_true rfl) ?_
  intro p e s m args below meth c A ls X Z hl
  have hl : lv_has ls 3 [(0, .ref (ad 0)), (1, .int x1), (2, .int x2)] := hl
  rw [fX7_missed.eq_1] at hf
  refine lv_aload_n X.x X.b dX7_missed_0 rfl (lv_at hl 0 rfl) ?_
  refine lv_iload_n X.x X.b dX7_missed_1 rfl (lv_at hl 2 rfl) ?_
  refine lv_aload_n X.x X.b dX7_missed_2 rfl (lv_at hl 0 rfl) ?_
  refine lv_iload_n X.x X.b dX7_missed_3 rfl (lv_at hl 1 rfl) ?_
  obtain ⟨q1, hq1, hf⟩ := zb_ok hf
  refine z_callV X Z hl (mX7_unknown l Δ ad thr saved mlen spot reads hash ms mpast mtext mread x1 hq1) wd_934 wd_936 wd_28 wd_68 wd_937 ok_X7_unknown 7 rfl 0 rfl (w' := (wX7 Δ ad thr saved mlen spot reads hash ms mpast mtext mread)) su_16 fs_16 pu_16 rfl (rest := [.int x2, .ref (ad 0)]) rfl (Nat.le_of_ble_eq_true rfl) ⟨Nat.le_of_ble_eq_true rfl, Nat.le_of_ble_eq_true rfl⟩ ⟨Nat.zero_le _, Nat.zero_le _⟩ (st1 := [.int q1, .int x2, .ref (ad 0)]) rfl dX7_missed_4 (fun H locs Z => ?_)
  obtain ⟨q2, hq2, hf⟩ := zb_ok hf
  refine z_callV X Z hl (mX7_needsAmong l Δ ad thr saved mlen spot reads hash ms mpast mtext mread x2 q1 hq2) wd_938 wd_940 wd_29 wd_68 wd_941 ok_X7_needsAmong 7 rfl 0 rfl (w' := (wX7 Δ ad thr saved mlen spot reads hash ms mpast mtext mread)) su_16 fs_16 pu_16 rfl (rest := []) rfl (Nat.le_of_ble_eq_true rfl) ⟨Nat.le_of_ble_eq_true rfl, Nat.le_of_ble_eq_true rfl⟩ ⟨Nat.zero_le _, Nat.zero_le _⟩ (st1 := [.int q2]) rfl dX7_missed_7 (fun H locs Z => ?_)
  cases hf
  exact z_iret X Z dX7_missed_10
set_option maxRecDepth 100000 in
set_option maxHeartbeats 4000000 in
theorem mX7_told (l : Launch) (Δ : zE) (ad : Nat → Nat) (thr : Int32) (saved : Int32) (mlen : Int32) (spot : Int32) (reads : Int32) (hash : Int64) (ms : Nat → Int32) (mpast : Nat → Int32) (mtext : Nat → Int32) (mread : Nat → Int32) (x1 : Int32) {res : Int32} (hf : fX7_told ms x1 = some res) : zMet l Δ yX7_told cX7_told 6 (some .int) 0 0 [.ref (ad 0), .int x1] (wX7 Δ ad thr saved mlen spot reads hash ms mpast mtext mread) (wX7 Δ ad thr saved mlen spot reads hash ms mpast mtext mread) (some (.int res)) := by
  refine z_start (by decide +kernel) (Nat.le_of_ble_eq_true rfl) ?_
  intro p e s m args below meth c A ls X Z hl
  have hl : lv_has ls 6 [(0, .ref (ad 0)), (1, .int x1)] := hl
  have L13 : ∀ (k : Nat) (ms : Nat → Int32) (v1 : Int32) (v2 : Int32) (v3 : Int32) (v4 : Int32), fX7_told_13 k ms v1 v2 v3 v4 = some res → ∀ (H : Heap) (locs : List Loc) (ls : Array Slot), zW Δ A s.heap (wX7 Δ ad thr saved mlen spot reads hash ms mpast mtext mread) H locs → lv_has ls 6 [(1, .int v1), (2, .int v2), (3, .int v3), (4, .int v4)] → W p l e { frames := 0, cells := 0, slots := 0, locals := 0 } s m args below meth c H locs 0 0 (zEnd Δ below args s 0 0 A (some (.int res)) (wX7 Δ ad thr saved mlen spot reads hash ms mpast mtext mread)) (F0 m 13 ls []) := by
    intro k
    induction k with
    | zero =>
      intro ms v1 v2 v3 v4 hf
      rw [fX7_told_13.eq_1] at hf
      cases hf
    | succ k ih =>
      intro ms v1 v2 v3 v4 hf H locs ls Z hl
      rw [fX7_told_13.eq_2] at hf
      refine lv_iload X.x X.b dX7_told_13 (lv_at hl 3 rfl) ?_
      refine lv_if_lt (tgt := 74) X.x X.b dX7_told_15 (by decide) (fun b1 => ?_) (fun b1 => ?_)
      · have hf := zif_t b1 hf
        refine lv_iload_n X.x X.b dX7_told_74 rfl (lv_at hl 1 rfl) ?_
        cases hf
        exact z_iret X Z dX7_told_75
      · have hf := zif_f b1 hf
        refine lv_iload_n X.x X.b dX7_told_18 rfl (lv_at hl 2 rfl) ?_
        refine lv_if_le (tgt := 36) X.x X.b dX7_told_19 (by decide) (fun b2 => ?_) (fun b2 => ?_)
        · have hf := zif_t b2 hf
          refine lv_iconst (v := 0) X.x X.b dX7_told_36 ki_0 ?_
          refine lv_istore (lv' := [(5, .int 0), (1, .int v1), (2, .int v2), (3, .int v3), (4, .int v4)]) X.x X.b dX7_told_37 hl (Nat.le_of_ble_eq_true rfl) rfl (fun ls hl => ?_)
          refine lv_iload_n X.x X.b dX7_told_39 rfl (lv_at hl 2 rfl) ?_
          refine lv_iload X.x X.b dX7_told_40 (lv_at hl 0 rfl) ?_
          refine lv_if_eq (tgt := 52) X.x X.b dX7_told_42 (by decide) (fun _ => ?_) (fun h => absurd h (by decide))
          refine lv_iconst (v := 0) X.x X.b dX7_told_52 ki_0 ?_
          refine lv_ior X.x X.b dX7_told_53 ?_
          refine lv_istore_n (lv' := [(2, .int (v2 ||| 0)), (5, .int 0), (1, .int v1), (3, .int v3), (4, .int v4)]) X.x X.b dX7_told_54 rfl hl (Nat.le_of_ble_eq_true rfl) rfl (fun ls hl => ?_)
          refine lv_iload_n X.x X.b dX7_told_55 rfl (lv_at hl 3 rfl) ?_
          refine lv_iload X.x X.b dX7_told_56 (lv_at hl 1 rfl) ?_
          refine lv_if_eq (tgt := 65) X.x X.b dX7_told_58 (by decide) (fun _ => ?_) (fun h => absurd h (by decide))
          refine lv_iconst (v := 0) X.x X.b dX7_told_65 ki_0 ?_
          refine lv_isub X.x X.b dX7_told_66 ?_
          refine lv_istore_n (lv' := [(3, .int (v3 - 0)), (2, .int (v2 ||| 0)), (5, .int 0), (1, .int v1), (4, .int v4)]) X.x X.b dX7_told_67 rfl hl (Nat.le_of_ble_eq_true rfl) rfl (fun ls hl => ?_)
          refine lv_iinc (v := (v4 + (-1))) (lv' := [(4, .int (v4 + (-1))), (3, .int (v3 - 0)), (2, .int (v2 ||| 0)), (5, .int 0), (1, .int v1)]) X.x X.b dX7_told_68 hl (k := 4) rfl (congrArg _ ki_m1) (Nat.le_of_ble_eq_true rfl) rfl (fun ls hl => ?_)
          refine lv_goto (tgt := 13) X.x X.b dX7_told_71 (by decide) ?_
          exact ih ms v1 (v2 ||| 0) (v3 - 0) (v4 + (-1)) hf _ _ _ Z (lv_sub hl [4, 2, 1, 0] rfl)
        · have hf := zif_f b2 hf
          refine lv_iload_n X.x X.b dX7_told_22 rfl (lv_at hl 0 rfl) ?_
          refine lv_iload X.x X.b dX7_told_23 (lv_at hl 3 rfl) ?_
          refine lv_ishr X.x X.b dX7_told_25 ?_
          refine lv_iconst (v := 1) X.x X.b dX7_told_26 ki_1 ?_
          refine lv_iand X.x X.b dX7_told_27 ?_
          refine lv_iconst (v := 1) X.x X.b dX7_told_28 ki_1 ?_
          refine lv_icmp_ne (tgt := 36) X.x X.b dX7_told_29 (by decide) (fun b3 => ?_) (fun b3 => ?_)
          · have hf := zif_f b3 hf
            refine lv_iconst (v := 0) X.x X.b dX7_told_36 ki_0 ?_
            refine lv_istore (lv' := [(5, .int 0), (1, .int v1), (2, .int v2), (3, .int v3), (4, .int v4)]) X.x X.b dX7_told_37 hl (Nat.le_of_ble_eq_true rfl) rfl (fun ls hl => ?_)
            refine lv_iload_n X.x X.b dX7_told_39 rfl (lv_at hl 2 rfl) ?_
            refine lv_iload X.x X.b dX7_told_40 (lv_at hl 0 rfl) ?_
            refine lv_if_eq (tgt := 52) X.x X.b dX7_told_42 (by decide) (fun _ => ?_) (fun h => absurd h (by decide))
            refine lv_iconst (v := 0) X.x X.b dX7_told_52 ki_0 ?_
            refine lv_ior X.x X.b dX7_told_53 ?_
            refine lv_istore_n (lv' := [(2, .int (v2 ||| 0)), (5, .int 0), (1, .int v1), (3, .int v3), (4, .int v4)]) X.x X.b dX7_told_54 rfl hl (Nat.le_of_ble_eq_true rfl) rfl (fun ls hl => ?_)
            refine lv_iload_n X.x X.b dX7_told_55 rfl (lv_at hl 3 rfl) ?_
            refine lv_iload X.x X.b dX7_told_56 (lv_at hl 1 rfl) ?_
            refine lv_if_eq (tgt := 65) X.x X.b dX7_told_58 (by decide) (fun _ => ?_) (fun h => absurd h (by decide))
            refine lv_iconst (v := 0) X.x X.b dX7_told_65 ki_0 ?_
            refine lv_isub X.x X.b dX7_told_66 ?_
            refine lv_istore_n (lv' := [(3, .int (v3 - 0)), (2, .int (v2 ||| 0)), (5, .int 0), (1, .int v1), (4, .int v4)]) X.x X.b dX7_told_67 rfl hl (Nat.le_of_ble_eq_true rfl) rfl (fun ls hl => ?_)
            refine lv_iinc (v := (v4 + (-1))) (lv' := [(4, .int (v4 + (-1))), (3, .int (v3 - 0)), (2, .int (v2 ||| 0)), (5, .int 0), (1, .int v1)]) X.x X.b dX7_told_68 hl (k := 4) rfl (congrArg _ ki_m1) (Nat.le_of_ble_eq_true rfl) rfl (fun ls hl => ?_)
            refine lv_goto (tgt := 13) X.x X.b dX7_told_71 (by decide) ?_
            exact ih ms v1 (v2 ||| 0) (v3 - 0) (v4 + (-1)) hf _ _ _ Z (lv_sub hl [4, 2, 1, 0] rfl)
          · have hf := zif_t b3 hf
            refine lv_iconst (v := 1) X.x X.b dX7_told_32 ki_1 ?_
            refine lv_goto (tgt := 37) X.x X.b dX7_told_33 (by decide) ?_
            refine lv_istore (lv' := [(5, .int 1), (1, .int v1), (2, .int v2), (3, .int v3), (4, .int v4)]) X.x X.b dX7_told_37 hl (Nat.le_of_ble_eq_true rfl) rfl (fun ls hl => ?_)
            refine lv_iload_n X.x X.b dX7_told_39 rfl (lv_at hl 2 rfl) ?_
            refine lv_iload X.x X.b dX7_told_40 (lv_at hl 0 rfl) ?_
            refine lv_if_eq (tgt := 52) X.x X.b dX7_told_42 (by decide) (fun h => absurd h (by decide)) (fun _ => ?_)
            refine lv_iconst (v := 1) X.x X.b dX7_told_45 ki_1 ?_
            refine lv_iload X.x X.b dX7_told_46 (lv_at hl 4 rfl) ?_
            refine lv_ishl X.x X.b dX7_told_48 ?_
            refine lv_goto (tgt := 53) X.x X.b dX7_told_49 (by decide) ?_
            refine lv_ior X.x X.b dX7_told_53 ?_
            refine lv_istore_n (lv' := [(2, .int (v2 ||| ((1 : Int32) <<< (v4 &&& 31)))), (5, .int 1), (1, .int v1), (3, .int v3), (4, .int v4)]) X.x X.b dX7_told_54 rfl hl (Nat.le_of_ble_eq_true rfl) rfl (fun ls hl => ?_)
            refine lv_iload_n X.x X.b dX7_told_55 rfl (lv_at hl 3 rfl) ?_
            refine lv_iload X.x X.b dX7_told_56 (lv_at hl 1 rfl) ?_
            refine lv_if_eq (tgt := 65) X.x X.b dX7_told_58 (by decide) (fun h => absurd h (by decide)) (fun _ => ?_)
            refine lv_iconst (v := 1) X.x X.b dX7_told_61 ki_1 ?_
            refine lv_goto (tgt := 66) X.x X.b dX7_told_62 (by decide) ?_
            refine lv_isub X.x X.b dX7_told_66 ?_
            refine lv_istore_n (lv' := [(3, .int (v3 - 1)), (2, .int (v2 ||| ((1 : Int32) <<< (v4 &&& 31)))), (5, .int 1), (1, .int v1), (4, .int v4)]) X.x X.b dX7_told_67 rfl hl (Nat.le_of_ble_eq_true rfl) rfl (fun ls hl => ?_)
            refine lv_iinc (v := (v4 + (-1))) (lv' := [(4, .int (v4 + (-1))), (3, .int (v3 - 1)), (2, .int (v2 ||| ((1 : Int32) <<< (v4 &&& 31)))), (5, .int 1), (1, .int v1)]) X.x X.b dX7_told_68 hl (k := 4) rfl (congrArg _ ki_m1) (Nat.le_of_ble_eq_true rfl) rfl (fun ls hl => ?_)
            refine lv_goto (tgt := 13) X.x X.b dX7_told_71 (by decide) ?_
            exact ih ms v1 (v2 ||| ((1 : Int32) <<< (v4 &&& 31))) (v3 - 1) (v4 + (-1)) hf _ _ _ Z (lv_sub hl [4, 2, 1, 0] rfl)
  rw [fX7_told.eq_1] at hf
  refine lv_iconst (v := 0) X.x X.b dX7_told_0 ki_0 ?_
  refine lv_istore_n (lv' := [(2, .int 0), (0, .ref (ad 0)), (1, .int x1)]) X.x X.b dX7_told_1 rfl hl (Nat.le_of_ble_eq_true rfl) rfl (fun ls hl => ?_)
  refine lv_aload_n X.x X.b dX7_told_2 rfl (lv_at hl 1 rfl) ?_
  refine z_gf inG_X7 (ci := 7) rfl 1 (Nat.le_of_ble_eq_true rfl) rfl X Z wd_823 0 rfl (v := .ref (ad 1)) rfl dX7_told_3 ?_
  refine lv_iconst (v := 1) X.x X.b dX7_told_6 ki_1 ?_
  refine z_iald X Z 1 rfl (zvin (by decide)) dX7_told_7 ?_
  refine lv_istore_n (lv' := [(3, .int (ms (1 : Int32).toNatClampNeg)), (2, .int 0), (0, .ref (ad 0)), (1, .int x1)]) X.x X.b dX7_told_8 rfl hl (Nat.le_of_ble_eq_true rfl) rfl (fun ls hl => ?_)
  refine lv_bipush (v := 19) X.x X.b dX7_told_9 kb_19 ?_
  refine lv_istore (lv' := [(4, .int 19), (3, .int (ms (1 : Int32).toNatClampNeg)), (2, .int 0), (0, .ref (ad 0)), (1, .int x1)]) X.x X.b dX7_told_11 hl (Nat.le_of_ble_eq_true rfl) rfl (fun ls hl => ?_)
  exact L13 zfuel ms x1 0 (ms (1 : Int32).toNatClampNeg) 19 hf _ _ _ Z (lv_sub hl [4, 2, 1, 0] rfl)
set_option maxRecDepth 100000 in
set_option maxHeartbeats 4000000 in
theorem mX7_wordsOf (l : Launch) (Δ : zE) (ad : Nat → Nat) (thr : Int32) (saved : Int32) (mlen : Int32) (spot : Int32) (reads : Int32) (hash : Int64) (ms : Nat → Int32) (mpast : Nat → Int32) (mtext : Nat → Int32) (mread : Nat → Int32) (x1 : Int32) {res : Int32} (hf : fX7_wordsOf ms x1 = some res) : zMet l Δ yX7_wordsOf cX7_wordsOf 5 (some .int) 1 22 [.ref (ad 0), .int x1] (wX7 Δ ad thr saved mlen spot reads hash ms mpast mtext mread) (wX7 Δ ad thr saved mlen spot reads hash ms mpast mtext mread) (some (.int res)) := by
  refine z_start (by decide +kernel) (Nat.le_of_ble_eq_true rfl) ?_
  intro p e s m args below meth c A ls X Z hl
  have hl : lv_has ls 5 [(0, .ref (ad 0)), (1, .int x1)] := hl
  have L12 : ∀ (k : Nat) (ms : Nat → Int32) (v1 : Int32) (v2 : Int32) (v3 : Int32) (v4 : Int32), fX7_wordsOf_12 k ms v1 v2 v3 v4 = some res → ∀ (H : Heap) (locs : List Loc) (ls : Array Slot), zW Δ A s.heap (wX7 Δ ad thr saved mlen spot reads hash ms mpast mtext mread) H locs → lv_has ls 5 [(0, .ref (ad 0)), (1, .int v1), (2, .int v2), (3, .int v3), (4, .int v4)] → W p l e { frames := 1, cells := 0, slots := 0, locals := 22 } s m args below meth c H locs 0 0 (zEnd Δ below args s 0 0 A (some (.int res)) (wX7 Δ ad thr saved mlen spot reads hash ms mpast mtext mread)) (F0 m 12 ls []) := by
    intro k
    induction k with
    | zero =>
      intro ms v1 v2 v3 v4 hf
      rw [fX7_wordsOf_12.eq_1] at hf
      cases hf
    | succ k ih =>
      intro ms v1 v2 v3 v4 hf H locs ls Z hl
      rw [fX7_wordsOf_12.eq_2] at hf
      refine lv_iload X.x X.b dX7_wordsOf_12 (lv_at hl 4 rfl) ?_
      refine lv_aload_n X.x X.b dX7_wordsOf_14 rfl (lv_at hl 0 rfl) ?_
      refine z_gf inG_X7 (ci := 7) rfl 1 (Nat.le_of_ble_eq_true rfl) rfl X Z wd_823 0 rfl (v := .ref (ad 1)) rfl dX7_wordsOf_15 ?_
      refine lv_iconst (v := 0) X.x X.b dX7_wordsOf_18 ki_0 ?_
      refine z_iald X Z 1 rfl (zvin (by decide)) dX7_wordsOf_19 ?_
      refine lv_icmp_ge (tgt := 59) X.x X.b dX7_wordsOf_20 (by decide) (fun b1 => ?_) (fun b1 => ?_)
      · have hf := zif_t b1 hf
        refine lv_iload_n X.x X.b dX7_wordsOf_59 rfl (lv_at hl 2 rfl) ?_
        cases hf
        exact z_iret X Z dX7_wordsOf_60
      · have hf := zif_f b1 hf
        refine lv_iload_n X.x X.b dX7_wordsOf_23 rfl (lv_at hl 2 rfl) ?_
        refine lv_iload_n X.x X.b dX7_wordsOf_24 rfl (lv_at hl 1 rfl) ?_
        refine lv_iload X.x X.b dX7_wordsOf_25 (lv_at hl 4 rfl) ?_
        refine lv_ishr X.x X.b dX7_wordsOf_27 ?_
        refine lv_iconst (v := 1) X.x X.b dX7_wordsOf_28 ki_1 ?_
        refine lv_iand X.x X.b dX7_wordsOf_29 ?_
        refine lv_iconst (v := 1) X.x X.b dX7_wordsOf_30 ki_1 ?_
        refine lv_icmp_ne (tgt := 50) X.x X.b dX7_wordsOf_31 (by decide) (fun b2 => ?_) (fun b2 => ?_)
        · have hf := zif_f b2 hf
          refine lv_iconst (v := 0) X.x X.b dX7_wordsOf_50 ki_0 ?_
          refine lv_iadd X.x X.b dX7_wordsOf_51 ?_
          refine lv_istore_n (lv' := [(2, .int (v2 + 0)), (0, .ref (ad 0)), (1, .int v1), (3, .int v3), (4, .int v4)]) X.x X.b dX7_wordsOf_52 rfl hl (Nat.le_of_ble_eq_true rfl) rfl (fun ls hl => ?_)
          refine lv_iinc (v := (v4 + 1)) (lv' := [(4, .int (v4 + 1)), (2, .int (v2 + 0)), (0, .ref (ad 0)), (1, .int v1), (3, .int v3)]) X.x X.b dX7_wordsOf_53 hl (k := 4) rfl (congrArg _ ki_1) (Nat.le_of_ble_eq_true rfl) rfl (fun ls hl => ?_)
          refine lv_goto (tgt := 12) X.x X.b dX7_wordsOf_56 (by decide) ?_
          exact ih ms v1 (v2 + 0) v3 (v4 + 1) hf _ _ _ Z (lv_sub hl [2, 3, 1, 4, 0] rfl)
        · have hf := zif_t b2 hf
          refine lv_aload_n X.x X.b dX7_wordsOf_34 rfl (lv_at hl 0 rfl) ?_
          refine lv_iload X.x X.b dX7_wordsOf_35 (lv_at hl 4 rfl) ?_
          refine lv_iconst (v := 2) X.x X.b dX7_wordsOf_37 ki_2 ?_
          obtain ⟨q1, hq1, hf⟩ := zb_ok hf
          refine z_callV X Z hl (mX7_of l Δ ad thr saved mlen spot reads hash ms mpast mtext mread v4 2 hq1) wd_896 wd_898 wd_23 wd_68 wd_899 ok_X7_of 7 rfl 0 rfl (w' := (wX7 Δ ad thr saved mlen spot reads hash ms mpast mtext mread)) su_16 fs_16 pu_16 rfl (rest := [.int v2]) rfl (Nat.le_of_ble_eq_true rfl) ⟨Nat.le_of_ble_eq_true rfl, Nat.le_of_ble_eq_true rfl⟩ ⟨Nat.zero_le _, Nat.zero_le _⟩ (st1 := [.int q1, .int v2]) rfl dX7_wordsOf_38 (fun H locs Z => ?_)
          refine lv_iload_n X.x X.b dX7_wordsOf_41 rfl (lv_at hl 3 rfl) ?_
          refine lv_iadd X.x X.b dX7_wordsOf_42 ?_
          refine lv_iconst (v := 1) X.x X.b dX7_wordsOf_43 ki_1 ?_
          refine lv_isub X.x X.b dX7_wordsOf_44 ?_
          refine lv_iload_n X.x X.b dX7_wordsOf_45 rfl (lv_at hl 3 rfl) ?_
          obtain ⟨b3, hf⟩ := zg_nz hf
          refine lv_idiv X.x X.b dX7_wordsOf_46 b3 ?_
          refine lv_goto (tgt := 51) X.x X.b dX7_wordsOf_47 (by decide) ?_
          refine lv_iadd X.x X.b dX7_wordsOf_51 ?_
          refine lv_istore_n (lv' := [(2, .int (v2 + (((q1 + v3) - 1) / v3))), (0, .ref (ad 0)), (1, .int v1), (3, .int v3), (4, .int v4)]) X.x X.b dX7_wordsOf_52 rfl hl (Nat.le_of_ble_eq_true rfl) rfl (fun ls hl => ?_)
          refine lv_iinc (v := (v4 + 1)) (lv' := [(4, .int (v4 + 1)), (2, .int (v2 + (((q1 + v3) - 1) / v3))), (0, .ref (ad 0)), (1, .int v1), (3, .int v3)]) X.x X.b dX7_wordsOf_53 hl (k := 4) rfl (congrArg _ ki_1) (Nat.le_of_ble_eq_true rfl) rfl (fun ls hl => ?_)
          refine lv_goto (tgt := 12) X.x X.b dX7_wordsOf_56 (by decide) ?_
          exact ih ms v1 (v2 + (((q1 + v3) - 1) / v3)) v3 (v4 + 1) hf _ _ _ Z (lv_sub hl [2, 3, 1, 4, 0] rfl)
  rw [fX7_wordsOf.eq_1] at hf
  refine lv_iconst (v := 0) X.x X.b dX7_wordsOf_0 ki_0 ?_
  refine lv_istore_n (lv' := [(2, .int 0), (0, .ref (ad 0)), (1, .int x1)]) X.x X.b dX7_wordsOf_1 rfl hl (Nat.le_of_ble_eq_true rfl) rfl (fun ls hl => ?_)
  refine lv_aload_n X.x X.b dX7_wordsOf_2 rfl (lv_at hl 1 rfl) ?_
  refine z_gf inG_X7 (ci := 7) rfl 1 (Nat.le_of_ble_eq_true rfl) rfl X Z wd_823 0 rfl (v := .ref (ad 1)) rfl dX7_wordsOf_3 ?_
  refine lv_iconst (v := 2) X.x X.b dX7_wordsOf_6 ki_2 ?_
  refine z_iald X Z 1 rfl (zvin (by decide)) dX7_wordsOf_7 ?_
  refine lv_istore_n (lv' := [(3, .int (ms (2 : Int32).toNatClampNeg)), (2, .int 0), (0, .ref (ad 0)), (1, .int x1)]) X.x X.b dX7_wordsOf_8 rfl hl (Nat.le_of_ble_eq_true rfl) rfl (fun ls hl => ?_)
  refine lv_iconst (v := 0) X.x X.b dX7_wordsOf_9 ki_0 ?_
  refine lv_istore (lv' := [(4, .int 0), (3, .int (ms (2 : Int32).toNatClampNeg)), (2, .int 0), (0, .ref (ad 0)), (1, .int x1)]) X.x X.b dX7_wordsOf_10 hl (Nat.le_of_ble_eq_true rfl) rfl (fun ls hl => ?_)
  exact L12 zfuel ms x1 0 (ms (2 : Int32).toNatClampNeg) 0 hf _ _ _ Z (lv_sub hl [3, 4, 2, 1, 0] rfl)
set_option maxRecDepth 100000 in
set_option maxHeartbeats 4000000 in
theorem mX7_isCliff (l : Launch) (Δ : zE)  (x0 : Int32) (x1 : Int32) {res : Int32} (hf : fX7_isCliff x0 x1 = some res) : zMet l Δ yX7_isCliff cX7_isCliff 2 (some .boolean) 1 22 [.int x0, .int x1] [] [] (some (.int res)) := by
  refine z_start (by decide +kernel) (Nat.le_of_ble_eq_true rfl) ?_
  intro p e s m args below meth c A ls X Z hl
  have hl : lv_has ls 2 [(0, .int x0), (1, .int x1)] := hl
  rw [fX7_isCliff.eq_1] at hf
  refine lv_iload_n X.x X.b dX7_isCliff_0 rfl (lv_at hl 1 rfl) ?_
  refine lv_iconst (v := (-1)) X.x X.b dX7_isCliff_1 ki_m1 ?_
  refine lv_icmp_eq (tgt := 23) X.x X.b dX7_isCliff_2 (by decide) (fun b1 => ?_) (fun b1 => ?_)
  · have hf := zif_t b1 hf
    refine lv_iconst (v := 1) X.x X.b dX7_isCliff_23 ki_1 ?_
    refine lv_goto (tgt := 28) X.x X.b dX7_isCliff_24 (by decide) ?_
    cases hf
    exact z_zret X Z (Or.inr rfl) dX7_isCliff_28
  · have hf := zif_f b1 hf
    refine lv_iload_n X.x X.b dX7_isCliff_5 rfl (lv_at hl 1 rfl) ?_
    refine lv_iconst (v := 0) X.x X.b dX7_isCliff_6 ki_0 ?_
    refine lv_iconst (v := 5) X.x X.b dX7_isCliff_7 ki_5 ?_
    obtain ⟨q1, hq1, hf⟩ := zb_ok hf
    refine z_callS X Z hl (mX7_in l Δ  x1 0 5 hq1) wd_870 wd_871 wd_68 wd_872 ok_X7_in (w' := []) zSub_nil rfl zput_nil rfl (rest := []) rfl (Nat.le_of_ble_eq_true rfl) ⟨Nat.le_of_ble_eq_true rfl, Nat.le_of_ble_eq_true rfl⟩ ⟨Nat.zero_le _, Nat.zero_le _⟩ (st1 := [.int q1]) rfl dX7_isCliff_8 (fun H locs Z => ?_)
    refine lv_if_eq (tgt := 27) X.x X.b dX7_isCliff_11 (by decide) (fun b2 => ?_) (fun b2 => ?_)
    · have hf := zif_t b2 hf
      refine lv_iconst (v := 0) X.x X.b dX7_isCliff_27 ki_0 ?_
      cases hf
      exact z_zret X Z (Or.inl rfl) dX7_isCliff_28
    · have hf := zif_f b2 hf
      refine lv_iload_n X.x X.b dX7_isCliff_14 rfl (lv_at hl 0 rfl) ?_
      refine lv_iload_n X.x X.b dX7_isCliff_15 rfl (lv_at hl 1 rfl) ?_
      refine lv_ishr X.x X.b dX7_isCliff_16 ?_
      refine lv_iconst (v := 1) X.x X.b dX7_isCliff_17 ki_1 ?_
      refine lv_iand X.x X.b dX7_isCliff_18 ?_
      refine lv_iconst (v := 1) X.x X.b dX7_isCliff_19 ki_1 ?_
      refine lv_icmp_ne (tgt := 27) X.x X.b dX7_isCliff_20 (by decide) (fun b3 => ?_) (fun b3 => ?_)
      · have hf := zif_f b3 hf
        refine lv_iconst (v := 0) X.x X.b dX7_isCliff_27 ki_0 ?_
        cases hf
        exact z_zret X Z (Or.inl rfl) dX7_isCliff_28
      · have hf := zif_t b3 hf
        refine lv_iconst (v := 1) X.x X.b dX7_isCliff_23 ki_1 ?_
        refine lv_goto (tgt := 28) X.x X.b dX7_isCliff_24 (by decide) ?_
        cases hf
        exact z_zret X Z (Or.inr rfl) dX7_isCliff_28
set_option maxRecDepth 100000 in
set_option maxHeartbeats 4000000 in
theorem mX7_adds (l : Launch) (Δ : zE) (ad : Nat → Nat) (thr : Int32) (saved : Int32) (mlen : Int32) (spot : Int32) (reads : Int32) (hash : Int64) (ms : Nat → Int32) (mpast : Nat → Int32) (mtext : Nat → Int32) (mread : Nat → Int32) (x1 : Int32) (x2 : Int32) (x3 : Int32) {res : (Nat → Int32)} (hf : fX7_adds ms x1 x2 x3 = some res) : zMet l Δ yX7_adds cX7_adds 6 none 1 23 [.ref (ad 0), .int x1, .int x2, .int x3] (wX7 Δ ad thr saved mlen spot reads hash ms mpast mtext mread) (wX7 Δ ad thr saved mlen spot reads hash res mpast mtext mread) none := by
  refine z_start (by decide +kernel) (Nat.le_of_ble_eq_true rfl) ?_
  intro p e s m args below meth c A ls X Z hl
  have hl : lv_has ls 6 [(0, .ref (ad 0)), (1, .int x1), (2, .int x2), (3, .int x3)] := hl
  have L53 : ∀ (k : Nat) (ms : Nat → Int32) (v4 : Int32) (v5 : Int32), fX7_adds_53 k ms v4 v5 = some res → ∀ (H : Heap) (locs : List Loc) (ls : Array Slot), zW Δ A s.heap (wX7 Δ ad thr saved mlen spot reads hash ms mpast mtext mread) H locs → lv_has ls 6 [(0, .ref (ad 0)), (4, .int v4), (5, .int v5)] → W p l e { frames := 1, cells := 0, slots := 0, locals := 23 } s m args below meth c H locs 0 0 (zEnd Δ below args s 0 0 A none (wX7 Δ ad thr saved mlen spot reads hash res mpast mtext mread)) (F0 m 53 ls []) := by
    intro k
    induction k with
    | zero =>
      intro ms v4 v5 hf
      rw [fX7_adds_53.eq_1] at hf
      cases hf
    | succ k ih =>
      intro ms v4 v5 hf H locs ls Z hl
      rw [fX7_adds_53.eq_2] at hf
      refine lv_iload X.x X.b dX7_adds_53 (lv_at hl 2 rfl) ?_
      refine lv_bipush (v := 6) X.x X.b dX7_adds_55 kb_6 ?_
      refine lv_icmp_ge (tgt := 75) X.x X.b dX7_adds_57 (by decide) (fun b1 => ?_) (fun b1 => ?_)
      · have hf := zif_t b1 hf
        refine lv_aload_n X.x X.b dX7_adds_75 rfl (lv_at hl 0 rfl) ?_
        refine z_gf inG_X7 (ci := 7) rfl 1 (Nat.le_of_ble_eq_true rfl) rfl X Z wd_823 0 rfl (v := .ref (ad 1)) rfl dX7_adds_76 ?_
        refine lv_iconst (v := 0) X.x X.b dX7_adds_79 ki_0 ?_
        refine lv_dup2_11 X.x X.b dX7_adds_80 rfl rfl ?_
        refine z_iald X Z 1 rfl (zvin (by decide)) dX7_adds_81 ?_
        refine lv_iconst (v := 1) X.x X.b dX7_adds_82 ki_1 ?_
        refine lv_iadd X.x X.b dX7_adds_83 ?_
        refine z_iast (w' := (wX7 Δ ad thr saved mlen spot reads hash (upd ms (0 : Int32).toNatClampNeg ((ms (0 : Int32).toNatClampNeg) + 1)) mpast mtext mread)) X Z 1 rfl (zvin (by decide)) rfl dX7_adds_84 (fun H locs Z => ?_)
        cases hf
        exact z_vret X Z dX7_adds_85
      · have hf := zif_f b1 hf
        refine lv_aload_n X.x X.b dX7_adds_60 rfl (lv_at hl 0 rfl) ?_
        refine lv_iload X.x X.b dX7_adds_61 (lv_at hl 2 rfl) ?_
        refine lv_iload X.x X.b dX7_adds_63 (lv_at hl 1 rfl) ?_
        refine lv_iconst (v := 0) X.x X.b dX7_adds_65 ki_0 ?_
        obtain ⟨q1, hq1, hf⟩ := zb_ok hf
        refine z_callV X Z hl (mX7_learns l Δ ad thr saved mlen spot reads hash ms mpast mtext mread v5 v4 0 hq1) wd_884 wd_886 wd_21 wd_68 wd_887 ok_X7_learns 7 rfl 0 rfl (w' := (wX7 Δ ad thr saved mlen spot reads hash q1 mpast mtext mread)) su_16 fs_16 pu_16 rfl (rest := []) rfl (Nat.le_of_ble_eq_true rfl) ⟨Nat.le_of_ble_eq_true rfl, Nat.le_of_ble_eq_true rfl⟩ ⟨Nat.zero_le _, Nat.zero_le _⟩ (st1 := []) rfl dX7_adds_66 (fun H locs Z => ?_)
        refine lv_iinc (v := (v5 + 1)) (lv' := [(5, .int (v5 + 1)), (0, .ref (ad 0)), (4, .int v4)]) X.x X.b dX7_adds_69 hl (k := 2) rfl (congrArg _ ki_1) (Nat.le_of_ble_eq_true rfl) rfl (fun ls hl => ?_)
        refine lv_goto (tgt := 53) X.x X.b dX7_adds_72 (by decide) ?_
        exact ih q1 v4 (v5 + 1) hf _ _ _ Z (lv_sub hl [1, 2, 0] rfl)
  rw [fX7_adds.eq_1] at hf
  refine lv_aload_n X.x X.b dX7_adds_0 rfl (lv_at hl 0 rfl) ?_
  refine z_gf inG_X7 (ci := 7) rfl 1 (Nat.le_of_ble_eq_true rfl) rfl X Z wd_823 0 rfl (v := .ref (ad 1)) rfl dX7_adds_1 ?_
  refine lv_iconst (v := 0) X.x X.b dX7_adds_4 ki_0 ?_
  refine z_iald X Z 1 rfl (zvin (by decide)) dX7_adds_5 ?_
  refine lv_istore (lv' := [(4, .int (ms (0 : Int32).toNatClampNeg)), (0, .ref (ad 0)), (1, .int x1), (2, .int x2), (3, .int x3)]) X.x X.b dX7_adds_6 hl (Nat.le_of_ble_eq_true rfl) rfl (fun ls hl => ?_)
  refine lv_aload_n X.x X.b dX7_adds_8 rfl (lv_at hl 1 rfl) ?_
  refine z_gf inG_X7 (ci := 7) rfl 1 (Nat.le_of_ble_eq_true rfl) rfl X Z wd_823 0 rfl (v := .ref (ad 1)) rfl dX7_adds_9 ?_
  refine lv_iconst (v := 5) X.x X.b dX7_adds_12 ki_5 ?_
  refine lv_iconst (v := 3) X.x X.b dX7_adds_13 ki_3 ?_
  refine lv_iload X.x X.b dX7_adds_14 (lv_at hl 0 rfl) ?_
  refine lv_imul X.x X.b dX7_adds_16 ?_
  refine lv_iadd X.x X.b dX7_adds_17 ?_
  refine lv_iconst (v := 0) X.x X.b dX7_adds_18 ki_0 ?_
  refine lv_iadd X.x X.b dX7_adds_19 ?_
  refine lv_iload_n X.x X.b dX7_adds_20 rfl (lv_at hl 2 rfl) ?_
  obtain ⟨b1, hf⟩ := zg_in hf
  refine z_iast (w' := (wX7 Δ ad thr saved mlen spot reads hash (upd ms ((5 + (3 * (ms (0 : Int32).toNatClampNeg))) + 0).toNatClampNeg x1) mpast mtext mread)) X Z 1 rfl b1 rfl dX7_adds_21 (fun H locs Z => ?_)
  refine lv_aload_n X.x X.b dX7_adds_22 rfl (lv_at hl 1 rfl) ?_
  refine z_gf inG_X7 (ci := 7) rfl 1 (Nat.le_of_ble_eq_true rfl) rfl X Z wd_823 0 rfl (v := .ref (ad 1)) rfl dX7_adds_23 ?_
  refine lv_iconst (v := 5) X.x X.b dX7_adds_26 ki_5 ?_
  refine lv_iconst (v := 3) X.x X.b dX7_adds_27 ki_3 ?_
  refine lv_iload X.x X.b dX7_adds_28 (lv_at hl 0 rfl) ?_
  refine lv_imul X.x X.b dX7_adds_30 ?_
  refine lv_iadd X.x X.b dX7_adds_31 ?_
  refine lv_iconst (v := 1) X.x X.b dX7_adds_32 ki_1 ?_
  refine lv_iadd X.x X.b dX7_adds_33 ?_
  refine lv_iload_n X.x X.b dX7_adds_34 rfl (lv_at hl 3 rfl) ?_
  obtain ⟨b2, hf⟩ := zg_in hf
  refine z_iast (w' := (wX7 Δ ad thr saved mlen spot reads hash (upd (upd ms ((5 + (3 * (ms (0 : Int32).toNatClampNeg))) + 0).toNatClampNeg x1) ((5 + (3 * (ms (0 : Int32).toNatClampNeg))) + 1).toNatClampNeg x2) mpast mtext mread)) X Z 1 rfl b2 rfl dX7_adds_35 (fun H locs Z => ?_)
  refine lv_aload_n X.x X.b dX7_adds_36 rfl (lv_at hl 1 rfl) ?_
  refine z_gf inG_X7 (ci := 7) rfl 1 (Nat.le_of_ble_eq_true rfl) rfl X Z wd_823 0 rfl (v := .ref (ad 1)) rfl dX7_adds_37 ?_
  refine lv_iconst (v := 5) X.x X.b dX7_adds_40 ki_5 ?_
  refine lv_iconst (v := 3) X.x X.b dX7_adds_41 ki_3 ?_
  refine lv_iload X.x X.b dX7_adds_42 (lv_at hl 0 rfl) ?_
  refine lv_imul X.x X.b dX7_adds_44 ?_
  refine lv_iadd X.x X.b dX7_adds_45 ?_
  refine lv_iconst (v := 2) X.x X.b dX7_adds_46 ki_2 ?_
  refine lv_iadd X.x X.b dX7_adds_47 ?_
  refine lv_iload_n X.x X.b dX7_adds_48 rfl (lv_at hl 4 rfl) ?_
  obtain ⟨b3, hf⟩ := zg_in hf
  refine z_iast (w' := (wX7 Δ ad thr saved mlen spot reads hash (upd (upd (upd ms ((5 + (3 * (ms (0 : Int32).toNatClampNeg))) + 0).toNatClampNeg x1) ((5 + (3 * (ms (0 : Int32).toNatClampNeg))) + 1).toNatClampNeg x2) ((5 + (3 * (ms (0 : Int32).toNatClampNeg))) + 2).toNatClampNeg x3) mpast mtext mread)) X Z 1 rfl b3 rfl dX7_adds_49 (fun H locs Z => ?_)
  refine lv_iconst (v := 0) X.x X.b dX7_adds_50 ki_0 ?_
  refine lv_istore (lv' := [(5, .int 0), (4, .int (ms (0 : Int32).toNatClampNeg)), (0, .ref (ad 0)), (1, .int x1), (2, .int x2), (3, .int x3)]) X.x X.b dX7_adds_51 hl (Nat.le_of_ble_eq_true rfl) rfl (fun ls hl => ?_)
  exact L53 zfuel (upd (upd (upd ms ((5 + (3 * (ms (0 : Int32).toNatClampNeg))) + 0).toNatClampNeg x1) ((5 + (3 * (ms (0 : Int32).toNatClampNeg))) + 1).toNatClampNeg x2) ((5 + (3 * (ms (0 : Int32).toNatClampNeg))) + 2).toNatClampNeg x3) (ms (0 : Int32).toNatClampNeg) 0 hf _ _ _ Z (lv_sub hl [2, 1, 0] rfl)
set_option maxRecDepth 100000 in
set_option maxHeartbeats 4000000 in
theorem mX7_add (l : Launch) (Δ : zE) (ad : Nat → Nat) (thr : Int32) (saved : Int32) (mlen : Int32) (spot : Int32) (reads : Int32) (hash : Int64) (ms : Nat → Int32) (mpast : Nat → Int32) (mtext : Nat → Int32) (mread : Nat → Int32) (x1 : Int32) (x2 : Int32) (x3 : Int32) {res : Int32 × Int32 × Int32 × (Nat → Int32) × (Nat → Int32)} (hf : fX7_add thr saved ms mpast x1 x2 x3 = some res) : zMet l Δ yX7_add cX7_add 5 (some .int) 2 48 [.ref (ad 0), .int x1, .int x2, .int x3] (wX7 Δ ad thr saved mlen spot reads hash ms mpast mtext mread) (wX7 Δ ad res.2.1 res.2.2.1 mlen spot reads hash res.2.2.2.1 res.2.2.2.2 mtext mread) (some (.int res.1)) := by
  refine z_start (by decide +kernel) (Nat.le_of_ble_eq_true rfl) ?_
  intro p e s m args below meth c A ls X Z hl
  have hl : lv_has ls 5 [(0, .ref (ad 0)), (1, .int x1), (2, .int x2), (3, .int x3)] := hl
  rw [fX7_add.eq_1] at hf
  refine lv_iload_n X.x X.b dX7_add_0 rfl (lv_at hl 1 rfl) ?_
  refine lv_iconst (v := 1) X.x X.b dX7_add_1 ki_1 ?_
  refine lv_bipush (v := 63) X.x X.b dX7_add_2 kb_63 ?_
  obtain ⟨q1, hq1, hf⟩ := zb_ok hf
  refine z_callS X Z hl (mX7_in l Δ  x1 1 63 hq1) wd_870 wd_871 wd_68 wd_872 ok_X7_in (w' := (wX7 Δ ad thr saved mlen spot reads hash ms mpast mtext mread)) zSub_nil rfl zput_nil rfl (rest := []) rfl (Nat.le_of_ble_eq_true rfl) ⟨Nat.le_of_ble_eq_true rfl, Nat.le_of_ble_eq_true rfl⟩ ⟨Nat.zero_le _, Nat.zero_le _⟩ (st1 := [.int q1]) rfl dX7_add_4 (fun H locs Z => ?_)
  refine lv_if_eq (tgt := 32) X.x X.b dX7_add_7 (by decide) (fun b1 => ?_) (fun b1 => ?_)
  · have hf := zif_t b1 hf
    refine lv_iconst (v := 0) X.x X.b dX7_add_32 ki_0 ?_
    refine lv_istore (lv' := [(4, .int 0), (0, .ref (ad 0)), (1, .int x1), (2, .int x2), (3, .int x3)]) X.x X.b dX7_add_33 hl (Nat.le_of_ble_eq_true rfl) rfl (fun ls hl => ?_)
    refine lv_aload_n X.x X.b dX7_add_35 rfl (lv_at hl 1 rfl) ?_
    refine lv_iload X.x X.b dX7_add_36 (lv_at hl 0 rfl) ?_
    refine lv_if_ne (tgt := 45) X.x X.b dX7_add_38 (by decide) (fun h => absurd h (by decide)) (fun _ => ?_)
    refine lv_iconst (v := 1) X.x X.b dX7_add_41 ki_1 ?_
    refine lv_goto (tgt := 61) X.x X.b dX7_add_42 (by decide) ?_
    obtain ⟨q2, hq2, hf⟩ := zb_ok hf
    refine z_callV X Z hl (mX7_refuses l Δ ad thr saved mlen spot reads hash ms mpast mtext mread 1 hq2) wd_862 wd_864 wd_18 wd_68 wd_865 ok_X7_refuses 7 rfl 0 rfl (w' := (wX7 Δ ad q2.2 saved mlen spot reads hash ms mpast mtext mread)) su_16 fs_16 pu_16 rfl (rest := []) rfl (Nat.le_of_ble_eq_true rfl) ⟨Nat.le_of_ble_eq_true rfl, Nat.le_of_ble_eq_true rfl⟩ ⟨Nat.zero_le _, Nat.zero_le _⟩ (st1 := [.int q2.1]) rfl dX7_add_61 (fun H locs Z => ?_)
    refine lv_if_eq (tgt := 69) X.x X.b dX7_add_64 (by decide) (fun b2 => ?_) (fun b2 => ?_)
    · have hf := zif_t b2 hf
      refine lv_aload_n X.x X.b dX7_add_69 rfl (lv_at hl 1 rfl) ?_
      obtain ⟨q3, hq3, hf⟩ := zb_ok hf
      refine z_callV X Z hl (mX7_saves l Δ ad q2.2 saved mlen spot reads hash ms mpast mtext mread hq3) wd_876 wd_878 wd_19 wd_68 wd_879 ok_X7_saves 7 rfl 0 rfl (w' := (wX7 Δ ad q2.2 q3.1 mlen spot reads hash ms q3.2 mtext mread)) su_16 fs_16 pu_16 rfl (rest := []) rfl (Nat.le_of_ble_eq_true rfl) ⟨Nat.le_of_ble_eq_true rfl, Nat.le_of_ble_eq_true rfl⟩ ⟨Nat.zero_le _, Nat.zero_le _⟩ (st1 := []) rfl dX7_add_70 (fun H locs Z => ?_)
      refine lv_aload_n X.x X.b dX7_add_73 rfl (lv_at hl 1 rfl) ?_
      refine lv_iload_n X.x X.b dX7_add_74 rfl (lv_at hl 2 rfl) ?_
      refine lv_iload_n X.x X.b dX7_add_75 rfl (lv_at hl 3 rfl) ?_
      refine lv_iload_n X.x X.b dX7_add_76 rfl (lv_at hl 4 rfl) ?_
      obtain ⟨q4, hq4, hf⟩ := zb_ok hf
      refine z_callV X Z hl (mX7_adds l Δ ad q2.2 q3.1 mlen spot reads hash ms q3.2 mtext mread x1 x2 x3 hq4) wd_880 wd_882 wd_20 wd_68 wd_883 ok_X7_adds 7 rfl 0 rfl (w' := (wX7 Δ ad q2.2 q3.1 mlen spot reads hash q4 q3.2 mtext mread)) su_16 fs_16 pu_16 rfl (rest := []) rfl (Nat.le_of_ble_eq_true rfl) ⟨Nat.le_of_ble_eq_true rfl, Nat.le_of_ble_eq_true rfl⟩ ⟨Nat.zero_le _, Nat.zero_le _⟩ (st1 := []) rfl dX7_add_77 (fun H locs Z => ?_)
      refine lv_aload_n X.x X.b dX7_add_80 rfl (lv_at hl 1 rfl) ?_
      refine z_gf inG_X7 (ci := 7) rfl 1 (Nat.le_of_ble_eq_true rfl) rfl X Z wd_823 0 rfl (v := .ref (ad 1)) rfl dX7_add_81 ?_
      refine lv_iconst (v := 0) X.x X.b dX7_add_84 ki_0 ?_
      refine z_iald X Z 1 rfl (zvin (by decide)) dX7_add_85 ?_
      refine lv_iconst (v := 1) X.x X.b dX7_add_86 ki_1 ?_
      refine lv_isub X.x X.b dX7_add_87 ?_
      cases hf
      exact z_iret X Z dX7_add_88
    · have hf := zif_f b2 hf
      refine lv_iconst (v := 0) X.x X.b dX7_add_67 ki_0 ?_
      cases hf
      exact z_iret X Z dX7_add_68
  · have hf := zif_f b1 hf
    refine lv_iload_n X.x X.b dX7_add_10 rfl (lv_at hl 3 rfl) ?_
    refine lv_iconst (v := 1) X.x X.b dX7_add_11 ki_1 ?_
    refine lv_bipush (v := 99) X.x X.b dX7_add_12 kb_99 ?_
    obtain ⟨q5, hq5, hf⟩ := zb_ok hf
    refine z_callS X Z hl (mX7_in l Δ  x3 1 99 hq5) wd_870 wd_871 wd_68 wd_872 ok_X7_in (w' := (wX7 Δ ad thr saved mlen spot reads hash ms mpast mtext mread)) zSub_nil rfl zput_nil rfl (rest := []) rfl (Nat.le_of_ble_eq_true rfl) ⟨Nat.le_of_ble_eq_true rfl, Nat.le_of_ble_eq_true rfl⟩ ⟨Nat.zero_le _, Nat.zero_le _⟩ (st1 := [.int q5]) rfl dX7_add_14 (fun H locs Z => ?_)
    refine lv_if_eq (tgt := 32) X.x X.b dX7_add_17 (by decide) (fun b3 => ?_) (fun b3 => ?_)
    · have hf := zif_t b3 hf
      refine lv_iconst (v := 0) X.x X.b dX7_add_32 ki_0 ?_
      refine lv_istore (lv' := [(4, .int 0), (0, .ref (ad 0)), (1, .int x1), (2, .int x2), (3, .int x3)]) X.x X.b dX7_add_33 hl (Nat.le_of_ble_eq_true rfl) rfl (fun ls hl => ?_)
      refine lv_aload_n X.x X.b dX7_add_35 rfl (lv_at hl 1 rfl) ?_
      refine lv_iload X.x X.b dX7_add_36 (lv_at hl 0 rfl) ?_
      refine lv_if_ne (tgt := 45) X.x X.b dX7_add_38 (by decide) (fun h => absurd h (by decide)) (fun _ => ?_)
      refine lv_iconst (v := 1) X.x X.b dX7_add_41 ki_1 ?_
      refine lv_goto (tgt := 61) X.x X.b dX7_add_42 (by decide) ?_
      obtain ⟨q6, hq6, hf⟩ := zb_ok hf
      refine z_callV X Z hl (mX7_refuses l Δ ad thr saved mlen spot reads hash ms mpast mtext mread 1 hq6) wd_862 wd_864 wd_18 wd_68 wd_865 ok_X7_refuses 7 rfl 0 rfl (w' := (wX7 Δ ad q6.2 saved mlen spot reads hash ms mpast mtext mread)) su_16 fs_16 pu_16 rfl (rest := []) rfl (Nat.le_of_ble_eq_true rfl) ⟨Nat.le_of_ble_eq_true rfl, Nat.le_of_ble_eq_true rfl⟩ ⟨Nat.zero_le _, Nat.zero_le _⟩ (st1 := [.int q6.1]) rfl dX7_add_61 (fun H locs Z => ?_)
      refine lv_if_eq (tgt := 69) X.x X.b dX7_add_64 (by decide) (fun b4 => ?_) (fun b4 => ?_)
      · have hf := zif_t b4 hf
        refine lv_aload_n X.x X.b dX7_add_69 rfl (lv_at hl 1 rfl) ?_
        obtain ⟨q7, hq7, hf⟩ := zb_ok hf
        refine z_callV X Z hl (mX7_saves l Δ ad q6.2 saved mlen spot reads hash ms mpast mtext mread hq7) wd_876 wd_878 wd_19 wd_68 wd_879 ok_X7_saves 7 rfl 0 rfl (w' := (wX7 Δ ad q6.2 q7.1 mlen spot reads hash ms q7.2 mtext mread)) su_16 fs_16 pu_16 rfl (rest := []) rfl (Nat.le_of_ble_eq_true rfl) ⟨Nat.le_of_ble_eq_true rfl, Nat.le_of_ble_eq_true rfl⟩ ⟨Nat.zero_le _, Nat.zero_le _⟩ (st1 := []) rfl dX7_add_70 (fun H locs Z => ?_)
        refine lv_aload_n X.x X.b dX7_add_73 rfl (lv_at hl 1 rfl) ?_
        refine lv_iload_n X.x X.b dX7_add_74 rfl (lv_at hl 2 rfl) ?_
        refine lv_iload_n X.x X.b dX7_add_75 rfl (lv_at hl 3 rfl) ?_
        refine lv_iload_n X.x X.b dX7_add_76 rfl (lv_at hl 4 rfl) ?_
        obtain ⟨q8, hq8, hf⟩ := zb_ok hf
        refine z_callV X Z hl (mX7_adds l Δ ad q6.2 q7.1 mlen spot reads hash ms q7.2 mtext mread x1 x2 x3 hq8) wd_880 wd_882 wd_20 wd_68 wd_883 ok_X7_adds 7 rfl 0 rfl (w' := (wX7 Δ ad q6.2 q7.1 mlen spot reads hash q8 q7.2 mtext mread)) su_16 fs_16 pu_16 rfl (rest := []) rfl (Nat.le_of_ble_eq_true rfl) ⟨Nat.le_of_ble_eq_true rfl, Nat.le_of_ble_eq_true rfl⟩ ⟨Nat.zero_le _, Nat.zero_le _⟩ (st1 := []) rfl dX7_add_77 (fun H locs Z => ?_)
        refine lv_aload_n X.x X.b dX7_add_80 rfl (lv_at hl 1 rfl) ?_
        refine z_gf inG_X7 (ci := 7) rfl 1 (Nat.le_of_ble_eq_true rfl) rfl X Z wd_823 0 rfl (v := .ref (ad 1)) rfl dX7_add_81 ?_
        refine lv_iconst (v := 0) X.x X.b dX7_add_84 ki_0 ?_
        refine z_iald X Z 1 rfl (zvin (by decide)) dX7_add_85 ?_
        refine lv_iconst (v := 1) X.x X.b dX7_add_86 ki_1 ?_
        refine lv_isub X.x X.b dX7_add_87 ?_
        cases hf
        exact z_iret X Z dX7_add_88
      · have hf := zif_f b4 hf
        refine lv_iconst (v := 0) X.x X.b dX7_add_67 ki_0 ?_
        cases hf
        exact z_iret X Z dX7_add_68
    · have hf := zif_f b3 hf
      refine lv_iload_n X.x X.b dX7_add_20 rfl (lv_at hl 1 rfl) ?_
      refine lv_iload_n X.x X.b dX7_add_21 rfl (lv_at hl 2 rfl) ?_
      obtain ⟨q9, hq9, hf⟩ := zb_ok hf
      refine z_callS X Z hl (mX7_isCliff l Δ  x1 x2 hq9) wd_873 wd_874 wd_68 wd_875 ok_X7_isCliff (w' := (wX7 Δ ad thr saved mlen spot reads hash ms mpast mtext mread)) zSub_nil rfl zput_nil rfl (rest := []) rfl (Nat.le_of_ble_eq_true rfl) ⟨Nat.le_of_ble_eq_true rfl, Nat.le_of_ble_eq_true rfl⟩ ⟨Nat.zero_le _, Nat.zero_le _⟩ (st1 := [.int q9]) rfl dX7_add_22 (fun H locs Z => ?_)
      refine lv_if_eq (tgt := 32) X.x X.b dX7_add_25 (by decide) (fun b5 => ?_) (fun b5 => ?_)
      · have hf := zif_t b5 hf
        refine lv_iconst (v := 0) X.x X.b dX7_add_32 ki_0 ?_
        refine lv_istore (lv' := [(4, .int 0), (0, .ref (ad 0)), (1, .int x1), (2, .int x2), (3, .int x3)]) X.x X.b dX7_add_33 hl (Nat.le_of_ble_eq_true rfl) rfl (fun ls hl => ?_)
        refine lv_aload_n X.x X.b dX7_add_35 rfl (lv_at hl 1 rfl) ?_
        refine lv_iload X.x X.b dX7_add_36 (lv_at hl 0 rfl) ?_
        refine lv_if_ne (tgt := 45) X.x X.b dX7_add_38 (by decide) (fun h => absurd h (by decide)) (fun _ => ?_)
        refine lv_iconst (v := 1) X.x X.b dX7_add_41 ki_1 ?_
        refine lv_goto (tgt := 61) X.x X.b dX7_add_42 (by decide) ?_
        obtain ⟨q10, hq10, hf⟩ := zb_ok hf
        refine z_callV X Z hl (mX7_refuses l Δ ad thr saved mlen spot reads hash ms mpast mtext mread 1 hq10) wd_862 wd_864 wd_18 wd_68 wd_865 ok_X7_refuses 7 rfl 0 rfl (w' := (wX7 Δ ad q10.2 saved mlen spot reads hash ms mpast mtext mread)) su_16 fs_16 pu_16 rfl (rest := []) rfl (Nat.le_of_ble_eq_true rfl) ⟨Nat.le_of_ble_eq_true rfl, Nat.le_of_ble_eq_true rfl⟩ ⟨Nat.zero_le _, Nat.zero_le _⟩ (st1 := [.int q10.1]) rfl dX7_add_61 (fun H locs Z => ?_)
        refine lv_if_eq (tgt := 69) X.x X.b dX7_add_64 (by decide) (fun b6 => ?_) (fun b6 => ?_)
        · have hf := zif_t b6 hf
          refine lv_aload_n X.x X.b dX7_add_69 rfl (lv_at hl 1 rfl) ?_
          obtain ⟨q11, hq11, hf⟩ := zb_ok hf
          refine z_callV X Z hl (mX7_saves l Δ ad q10.2 saved mlen spot reads hash ms mpast mtext mread hq11) wd_876 wd_878 wd_19 wd_68 wd_879 ok_X7_saves 7 rfl 0 rfl (w' := (wX7 Δ ad q10.2 q11.1 mlen spot reads hash ms q11.2 mtext mread)) su_16 fs_16 pu_16 rfl (rest := []) rfl (Nat.le_of_ble_eq_true rfl) ⟨Nat.le_of_ble_eq_true rfl, Nat.le_of_ble_eq_true rfl⟩ ⟨Nat.zero_le _, Nat.zero_le _⟩ (st1 := []) rfl dX7_add_70 (fun H locs Z => ?_)
          refine lv_aload_n X.x X.b dX7_add_73 rfl (lv_at hl 1 rfl) ?_
          refine lv_iload_n X.x X.b dX7_add_74 rfl (lv_at hl 2 rfl) ?_
          refine lv_iload_n X.x X.b dX7_add_75 rfl (lv_at hl 3 rfl) ?_
          refine lv_iload_n X.x X.b dX7_add_76 rfl (lv_at hl 4 rfl) ?_
          obtain ⟨q12, hq12, hf⟩ := zb_ok hf
          refine z_callV X Z hl (mX7_adds l Δ ad q10.2 q11.1 mlen spot reads hash ms q11.2 mtext mread x1 x2 x3 hq12) wd_880 wd_882 wd_20 wd_68 wd_883 ok_X7_adds 7 rfl 0 rfl (w' := (wX7 Δ ad q10.2 q11.1 mlen spot reads hash q12 q11.2 mtext mread)) su_16 fs_16 pu_16 rfl (rest := []) rfl (Nat.le_of_ble_eq_true rfl) ⟨Nat.le_of_ble_eq_true rfl, Nat.le_of_ble_eq_true rfl⟩ ⟨Nat.zero_le _, Nat.zero_le _⟩ (st1 := []) rfl dX7_add_77 (fun H locs Z => ?_)
          refine lv_aload_n X.x X.b dX7_add_80 rfl (lv_at hl 1 rfl) ?_
          refine z_gf inG_X7 (ci := 7) rfl 1 (Nat.le_of_ble_eq_true rfl) rfl X Z wd_823 0 rfl (v := .ref (ad 1)) rfl dX7_add_81 ?_
          refine lv_iconst (v := 0) X.x X.b dX7_add_84 ki_0 ?_
          refine z_iald X Z 1 rfl (zvin (by decide)) dX7_add_85 ?_
          refine lv_iconst (v := 1) X.x X.b dX7_add_86 ki_1 ?_
          refine lv_isub X.x X.b dX7_add_87 ?_
          cases hf
          exact z_iret X Z dX7_add_88
        · have hf := zif_f b6 hf
          refine lv_iconst (v := 0) X.x X.b dX7_add_67 ki_0 ?_
          cases hf
          exact z_iret X Z dX7_add_68
      · have hf := zif_f b5 hf
        refine lv_iconst (v := 1) X.x X.b dX7_add_28 ki_1 ?_
        refine lv_goto (tgt := 33) X.x X.b dX7_add_29 (by decide) ?_
        refine lv_istore (lv' := [(4, .int 1), (0, .ref (ad 0)), (1, .int x1), (2, .int x2), (3, .int x3)]) X.x X.b dX7_add_33 hl (Nat.le_of_ble_eq_true rfl) rfl (fun ls hl => ?_)
        refine lv_aload_n X.x X.b dX7_add_35 rfl (lv_at hl 1 rfl) ?_
        refine lv_iload X.x X.b dX7_add_36 (lv_at hl 0 rfl) ?_
        refine lv_if_ne (tgt := 45) X.x X.b dX7_add_38 (by decide) (fun _ => ?_) (fun h => absurd h (by decide))
        refine lv_aload_n X.x X.b dX7_add_45 rfl (lv_at hl 1 rfl) ?_
        refine z_gf inG_X7 (ci := 7) rfl 1 (Nat.le_of_ble_eq_true rfl) rfl X Z wd_823 0 rfl (v := .ref (ad 1)) rfl dX7_add_46 ?_
        refine lv_iconst (v := 0) X.x X.b dX7_add_49 ki_0 ?_
        refine z_iald X Z 1 rfl (zvin (by decide)) dX7_add_50 ?_
        refine lv_bipush (v := 20) X.x X.b dX7_add_51 kb_20 ?_
        refine lv_icmp_ne (tgt := 60) X.x X.b dX7_add_53 (by decide) (fun b7 => ?_) (fun b7 => ?_)
        · have hf := zif_f b7 hf
          refine lv_iconst (v := 0) X.x X.b dX7_add_60 ki_0 ?_
          obtain ⟨q13, hq13, hf⟩ := zb_ok hf
          refine z_callV X Z hl (mX7_refuses l Δ ad thr saved mlen spot reads hash ms mpast mtext mread 0 hq13) wd_862 wd_864 wd_18 wd_68 wd_865 ok_X7_refuses 7 rfl 0 rfl (w' := (wX7 Δ ad q13.2 saved mlen spot reads hash ms mpast mtext mread)) su_16 fs_16 pu_16 rfl (rest := []) rfl (Nat.le_of_ble_eq_true rfl) ⟨Nat.le_of_ble_eq_true rfl, Nat.le_of_ble_eq_true rfl⟩ ⟨Nat.zero_le _, Nat.zero_le _⟩ (st1 := [.int q13.1]) rfl dX7_add_61 (fun H locs Z => ?_)
          refine lv_if_eq (tgt := 69) X.x X.b dX7_add_64 (by decide) (fun b8 => ?_) (fun b8 => ?_)
          · have hf := zif_t b8 hf
            refine lv_aload_n X.x X.b dX7_add_69 rfl (lv_at hl 1 rfl) ?_
            obtain ⟨q14, hq14, hf⟩ := zb_ok hf
            refine z_callV X Z hl (mX7_saves l Δ ad q13.2 saved mlen spot reads hash ms mpast mtext mread hq14) wd_876 wd_878 wd_19 wd_68 wd_879 ok_X7_saves 7 rfl 0 rfl (w' := (wX7 Δ ad q13.2 q14.1 mlen spot reads hash ms q14.2 mtext mread)) su_16 fs_16 pu_16 rfl (rest := []) rfl (Nat.le_of_ble_eq_true rfl) ⟨Nat.le_of_ble_eq_true rfl, Nat.le_of_ble_eq_true rfl⟩ ⟨Nat.zero_le _, Nat.zero_le _⟩ (st1 := []) rfl dX7_add_70 (fun H locs Z => ?_)
            refine lv_aload_n X.x X.b dX7_add_73 rfl (lv_at hl 1 rfl) ?_
            refine lv_iload_n X.x X.b dX7_add_74 rfl (lv_at hl 2 rfl) ?_
            refine lv_iload_n X.x X.b dX7_add_75 rfl (lv_at hl 3 rfl) ?_
            refine lv_iload_n X.x X.b dX7_add_76 rfl (lv_at hl 4 rfl) ?_
            obtain ⟨q15, hq15, hf⟩ := zb_ok hf
            refine z_callV X Z hl (mX7_adds l Δ ad q13.2 q14.1 mlen spot reads hash ms q14.2 mtext mread x1 x2 x3 hq15) wd_880 wd_882 wd_20 wd_68 wd_883 ok_X7_adds 7 rfl 0 rfl (w' := (wX7 Δ ad q13.2 q14.1 mlen spot reads hash q15 q14.2 mtext mread)) su_16 fs_16 pu_16 rfl (rest := []) rfl (Nat.le_of_ble_eq_true rfl) ⟨Nat.le_of_ble_eq_true rfl, Nat.le_of_ble_eq_true rfl⟩ ⟨Nat.zero_le _, Nat.zero_le _⟩ (st1 := []) rfl dX7_add_77 (fun H locs Z => ?_)
            refine lv_aload_n X.x X.b dX7_add_80 rfl (lv_at hl 1 rfl) ?_
            refine z_gf inG_X7 (ci := 7) rfl 1 (Nat.le_of_ble_eq_true rfl) rfl X Z wd_823 0 rfl (v := .ref (ad 1)) rfl dX7_add_81 ?_
            refine lv_iconst (v := 0) X.x X.b dX7_add_84 ki_0 ?_
            refine z_iald X Z 1 rfl (zvin (by decide)) dX7_add_85 ?_
            refine lv_iconst (v := 1) X.x X.b dX7_add_86 ki_1 ?_
            refine lv_isub X.x X.b dX7_add_87 ?_
            cases hf
            exact z_iret X Z dX7_add_88
          · have hf := zif_f b8 hf
            refine lv_iconst (v := 0) X.x X.b dX7_add_67 ki_0 ?_
            cases hf
            exact z_iret X Z dX7_add_68
        · have hf := zif_t b7 hf
          refine lv_iconst (v := 2) X.x X.b dX7_add_56 ki_2 ?_
          refine lv_goto (tgt := 61) X.x X.b dX7_add_57 (by decide) ?_
          obtain ⟨q16, hq16, hf⟩ := zb_ok hf
          refine z_callV X Z hl (mX7_refuses l Δ ad thr saved mlen spot reads hash ms mpast mtext mread 2 hq16) wd_862 wd_864 wd_18 wd_68 wd_865 ok_X7_refuses 7 rfl 0 rfl (w' := (wX7 Δ ad q16.2 saved mlen spot reads hash ms mpast mtext mread)) su_16 fs_16 pu_16 rfl (rest := []) rfl (Nat.le_of_ble_eq_true rfl) ⟨Nat.le_of_ble_eq_true rfl, Nat.le_of_ble_eq_true rfl⟩ ⟨Nat.zero_le _, Nat.zero_le _⟩ (st1 := [.int q16.1]) rfl dX7_add_61 (fun H locs Z => ?_)
          refine lv_if_eq (tgt := 69) X.x X.b dX7_add_64 (by decide) (fun b9 => ?_) (fun b9 => ?_)
          · have hf := zif_t b9 hf
            refine lv_aload_n X.x X.b dX7_add_69 rfl (lv_at hl 1 rfl) ?_
            obtain ⟨q17, hq17, hf⟩ := zb_ok hf
            refine z_callV X Z hl (mX7_saves l Δ ad q16.2 saved mlen spot reads hash ms mpast mtext mread hq17) wd_876 wd_878 wd_19 wd_68 wd_879 ok_X7_saves 7 rfl 0 rfl (w' := (wX7 Δ ad q16.2 q17.1 mlen spot reads hash ms q17.2 mtext mread)) su_16 fs_16 pu_16 rfl (rest := []) rfl (Nat.le_of_ble_eq_true rfl) ⟨Nat.le_of_ble_eq_true rfl, Nat.le_of_ble_eq_true rfl⟩ ⟨Nat.zero_le _, Nat.zero_le _⟩ (st1 := []) rfl dX7_add_70 (fun H locs Z => ?_)
            refine lv_aload_n X.x X.b dX7_add_73 rfl (lv_at hl 1 rfl) ?_
            refine lv_iload_n X.x X.b dX7_add_74 rfl (lv_at hl 2 rfl) ?_
            refine lv_iload_n X.x X.b dX7_add_75 rfl (lv_at hl 3 rfl) ?_
            refine lv_iload_n X.x X.b dX7_add_76 rfl (lv_at hl 4 rfl) ?_
            obtain ⟨q18, hq18, hf⟩ := zb_ok hf
            refine z_callV X Z hl (mX7_adds l Δ ad q16.2 q17.1 mlen spot reads hash ms q17.2 mtext mread x1 x2 x3 hq18) wd_880 wd_882 wd_20 wd_68 wd_883 ok_X7_adds 7 rfl 0 rfl (w' := (wX7 Δ ad q16.2 q17.1 mlen spot reads hash q18 q17.2 mtext mread)) su_16 fs_16 pu_16 rfl (rest := []) rfl (Nat.le_of_ble_eq_true rfl) ⟨Nat.le_of_ble_eq_true rfl, Nat.le_of_ble_eq_true rfl⟩ ⟨Nat.zero_le _, Nat.zero_le _⟩ (st1 := []) rfl dX7_add_77 (fun H locs Z => ?_)
            refine lv_aload_n X.x X.b dX7_add_80 rfl (lv_at hl 1 rfl) ?_
            refine z_gf inG_X7 (ci := 7) rfl 1 (Nat.le_of_ble_eq_true rfl) rfl X Z wd_823 0 rfl (v := .ref (ad 1)) rfl dX7_add_81 ?_
            refine lv_iconst (v := 0) X.x X.b dX7_add_84 ki_0 ?_
            refine z_iald X Z 1 rfl (zvin (by decide)) dX7_add_85 ?_
            refine lv_iconst (v := 1) X.x X.b dX7_add_86 ki_1 ?_
            refine lv_isub X.x X.b dX7_add_87 ?_
            cases hf
            exact z_iret X Z dX7_add_88
          · have hf := zif_f b9 hf
            refine lv_iconst (v := 0) X.x X.b dX7_add_67 ki_0 ?_
            cases hf
            exact z_iret X Z dX7_add_68
