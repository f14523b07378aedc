set_option maxRecDepth 100000 in
set_option maxHeartbeats 4000000 in
theorem mX5_completeParts (l : Launch) (Δ : zE) (ad : Nat → Nat) (len : Int32) (codes : Nat → Int32) (gpl : Int32) (gps : Int32) (gcl : Int32) (gwo : Int32)  {res : Int32} (hf : fX5_completeParts len codes = some res) : zMet l Δ yX5_completeParts cX5_completeParts 3 (some .int) 0 0 [.ref (ad 0)] (wX5 Δ ad len codes gpl gps gcl gwo) (wX5 Δ ad len codes gpl gps gcl gwo) (some (.int res)) := by
  refine z_start (by decide +kernel) (Nat.le_of_ble_eq_true rfl) ?_
  intro p e s m args below meth c A ls X Z hl
  have hl : lv_has ls 3 [(0, .ref (ad 0))] := hl
  have L4 : ∀ (k : Nat) (len : Int32) (codes : Nat → Int32) (v1 : Int32) (v2 : Int32), fX5_completeParts_4 k len codes v1 v2 = some res → ∀ (H : Heap) (locs : List Loc) (ls : Array Slot), zW Δ A s.heap (wX5 Δ ad len codes gpl gps gcl gwo) H locs → lv_has ls 3 [(0, .ref (ad 0)), (1, .int v1), (2, .int v2)] → W p l e { frames := 0, cells := 0, slots := 0, locals := 0 } s m args below meth c H locs 0 0 (zEnd Δ below args s 0 0 A (some (.int res)) (wX5 Δ ad len codes gpl gps gcl gwo)) (F0 m 4 ls []) := by
    intro k
    induction k with
    | zero =>
      intro len codes v1 v2 hf
      rw [fX5_completeParts_4.eq_1] at hf
      cases hf
    | succ k ih =>
      intro len codes v1 v2 hf H locs ls Z hl
      rw [fX5_completeParts_4.eq_2] at hf
      refine lv_iload_n X.x X.b dX5_completeParts_4 rfl (lv_at hl 2 rfl) ?_
      refine lv_aload_n X.x X.b dX5_completeParts_5 rfl (lv_at hl 0 rfl) ?_
      refine z_gf inG_X5 (ci := 5) rfl 1 (Nat.le_of_ble_eq_true rfl) rfl X Z wd_173 0 rfl (v := .int len) rfl dX5_completeParts_6 ?_
      refine lv_icmp_ge (tgt := 32) X.x X.b dX5_completeParts_9 (by decide) (fun b1 => ?_) (fun b1 => ?_)
      · have hf := zif_t b1 hf
        refine lv_iload_n X.x X.b dX5_completeParts_32 rfl (lv_at hl 1 rfl) ?_
        cases hf
        exact z_iret X Z dX5_completeParts_33
      · have hf := zif_f b1 hf
        refine lv_aload_n X.x X.b dX5_completeParts_12 rfl (lv_at hl 0 rfl) ?_
        refine z_gf inG_X5 (ci := 5) rfl 0 (Nat.le_of_ble_eq_true rfl) rfl X Z wd_171 0 rfl (v := .ref (ad 1)) rfl dX5_completeParts_13 ?_
        refine lv_iload_n X.x X.b dX5_completeParts_16 rfl (lv_at hl 2 rfl) ?_
        obtain ⟨b2, hf⟩ := zg_in hf
        refine z_iald X Z 1 rfl b2 dX5_completeParts_17 ?_
        refine lv_bipush (v := 59) X.x X.b dX5_completeParts_18 kb_59 ?_
        refine lv_icmp_ne (tgt := 26) X.x X.b dX5_completeParts_20 (by decide) (fun b3 => ?_) (fun b3 => ?_)
        · have hf := zif_f b3 hf
          refine lv_iinc (v := (v2 + 1)) (lv' := [(2, .int (v2 + 1)), (0, .ref (ad 0)), (1, .int v1)]) X.x X.b dX5_completeParts_26 hl (k := 2) rfl (congrArg _ ki_1) (Nat.le_of_ble_eq_true rfl) rfl (fun ls hl => ?_)
          refine lv_goto (tgt := 4) X.x X.b dX5_completeParts_29 (by decide) ?_
          exact ih len codes v1 (v2 + 1) hf _ _ _ Z (lv_sub hl [1, 2, 0] rfl)
        · have hf := zif_t b3 hf
          refine lv_iinc (v := (v1 + 1)) (lv' := [(1, .int (v1 + 1)), (0, .ref (ad 0)), (2, .int v2)]) X.x X.b dX5_completeParts_23 hl (k := 1) rfl (congrArg _ ki_1) (Nat.le_of_ble_eq_true rfl) rfl (fun ls hl => ?_)
          refine lv_iinc (v := (v2 + 1)) (lv' := [(2, .int (v2 + 1)), (1, .int (v1 + 1)), (0, .ref (ad 0))]) X.x X.b dX5_completeParts_26 hl (k := 2) rfl (congrArg _ ki_1) (Nat.le_of_ble_eq_true rfl) rfl (fun ls hl => ?_)
          refine lv_goto (tgt := 4) X.x X.b dX5_completeParts_29 (by decide) ?_
          exact ih len codes (v1 + 1) (v2 + 1) hf _ _ _ Z (lv_sub hl [2, 1, 0] rfl)
  rw [fX5_completeParts.eq_1] at hf
  refine lv_iconst (v := 1) X.x X.b dX5_completeParts_0 ki_1 ?_
  refine lv_istore_n (lv' := [(1, .int 1), (0, .ref (ad 0))]) X.x X.b dX5_completeParts_1 rfl hl (Nat.le_of_ble_eq_true rfl) rfl (fun ls hl => ?_)
  refine lv_iconst (v := 0) X.x X.b dX5_completeParts_2 ki_0 ?_
  refine lv_istore_n (lv' := [(2, .int 0), (1, .int 1), (0, .ref (ad 0))]) X.x X.b dX5_completeParts_3 rfl hl (Nat.le_of_ble_eq_true rfl) rfl (fun ls hl => ?_)
  exact L4 zfuel len codes 1 0 hf _ _ _ Z (lv_sub hl [2, 1, 0] rfl)
set_option maxRecDepth 100000 in
set_option maxHeartbeats 4000000 in
theorem mX5_tellTo (l : Launch) (Δ : zE) (ad ad2 : Nat → Nat) (len : Int32) (codes : Nat → Int32) (gpl : Int32) (gps : Int32) (gcl : Int32) (gwo : Int32) (size : Int32) (plots : Nat → Int32) (cliffs : Nat → Int32) (words : Nat → Int32) (needs : Nat → Int32)  {res : Int32 × Int32 × Int32 × Int32 × Int32 × (Nat → Int32) × (Nat → Int32) × (Nat → Int32) × (Nat → Int32)} (hf : fX5_tellTo len codes gpl gps gcl gwo size plots cliffs words needs = some res) : zMet l Δ yX5_tellTo cX5_tellTo 3 none 3 64 [.ref (ad 0), .ref (ad2 0)] ((wX5 Δ ad len codes gpl gps gcl gwo) ++ (wX4 Δ ad2 size plots cliffs words needs)) ((wX5 Δ ad len codes res.1 res.2.1 res.2.2.1 res.2.2.2.1) ++ (wX4 Δ ad2 res.2.2.2.2.1 res.2.2.2.2.2.1 res.2.2.2.2.2.2.1 res.2.2.2.2.2.2.2.1 res.2.2.2.2.2.2.2.2)) none := by
  refine z_start (by decide +kernel) (Nat.le_of_ble_eq_true rfl) ?_
  intro p e s m args below meth c A ls X Z hl
  have hl : lv_has ls 3 [(0, .ref (ad 0)), (1, .ref (ad2 0))] := hl
  have L9 : ∀ (k : Nat) (len : Int32) (codes : Nat → Int32) (gpl : Int32) (gps : Int32) (gcl : Int32) (gwo : Int32) (size : Int32) (plots : Nat → Int32) (cliffs : Nat → Int32) (words : Nat → Int32) (needs : Nat → Int32) (v2 : Int32), fX5_tellTo_9 k len codes gpl gps gcl gwo size plots cliffs words needs v2 = some res → ∀ (H : Heap) (locs : List Loc) (ls : Array Slot), zW Δ A s.heap ((wX5 Δ ad len codes gpl gps gcl gwo) ++ (wX4 Δ ad2 size plots cliffs words needs)) H locs → lv_has ls 3 [(0, .ref (ad 0)), (1, .ref (ad2 0)), (2, .int v2)] → W p l e { frames := 3, cells := 0, slots := 0, locals := 64 } s m args below meth c H locs 0 0 (zEnd Δ below args s 0 0 A none ((wX5 Δ ad len codes res.1 res.2.1 res.2.2.1 res.2.2.2.1) ++ (wX4 Δ ad2 res.2.2.2.2.1 res.2.2.2.2.2.1 res.2.2.2.2.2.2.1 res.2.2.2.2.2.2.2.1 res.2.2.2.2.2.2.2.2))) (F0 m 9 ls []) := by
    intro k
    induction k with
    | zero =>
      intro len codes gpl gps gcl gwo size plots cliffs words needs v2 hf
      rw [fX5_tellTo_9.eq_1] at hf
      cases hf
    | succ k ih =>
      intro len codes gpl gps gcl gwo size plots cliffs words needs v2 hf H locs ls Z hl
      rw [fX5_tellTo_9.eq_2] at hf
      refine lv_iload_n X.x X.b dX5_tellTo_9 rfl (lv_at hl 2 rfl) ?_
      refine lv_aload_n X.x X.b dX5_tellTo_10 rfl (lv_at hl 0 rfl) ?_
      refine z_gf inG_X5 (ci := 5) rfl 1 (Nat.le_of_ble_eq_true rfl) rfl X Z wd_173 0 rfl (v := .int len) rfl dX5_tellTo_11 ?_
      refine lv_icmp_ge (tgt := 73) X.x X.b dX5_tellTo_14 (by decide) (fun b1 => ?_) (fun b1 => ?_)
      · have hf := zif_t b1 hf
        refine lv_aload_n X.x X.b dX5_tellTo_73 rfl (lv_at hl 1 rfl) ?_
        refine lv_aload_n X.x X.b dX5_tellTo_74 rfl (lv_at hl 0 rfl) ?_
        refine z_gf inG_X5 (ci := 5) rfl 2 (Nat.le_of_ble_eq_true rfl) rfl X Z wd_175 0 rfl (v := .ref (ad 2)) rfl dX5_tellTo_75 ?_
        refine z_gf inG_X1 (ci := 1) rfl 1 (Nat.le_of_ble_eq_true rfl) rfl X Z wd_157 2 rfl (v := .int gps) rfl dX5_tellTo_78 ?_
        refine lv_aload_n X.x X.b dX5_tellTo_81 rfl (lv_at hl 0 rfl) ?_
        refine z_gf inG_X5 (ci := 5) rfl 2 (Nat.le_of_ble_eq_true rfl) rfl X Z wd_175 0 rfl (v := .ref (ad 2)) rfl dX5_tellTo_82 ?_
        refine z_gf inG_X1 (ci := 1) rfl 2 (Nat.le_of_ble_eq_true rfl) rfl X Z wd_159 2 rfl (v := .int gcl) rfl dX5_tellTo_85 ?_
        refine lv_aload_n X.x X.b dX5_tellTo_88 rfl (lv_at hl 0 rfl) ?_
        refine z_gf inG_X5 (ci := 5) rfl 2 (Nat.le_of_ble_eq_true rfl) rfl X Z wd_175 0 rfl (v := .ref (ad 2)) rfl dX5_tellTo_89 ?_
        refine z_gf inG_X1 (ci := 1) rfl 3 (Nat.le_of_ble_eq_true rfl) rfl X Z wd_161 2 rfl (v := .int gwo) rfl dX5_tellTo_92 ?_
        obtain ⟨q1, hq1, hf⟩ := zb_ok hf
        refine z_callV X Z hl (mX4_put l Δ ad2 size plots cliffs words needs gps gcl gwo hq1) wd_583 wd_379 wd_380 wd_21 wd_381 ok_X4_put 4 rfl 3 rfl (w' := ((wX5 Δ ad len codes gpl gps gcl gwo) ++ (wX4 Δ ad2 q1.1 q1.2.1 q1.2.2.1 q1.2.2.2.1 q1.2.2.2.2))) su_10 fs_10 pu_10 rfl (rest := []) rfl (Nat.le_of_ble_eq_true rfl) ⟨Nat.le_of_ble_eq_true rfl, Nat.le_of_ble_eq_true rfl⟩ ⟨Nat.zero_le _, Nat.zero_le _⟩ (st1 := []) rfl dX5_tellTo_95 (fun H locs Z => ?_)
        cases hf
        exact z_vret X Z dX5_tellTo_98
      · have hf := zif_f b1 hf
        refine lv_aload_n X.x X.b dX5_tellTo_17 rfl (lv_at hl 0 rfl) ?_
        refine z_gf inG_X5 (ci := 5) rfl 0 (Nat.le_of_ble_eq_true rfl) rfl X Z wd_171 0 rfl (v := .ref (ad 1)) rfl dX5_tellTo_18 ?_
        refine lv_iload_n X.x X.b dX5_tellTo_21 rfl (lv_at hl 2 rfl) ?_
        obtain ⟨b2, hf⟩ := zg_in hf
        refine z_iald X Z 1 rfl b2 dX5_tellTo_22 ?_
        refine lv_bipush (v := 59) X.x X.b dX5_tellTo_23 kb_59 ?_
        refine lv_icmp_ne (tgt := 53) X.x X.b dX5_tellTo_25 (by decide) (fun b3 => ?_) (fun b3 => ?_)
        · have hf := zif_f b3 hf
          refine lv_aload_n X.x X.b dX5_tellTo_53 rfl (lv_at hl 0 rfl) ?_
          refine z_gf inG_X5 (ci := 5) rfl 2 (Nat.le_of_ble_eq_true rfl) rfl X Z wd_175 0 rfl (v := .ref (ad 2)) rfl dX5_tellTo_54 ?_
          refine lv_aload_n X.x X.b dX5_tellTo_57 rfl (lv_at hl 0 rfl) ?_
          refine z_gf inG_X5 (ci := 5) rfl 0 (Nat.le_of_ble_eq_true rfl) rfl X Z wd_171 0 rfl (v := .ref (ad 1)) rfl dX5_tellTo_58 ?_
          refine lv_iload_n X.x X.b dX5_tellTo_61 rfl (lv_at hl 2 rfl) ?_
          obtain ⟨b4, hf⟩ := zg_in hf
          refine z_iald X Z 1 rfl b4 dX5_tellTo_62 ?_
          obtain ⟨q2, hq2, hf⟩ := zb_ok hf
          refine z_callV X Z hl (mX1_takes l Δ (fun j => ad (j + 2)) gpl gps gcl gwo (codes v2.toNatClampNeg) hq2) wd_543 wd_544 wd_545 wd_25 wd_546 ok_X1_takes 1 rfl 2 rfl (w' := ((wX5 Δ ad len codes q2.2.1 q2.2.2.1 q2.2.2.2.1 q2.2.2.2.2) ++ (wX4 Δ ad2 size plots cliffs words needs))) su_11 fs_11 pu_11 rfl (rest := []) rfl (Nat.le_of_ble_eq_true rfl) ⟨Nat.le_of_ble_eq_true rfl, Nat.le_of_ble_eq_true rfl⟩ ⟨Nat.zero_le _, Nat.zero_le _⟩ (st1 := [.int q2.1]) rfl dX5_tellTo_63 (fun H locs Z => ?_)
          refine lv_pop X.x X.b dX5_tellTo_66 rfl ?_
          refine lv_iinc (v := (v2 + 1)) (lv' := [(2, .int (v2 + 1)), (0, .ref (ad 0)), (1, .ref (ad2 0))]) X.x X.b dX5_tellTo_67 hl (k := 2) rfl (congrArg _ ki_1) (Nat.le_of_ble_eq_true rfl) rfl (fun ls hl => ?_)
          refine lv_goto (tgt := 9) X.x X.b dX5_tellTo_70 (by decide) ?_
          exact ih len codes q2.2.1 q2.2.2.1 q2.2.2.2.1 q2.2.2.2.2 size plots cliffs words needs (v2 + 1) hf _ _ _ Z (lv_sub hl [1, 2, 0] rfl)
        · have hf := zif_t b3 hf
          refine lv_aload_n X.x X.b dX5_tellTo_28 rfl (lv_at hl 1 rfl) ?_
          refine lv_aload_n X.x X.b dX5_tellTo_29 rfl (lv_at hl 0 rfl) ?_
          refine z_gf inG_X5 (ci := 5) rfl 2 (Nat.le_of_ble_eq_true rfl) rfl X Z wd_175 0 rfl (v := .ref (ad 2)) rfl dX5_tellTo_30 ?_
          refine z_gf inG_X1 (ci := 1) rfl 1 (Nat.le_of_ble_eq_true rfl) rfl X Z wd_157 2 rfl (v := .int gps) rfl dX5_tellTo_33 ?_
          refine lv_aload_n X.x X.b dX5_tellTo_36 rfl (lv_at hl 0 rfl) ?_
          refine z_gf inG_X5 (ci := 5) rfl 2 (Nat.le_of_ble_eq_true rfl) rfl X Z wd_175 0 rfl (v := .ref (ad 2)) rfl dX5_tellTo_37 ?_
          refine z_gf inG_X1 (ci := 1) rfl 2 (Nat.le_of_ble_eq_true rfl) rfl X Z wd_159 2 rfl (v := .int gcl) rfl dX5_tellTo_40 ?_
          refine lv_aload_n X.x X.b dX5_tellTo_43 rfl (lv_at hl 0 rfl) ?_
          refine z_gf inG_X5 (ci := 5) rfl 2 (Nat.le_of_ble_eq_true rfl) rfl X Z wd_175 0 rfl (v := .ref (ad 2)) rfl dX5_tellTo_44 ?_
          refine z_gf inG_X1 (ci := 1) rfl 3 (Nat.le_of_ble_eq_true rfl) rfl X Z wd_161 2 rfl (v := .int gwo) rfl dX5_tellTo_47 ?_
          obtain ⟨q3, hq3, hf⟩ := zb_ok hf
          refine z_callV X Z hl (mX4_put l Δ ad2 size plots cliffs words needs gps gcl gwo hq3) wd_583 wd_379 wd_380 wd_21 wd_381 ok_X4_put 4 rfl 3 rfl (w' := ((wX5 Δ ad len codes gpl gps gcl gwo) ++ (wX4 Δ ad2 q3.1 q3.2.1 q3.2.2.1 q3.2.2.2.1 q3.2.2.2.2))) su_10 fs_10 pu_10 rfl (rest := []) rfl (Nat.le_of_ble_eq_true rfl) ⟨Nat.le_of_ble_eq_true rfl, Nat.le_of_ble_eq_true rfl⟩ ⟨Nat.zero_le _, Nat.zero_le _⟩ (st1 := []) rfl dX5_tellTo_50 (fun H locs Z => ?_)
          refine lv_aload_n X.x X.b dX5_tellTo_53 rfl (lv_at hl 0 rfl) ?_
          refine z_gf inG_X5 (ci := 5) rfl 2 (Nat.le_of_ble_eq_true rfl) rfl X Z wd_175 0 rfl (v := .ref (ad 2)) rfl dX5_tellTo_54 ?_
          refine lv_aload_n X.x X.b dX5_tellTo_57 rfl (lv_at hl 0 rfl) ?_
          refine z_gf inG_X5 (ci := 5) rfl 0 (Nat.le_of_ble_eq_true rfl) rfl X Z wd_171 0 rfl (v := .ref (ad 1)) rfl dX5_tellTo_58 ?_
          refine lv_iload_n X.x X.b dX5_tellTo_61 rfl (lv_at hl 2 rfl) ?_
          obtain ⟨b5, hf⟩ := zg_in hf
          refine z_iald X Z 1 rfl b5 dX5_tellTo_62 ?_
          obtain ⟨q4, hq4, hf⟩ := zb_ok hf
          refine z_callV X Z hl (mX1_takes l Δ (fun j => ad (j + 2)) gpl gps gcl gwo (codes v2.toNatClampNeg) hq4) wd_543 wd_544 wd_545 wd_25 wd_546 ok_X1_takes 1 rfl 2 rfl (w' := ((wX5 Δ ad len codes q4.2.1 q4.2.2.1 q4.2.2.2.1 q4.2.2.2.2) ++ (wX4 Δ ad2 q3.1 q3.2.1 q3.2.2.1 q3.2.2.2.1 q3.2.2.2.2))) su_11 fs_11 pu_11 rfl (rest := []) rfl (Nat.le_of_ble_eq_true rfl) ⟨Nat.le_of_ble_eq_true rfl, Nat.le_of_ble_eq_true rfl⟩ ⟨Nat.zero_le _, Nat.zero_le _⟩ (st1 := [.int q4.1]) rfl dX5_tellTo_63 (fun H locs Z => ?_)
          refine lv_pop X.x X.b dX5_tellTo_66 rfl ?_
          refine lv_iinc (v := (v2 + 1)) (lv' := [(2, .int (v2 + 1)), (0, .ref (ad 0)), (1, .ref (ad2 0))]) X.x X.b dX5_tellTo_67 hl (k := 2) rfl (congrArg _ ki_1) (Nat.le_of_ble_eq_true rfl) rfl (fun ls hl => ?_)
          refine lv_goto (tgt := 9) X.x X.b dX5_tellTo_70 (by decide) ?_
          exact ih len codes q4.2.1 q4.2.2.1 q4.2.2.2.1 q4.2.2.2.2 q3.1 q3.2.1 q3.2.2.1 q3.2.2.2.1 q3.2.2.2.2 (v2 + 1) hf _ _ _ Z (lv_sub hl [1, 2, 0] rfl)
  rw [fX5_tellTo.eq_1] at hf
  refine lv_aload_n X.x X.b dX5_tellTo_0 rfl (lv_at hl 0 rfl) ?_
  refine z_gf inG_X5 (ci := 5) rfl 2 (Nat.le_of_ble_eq_true rfl) rfl X Z wd_175 0 rfl (v := .ref (ad 2)) rfl dX5_tellTo_1 ?_
  obtain ⟨q1, hq1, hf⟩ := zb_ok hf
  refine z_callV X Z hl (mX1_restart l Δ (fun j => ad (j + 2)) gpl gps gcl gwo hq1) wd_539 wd_540 wd_541 wd_25 wd_542 ok_X1_restart 1 rfl 2 rfl (w' := ((wX5 Δ ad len codes q1.1 q1.2.1 q1.2.2.1 q1.2.2.2) ++ (wX4 Δ ad2 size plots cliffs words needs))) su_11 fs_11 pu_11 rfl (rest := []) rfl (Nat.le_of_ble_eq_true rfl) ⟨Nat.le_of_ble_eq_true rfl, Nat.le_of_ble_eq_true rfl⟩ ⟨Nat.zero_le _, Nat.zero_le _⟩ (st1 := []) rfl dX5_tellTo_4 (fun H locs Z => ?_)
  refine lv_iconst (v := 0) X.x X.b dX5_tellTo_7 ki_0 ?_
  refine lv_istore_n (lv' := [(2, .int 0), (0, .ref (ad 0)), (1, .ref (ad2 0))]) X.x X.b dX5_tellTo_8 rfl hl (Nat.le_of_ble_eq_true rfl) rfl (fun ls hl => ?_)
  exact L9 zfuel len codes q1.1 q1.2.1 q1.2.2.1 q1.2.2.2 size plots cliffs words needs 0 hf _ _ _ Z (lv_sub hl [1, 2, 0] rfl)
set_option maxRecDepth 100000 in
set_option maxHeartbeats 4000000 in
theorem mX6_clearBuffer (l : Launch) (Δ : zE) (ad : Nat → Nat) (reached : Int32) (lost : Int32) (size : Int32) (plots : Nat → Int32) (cliffs : Nat → Int32) (words : Nat → Int32) (needs : Nat → Int32) (told : Nat → Int32) (rea : Nat → Int32) (wread : Nat → Int32) (ltold : Nat → Int32) (lout : Nat → Int32) (sets : Nat → Int32) (oldest : Int32) (kept : Int32) (rows : Nat → Option Nat) (len : Int32) (codes : Nat → Int32) (gpl : Int32) (gps : Int32) (gcl : Int32) (gwo : Int32)  {res : Int32 × Int32} (hf : fX6_clearBuffer len = some res) : zMet l Δ yX6_clearBuffer cX6_clearBuffer 2 (some .int) 0 0 [.ref (ad 0)] (wX6 Δ ad reached lost size plots cliffs words needs told rea wread ltold lout sets oldest kept rows len codes gpl gps gcl gwo) (wX6 Δ ad reached lost size plots cliffs words needs told rea wread ltold lout sets oldest kept rows res.2 codes gpl gps gcl gwo) (some (.int res.1)) := by
  refine z_start (by decide +kernel) (Nat.le_of_ble_eq_true rfl) ?_
  intro p e s m args below meth c A ls X Z hl
  have hl : lv_has ls 2 [(0, .ref (ad 0))] := hl
  rw [fX6_clearBuffer.eq_1] at hf
  refine lv_aload_n X.x X.b dX6_clearBuffer_0 rfl (lv_at hl 0 rfl) ?_
  refine z_gf inG_X6 (ci := 6) rfl 2 (Nat.le_of_ble_eq_true rfl) rfl X Z wd_185 0 rfl (v := .ref (ad 16)) rfl dX6_clearBuffer_1 ?_
  refine z_gf inG_X5 (ci := 5) rfl 1 (Nat.le_of_ble_eq_true rfl) rfl X Z wd_174 16 rfl (v := .int len) rfl dX6_clearBuffer_4 ?_
  refine lv_istore_n (lv' := [(1, .int len), (0, .ref (ad 0))]) X.x X.b dX6_clearBuffer_7 rfl hl (Nat.le_of_ble_eq_true rfl) rfl (fun ls hl => ?_)
  refine lv_aload_n X.x X.b dX6_clearBuffer_8 rfl (lv_at hl 1 rfl) ?_
  refine z_gf inG_X6 (ci := 6) rfl 2 (Nat.le_of_ble_eq_true rfl) rfl X Z wd_185 0 rfl (v := .ref (ad 16)) rfl dX6_clearBuffer_9 ?_
  refine lv_iconst (v := 0) X.x X.b dX6_clearBuffer_12 ki_0 ?_
  refine z_pf (w' := (wX6 Δ ad reached lost size plots cliffs words needs told rea wread ltold lout sets oldest kept rows 0 codes gpl gps gcl gwo)) inG_X5 (ci := 5) rfl tyX5 tyX5_ok nmX5 1 (Nat.le_of_ble_eq_true rfl) rfl rfl X Z wd_174 16 rfl rfl rfl (Nat.le_of_ble_eq_true rfl) rfl dX6_clearBuffer_13 (fun H locs Z => ?_)
  refine lv_iload_n X.x X.b dX6_clearBuffer_16 rfl (lv_at hl 0 rfl) ?_
  cases hf
  exact z_iret X Z dX6_clearBuffer_17
set_option maxRecDepth 100000 in
set_option maxHeartbeats 4000000 in
theorem mX6_firstError (l : Launch) (Δ : zE) (ad : Nat → Nat) (reached : Int32) (lost : Int32) (size : Int32) (plots : Nat → Int32) (cliffs : Nat → Int32) (words : Nat → Int32) (needs : Nat → Int32) (told : Nat → Int32) (rea : Nat → Int32) (wread : Nat → Int32) (ltold : Nat → Int32) (lout : Nat → Int32) (sets : Nat → Int32) (oldest : Int32) (kept : Int32) (rows : Nat → Option Nat) (len : Int32) (codes : Nat → Int32) (gpl : Int32) (gps : Int32) (gcl : Int32) (gwo : Int32)  {res : Int32 × Int32 × Int32 × Int32 × Int32} (hf : fX6_firstError len codes gpl gps gcl gwo = some res) : zMet l Δ yX6_firstError cX6_firstError 1 (some .int) 4 85 [.ref (ad 0)] (wX6 Δ ad reached lost size plots cliffs words needs told rea wread ltold lout sets oldest kept rows len codes gpl gps gcl gwo) (wX6 Δ ad reached lost size plots cliffs words needs told rea wread ltold lout sets oldest kept rows len codes res.2.1 res.2.2.1 res.2.2.2.1 res.2.2.2.2) (some (.int res.1)) := by
  refine z_start (by decide +kernel) (Nat.le_of_ble_eq_true rfl) ?_
  intro p e s m args below meth c A ls X Z hl
  have hl : lv_has ls 1 [(0, .ref (ad 0))] := hl
  rw [fX6_firstError.eq_1] at hf
  refine lv_aload_n X.x X.b dX6_firstError_0 rfl (lv_at hl 0 rfl) ?_
  refine z_gf inG_X6 (ci := 6) rfl 2 (Nat.le_of_ble_eq_true rfl) rfl X Z wd_185 0 rfl (v := .ref (ad 16)) rfl dX6_firstError_1 ?_
  obtain ⟨q1, hq1, hf⟩ := zb_ok hf
  refine z_callV X Z hl (mX5_readUntilError l Δ (fun j => ad (j + 16)) len codes gpl gps gcl gwo hq1) wd_745 wd_536 wd_537 wd_24 wd_538 ok_X5_readUntilError 5 rfl 16 rfl (w' := (wX6 Δ ad reached lost size plots cliffs words needs told rea wread ltold lout sets oldest kept rows len codes q1.2.1 q1.2.2.1 q1.2.2.2.1 q1.2.2.2.2)) su_12 fs_12 pu_12 rfl (rest := []) rfl (Nat.le_of_ble_eq_true rfl) ⟨Nat.le_of_ble_eq_true rfl, Nat.le_of_ble_eq_true rfl⟩ ⟨Nat.zero_le _, Nat.zero_le _⟩ (st1 := [.int q1.1]) rfl dX6_firstError_4 (fun H locs Z => ?_)
  cases hf
  exact z_iret X Z dX6_firstError_7
set_option maxRecDepth 100000 in
set_option maxHeartbeats 4000000 in
theorem mX6_total (l : Launch) (Δ : zE) (ad : Nat → Nat) (reached : Int32) (lost : Int32) (size : Int32) (plots : Nat → Int32) (cliffs : Nat → Int32) (words : Nat → Int32) (needs : Nat → Int32) (told : Nat → Int32) (rea : Nat → Int32) (wread : Nat → Int32) (ltold : Nat → Int32) (lout : Nat → Int32) (sets : Nat → Int32) (oldest : Int32) (kept : Int32) (rows : Nat → Option Nat) (len : Int32) (codes : Nat → Int32) (gpl : Int32) (gps : Int32) (gcl : Int32) (gwo : Int32) (x1 : Int32) {res : Int32} (hf : fX6_total reached lost size words told rea wread kept x1 = some res) : zMet l Δ yX6_total cX6_total 2 (some .int) 3 65 [.ref (ad 0), .int x1] (wX6 Δ ad reached lost size plots cliffs words needs told rea wread ltold lout sets oldest kept rows len codes gpl gps gcl gwo) (wX6 Δ ad reached lost size plots cliffs words needs told rea wread ltold lout sets oldest kept rows len codes gpl gps gcl gwo) (some (.int res)) := by
  refine z_start (by decide +kernel) (Nat.le_of_ble_eq_true rfl) ?_
  intro p e s m args below meth c A ls X Z hl
  have hl : lv_has ls 2 [(0, .ref (ad 0)), (1, .int x1)] := hl
  rw [fX6_total.eq_1] at hf
  refine lv_iload_n X.x X.b dX6_total_0 rfl (lv_at hl 1 rfl) ?_
  refine lv_bipush (v := 6) X.x X.b dX6_total_1 kb_6 ?_
  refine lv_icmp_ne (tgt := 16) X.x X.b dX6_total_3 (by decide) (fun b1 => ?_) (fun b1 => ?_)
  · have hf := zif_f b1 hf
    refine lv_aload_n X.x X.b dX6_total_16 rfl (lv_at hl 0 rfl) ?_
    refine z_gf inG_X6 (ci := 6) rfl 0 (Nat.le_of_ble_eq_true rfl) rfl X Z wd_183 0 rfl (v := .ref (ad 1)) rfl dX6_total_17 ?_
    refine lv_iload_n X.x X.b dX6_total_20 rfl (lv_at hl 1 rfl) ?_
    obtain ⟨q1, hq1, hf⟩ := zb_ok hf
    refine z_callV X Z hl (mX3_ofAll l Δ (fun j => ad (j + 1)) reached lost size plots cliffs words needs told rea wread ltold lout sets x1 hq1) wd_317 wd_318 wd_319 wd_20 wd_320 ok_X3_ofAll 3 rfl 1 rfl (w' := (wX6 Δ ad reached lost size plots cliffs words needs told rea wread ltold lout sets oldest kept rows len codes gpl gps gcl gwo)) su_14 fs_14 pu_14 rfl (rest := []) rfl (Nat.le_of_ble_eq_true rfl) ⟨Nat.le_of_ble_eq_true rfl, Nat.le_of_ble_eq_true rfl⟩ ⟨Nat.zero_le _, Nat.zero_le _⟩ (st1 := [.int q1]) rfl dX6_total_21 (fun H locs Z => ?_)
    cases hf
    exact z_iret X Z dX6_total_24
  · have hf := zif_t b1 hf
    refine lv_aload_n X.x X.b dX6_total_6 rfl (lv_at hl 0 rfl) ?_
    refine z_gf inG_X6 (ci := 6) rfl 1 (Nat.le_of_ble_eq_true rfl) rfl X Z wd_184 0 rfl (v := .ref (ad 14)) rfl dX6_total_7 ?_
    refine z_gf inG_X2 (ci := 2) rfl 2 (Nat.le_of_ble_eq_true rfl) rfl X Z wd_135 14 rfl (v := .int kept) rfl dX6_total_10 ?_
    refine lv_goto (tgt := 24) X.x X.b dX6_total_13 (by decide) ?_
    cases hf
    exact z_iret X Z dX6_total_24
set_option maxRecDepth 100000 in
set_option maxHeartbeats 4000000 in
theorem mX6_readShare (l : Launch) (Δ : zE) (ad : Nat → Nat) (reached : Int32) (lost : Int32) (size : Int32) (plots : Nat → Int32) (cliffs : Nat → Int32) (words : Nat → Int32) (needs : Nat → Int32) (told : Nat → Int32) (rea : Nat → Int32) (wread : Nat → Int32) (ltold : Nat → Int32) (lout : Nat → Int32) (sets : Nat → Int32) (oldest : Int32) (kept : Int32) (rows : Nat → Option Nat) (len : Int32) (codes : Nat → Int32) (gpl : Int32) (gps : Int32) (gcl : Int32) (gwo : Int32)  {res : UInt64} (hf : fX6_readShare size rea = some res) : zMet l Δ yX6_readShare cX6_readShare 1 (some .double) 3 62 [.ref (ad 0)] (wX6 Δ ad reached lost size plots cliffs words needs told rea wread ltold lout sets oldest kept rows len codes gpl gps gcl gwo) (wX6 Δ ad reached lost size plots cliffs words needs told rea wread ltold lout sets oldest kept rows len codes gpl gps gcl gwo) (some (.double res)) := by
  refine z_start (by decide +kernel) (Nat.le_of_ble_eq_true rfl) ?_
  intro p e s m args below meth c A ls X Z hl
  have hl : lv_has ls 1 [(0, .ref (ad 0))] := hl
  rw [fX6_readShare.eq_1] at hf
  refine lv_aload_n X.x X.b dX6_readShare_0 rfl (lv_at hl 0 rfl) ?_
  refine z_gf inG_X6 (ci := 6) rfl 0 (Nat.le_of_ble_eq_true rfl) rfl X Z wd_183 0 rfl (v := .ref (ad 1)) rfl dX6_readShare_1 ?_
  obtain ⟨q1, hq1, hf⟩ := zb_ok hf
  refine z_callV X Z hl (mX3_shareRead l Δ (fun j => ad (j + 1)) reached lost size plots cliffs words needs told rea wread ltold lout sets hq1) wd_698 wd_699 wd_700 wd_20 wd_701 ok_X3_shareRead 3 rfl 1 rfl (w' := (wX6 Δ ad reached lost size plots cliffs words needs told rea wread ltold lout sets oldest kept rows len codes gpl gps gcl gwo)) su_14 fs_14 pu_14 rfl (rest := []) rfl (Nat.le_of_ble_eq_true rfl) ⟨Nat.le_of_ble_eq_true rfl, Nat.le_of_ble_eq_true rfl⟩ ⟨Nat.zero_le _, Nat.zero_le _⟩ (st1 := [.double q1]) rfl dX6_readShare_4 (fun H locs Z => ?_)
  cases hf
  exact z_dret X Z dX6_readShare_7
set_option maxRecDepth 100000 in
set_option maxHeartbeats 4000000 in
theorem mX6_mix (l : Launch) (Δ : zE)  (x0 : Int64) (x2 : Int64) {res : Int64} (hf : fX6_mix x0 x2 = some res) : zMet l Δ yX6_mix cX6_mix 4 (some .long) 0 0 [.long x0, .long x2] [] [] (some (.long res)) := by
  refine z_start (by decide +kernel) (Nat.le_of_ble_eq_true rfl) ?_
  intro p e s m args below meth c A ls X Z hl
  have hl : lv_has ls 4 [(0, .long x0), (2, .long x2)] := hl
  rw [fX6_mix.eq_1] at hf
  refine lv_ldc2 (v := 31) X.x X.b X.own (X.ts _ wd_685) dX6_mix_0 ?_
  refine lv_lload_n X.x X.b dX6_mix_3 rfl (lv_at hl 0 rfl) ?_
  refine lv_lmul X.x X.b dX6_mix_4 ?_
  refine lv_lload_n X.x X.b dX6_mix_5 rfl (lv_at hl 1 rfl) ?_
  refine lv_ladd X.x X.b dX6_mix_6 ?_
  cases hf
  exact z_lret X Z dX6_mix_7
set_option maxRecDepth 100000 in
set_option maxHeartbeats 4000000 in
theorem mX6_mixParts (l : Launch) (Δ : zE) (ad : Nat → Nat) (reached : Int32) (lost : Int32) (size : Int32) (plots : Nat → Int32) (cliffs : Nat → Int32) (words : Nat → Int32) (needs : Nat → Int32) (told : Nat → Int32) (rea : Nat → Int32) (wread : Nat → Int32) (ltold : Nat → Int32) (lout : Nat → Int32) (sets : Nat → Int32) (oldest : Int32) (kept : Int32) (rows : Nat → Option Nat) (len : Int32) (codes : Nat → Int32) (gpl : Int32) (gps : Int32) (gcl : Int32) (gwo : Int32) (x1 : Int64) {res : Int64} (hf : fX6_mixParts size plots cliffs words needs rea x1 = some res) : zMet l Δ yX6_mixParts cX6_mixParts 7 (some .long) 4 88 [.ref (ad 0), .long x1] (wX6 Δ ad reached lost size plots cliffs words needs told rea wread ltold lout sets oldest kept rows len codes gpl gps gcl gwo) (wX6 Δ ad reached lost size plots cliffs words needs told rea wread ltold lout sets oldest kept rows len codes gpl gps gcl gwo) (some (.long res)) := by
  refine z_start (by decide +kernel) (Nat.le_of_ble_eq_true rfl) ?_
  intro p e s m args below meth c A ls X Z hl
  have hl : lv_has ls 7 [(0, .ref (ad 0)), (1, .long x1)] := hl
  have L23 : ∀ (kont : Int32 → (Nat → Int32) → (Nat → Int32) → (Nat → Int32) → (Nat → Int32) → (Nat → Int32) → Int64 → Int32 → Option Int64), (∀ (size : Int32) (plots : Nat → Int32) (cliffs : Nat → Int32) (words : Nat → Int32) (needs : Nat → Int32) (rea : Nat → Int32) (v3 : Int64) (v5 : Int32), kont size plots cliffs words needs rea v3 v5 = some res → ∀ (H : Heap) (locs : List Loc) (ls : Array Slot), zW Δ A s.heap (wX6 Δ ad reached lost size plots cliffs words needs told rea wread ltold lout sets oldest kept rows len codes gpl gps gcl gwo) H locs → lv_has ls 7 [(0, .ref (ad 0)), (3, .long v3), (5, .int v5)] → W p l e { frames := 4, cells := 0, slots := 0, locals := 88 } s m args below meth c H locs 0 0 (zEnd Δ below args s 0 0 A (some (.long res)) (wX6 Δ ad reached lost size plots cliffs words needs told rea wread ltold lout sets oldest kept rows len codes gpl gps gcl gwo)) (F0 m 5 ls [])) → ∀ (k : Nat) (size : Int32) (plots : Nat → Int32) (cliffs : Nat → Int32) (words : Nat → Int32) (needs : Nat → Int32) (rea : Nat → Int32) (v3 : Int64) (v5 : Int32) (v6 : Int32), fX6_mixParts_23 kont k size plots cliffs words needs rea v3 v5 v6 = some res → ∀ (H : Heap) (locs : List Loc) (ls : Array Slot), zW Δ A s.heap (wX6 Δ ad reached lost size plots cliffs words needs told rea wread ltold lout sets oldest kept rows len codes gpl gps gcl gwo) H locs → lv_has ls 7 [(0, .ref (ad 0)), (3, .long v3), (5, .int v5), (6, .int v6)] → W p l e { frames := 4, cells := 0, slots := 0, locals := 88 } s m args below meth c H locs 0 0 (zEnd Δ below args s 0 0 A (some (.long res)) (wX6 Δ ad reached lost size plots cliffs words needs told rea wread ltold lout sets oldest kept rows len codes gpl gps gcl gwo)) (F0 m 23 ls []) := by
    intro kont hk
    intro k
    induction k with
    | zero =>
      intro size plots cliffs words needs rea v3 v5 v6 hf
      rw [fX6_mixParts_23.eq_1] at hf
      cases hf
    | succ k ih =>
      intro size plots cliffs words needs rea v3 v5 v6 hf H locs ls Z hl
      rw [fX6_mixParts_23.eq_2] at hf
      refine lv_iload X.x X.b dX6_mixParts_23 (lv_at hl 3 rfl) ?_
      refine lv_bipush (v := 6) X.x X.b dX6_mixParts_25 kb_6 ?_
      refine lv_icmp_gt (tgt := 53) X.x X.b dX6_mixParts_27 (by decide) (fun b1 => ?_) (fun b1 => ?_)
      · have hf := zif_t b1 hf
        refine lv_iinc (v := (v5 + 1)) (lv' := [(5, .int (v5 + 1)), (0, .ref (ad 0)), (3, .long v3), (6, .int v6)]) X.x X.b dX6_mixParts_53 hl (k := 2) rfl (congrArg _ ki_1) (Nat.le_of_ble_eq_true rfl) rfl (fun ls hl => ?_)
        refine lv_goto (tgt := 5) X.x X.b dX6_mixParts_56 (by decide) ?_
        exact hk size plots cliffs words needs rea v3 (v5 + 1) hf _ _ _ Z (lv_sub hl [1, 2, 0] rfl)
      · have hf := zif_f b1 hf
        refine lv_lload_n X.x X.b dX6_mixParts_30 rfl (lv_at hl 1 rfl) ?_
        refine lv_aload_n X.x X.b dX6_mixParts_31 rfl (lv_at hl 0 rfl) ?_
        refine z_gf inG_X6 (ci := 6) rfl 0 (Nat.le_of_ble_eq_true rfl) rfl X Z wd_183 0 rfl (v := .ref (ad 1)) rfl dX6_mixParts_32 ?_
        refine lv_iload X.x X.b dX6_mixParts_35 (lv_at hl 2 rfl) ?_
        refine lv_iload X.x X.b dX6_mixParts_37 (lv_at hl 3 rfl) ?_
        obtain ⟨q1, hq1, hf⟩ := zb_ok hf
        refine z_callV X Z hl (mX3_ofPart l Δ (fun j => ad (j + 1)) reached lost size plots cliffs words needs told rea wread ltold lout sets v5 v6 hq1) wd_588 wd_589 wd_590 wd_20 wd_591 ok_X3_ofPart 3 rfl 1 rfl (w' := (wX6 Δ ad reached lost size plots cliffs words needs told rea wread ltold lout sets oldest kept rows len codes gpl gps gcl gwo)) su_14 fs_14 pu_14 rfl (rest := [.long v3]) rfl (Nat.le_of_ble_eq_true rfl) ⟨Nat.le_of_ble_eq_true rfl, Nat.le_of_ble_eq_true rfl⟩ ⟨Nat.zero_le _, Nat.zero_le _⟩ (st1 := [.int q1, .long v3]) rfl dX6_mixParts_39 (fun H locs Z => ?_)
        refine lv_i2l (v := (q1 : Int32).toInt64) X.x X.b dX6_mixParts_42 rfl ?_
        obtain ⟨q2, hq2, hf⟩ := zb_ok hf
        refine z_callS X Z hl (mX6_mix l Δ  v3 ((q1 : Int32).toInt64) hq2) wd_682 wd_683 wd_19 wd_684 ok_X6_mix (w' := (wX6 Δ ad reached lost size plots cliffs words needs told rea wread ltold lout sets oldest kept rows len codes gpl gps gcl gwo)) zSub_nil rfl zput_nil rfl (rest := []) rfl (Nat.le_of_ble_eq_true rfl) ⟨Nat.le_of_ble_eq_true rfl, Nat.le_of_ble_eq_true rfl⟩ ⟨Nat.zero_le _, Nat.zero_le _⟩ (st1 := [.long q2]) rfl dX6_mixParts_43 (fun H locs Z => ?_)
        refine lv_lstore_n (lv' := [(3, .long q2), (0, .ref (ad 0)), (5, .int v5), (6, .int v6)]) X.x X.b dX6_mixParts_46 rfl hl (Nat.le_of_ble_eq_true rfl) rfl (fun ls hl => ?_)
        refine lv_iinc (v := (v6 + 1)) (lv' := [(6, .int (v6 + 1)), (3, .long q2), (0, .ref (ad 0)), (5, .int v5)]) X.x X.b dX6_mixParts_47 hl (k := 3) rfl (congrArg _ ki_1) (Nat.le_of_ble_eq_true rfl) rfl (fun ls hl => ?_)
        refine lv_goto (tgt := 23) X.x X.b dX6_mixParts_50 (by decide) ?_
        exact ih size plots cliffs words needs rea q2 v5 (v6 + 1) hf _ _ _ Z (lv_sub hl [2, 1, 3, 0] rfl)
  have L5 : ∀ (k : Nat) (size : Int32) (plots : Nat → Int32) (cliffs : Nat → Int32) (words : Nat → Int32) (needs : Nat → Int32) (rea : Nat → Int32) (v3 : Int64) (v5 : Int32), fX6_mixParts_5 k size plots cliffs words needs rea v3 v5 = some res → ∀ (H : Heap) (locs : List Loc) (ls : Array Slot), zW Δ A s.heap (wX6 Δ ad reached lost size plots cliffs words needs told rea wread ltold lout sets oldest kept rows len codes gpl gps gcl gwo) H locs → lv_has ls 7 [(0, .ref (ad 0)), (3, .long v3), (5, .int v5)] → W p l e { frames := 4, cells := 0, slots := 0, locals := 88 } s m args below meth c H locs 0 0 (zEnd Δ below args s 0 0 A (some (.long res)) (wX6 Δ ad reached lost size plots cliffs words needs told rea wread ltold lout sets oldest kept rows len codes gpl gps gcl gwo)) (F0 m 5 ls []) := by
    intro k
    induction k with
    | zero =>
      intro size plots cliffs words needs rea v3 v5 hf
      rw [fX6_mixParts_5.eq_1] at hf
      cases hf
    | succ k ih =>
      intro size plots cliffs words needs rea v3 v5 hf H locs ls Z hl
      rw [fX6_mixParts_5.eq_2] at hf
      refine lv_iload X.x X.b dX6_mixParts_5 (lv_at hl 2 rfl) ?_
      refine lv_aload_n X.x X.b dX6_mixParts_7 rfl (lv_at hl 0 rfl) ?_
      refine z_gf inG_X6 (ci := 6) rfl 0 (Nat.le_of_ble_eq_true rfl) rfl X Z wd_183 0 rfl (v := .ref (ad 1)) rfl dX6_mixParts_8 ?_
      refine z_gf inG_X3 (ci := 3) rfl 0 (Nat.le_of_ble_eq_true rfl) rfl X Z wd_106 1 rfl (v := .ref (ad 2)) rfl dX6_mixParts_11 ?_
      refine z_gf inG_X4 (ci := 4) rfl 0 (Nat.le_of_ble_eq_true rfl) rfl X Z wd_56 2 rfl (v := .int size) rfl dX6_mixParts_14 ?_
      refine lv_icmp_ge (tgt := 59) X.x X.b dX6_mixParts_17 (by decide) (fun b1 => ?_) (fun b1 => ?_)
      · have hf := zif_t b1 hf
        refine lv_lload_n X.x X.b dX6_mixParts_59 rfl (lv_at hl 1 rfl) ?_
        cases hf
        exact z_lret X Z dX6_mixParts_60
      · have hf := zif_f b1 hf
        refine lv_iconst (v := 0) X.x X.b dX6_mixParts_20 ki_0 ?_
        refine lv_istore (lv' := [(6, .int 0), (0, .ref (ad 0)), (3, .long v3), (5, .int v5)]) X.x X.b dX6_mixParts_21 hl (Nat.le_of_ble_eq_true rfl) rfl (fun ls hl => ?_)
        exact L23 (fX6_mixParts_5 k) ih zfuel size plots cliffs words needs rea v3 v5 0 hf _ _ _ Z (lv_sub hl [1, 2, 3, 0] rfl)
  rw [fX6_mixParts.eq_1] at hf
  refine lv_lload_n X.x X.b dX6_mixParts_0 rfl (lv_at hl 1 rfl) ?_
  refine lv_lstore_n (lv' := [(3, .long x1), (0, .ref (ad 0)), (1, .long x1)]) X.x X.b dX6_mixParts_1 rfl hl (Nat.le_of_ble_eq_true rfl) rfl (fun ls hl => ?_)
  refine lv_iconst (v := 0) X.x X.b dX6_mixParts_2 ki_0 ?_
  refine lv_istore (lv' := [(5, .int 0), (3, .long x1), (0, .ref (ad 0)), (1, .long x1)]) X.x X.b dX6_mixParts_3 hl (Nat.le_of_ble_eq_true rfl) rfl (fun ls hl => ?_)
  exact L5 zfuel size plots cliffs words needs rea x1 0 hf _ _ _ Z (lv_sub hl [2, 1, 0] rfl)
set_option maxRecDepth 100000 in
set_option maxHeartbeats 4000000 in
theorem mX6_mixReader (l : Launch) (Δ : zE) (ad : Nat → Nat) (reached : Int32) (lost : Int32) (size : Int32) (plots : Nat → Int32) (cliffs : Nat → Int32) (words : Nat → Int32) (needs : Nat → Int32) (told : Nat → Int32) (rea : Nat → Int32) (wread : Nat → Int32) (ltold : Nat → Int32) (lout : Nat → Int32) (sets : Nat → Int32) (oldest : Int32) (kept : Int32) (rows : Nat → Option Nat) (len : Int32) (codes : Nat → Int32) (gpl : Int32) (gps : Int32) (gcl : Int32) (gwo : Int32) (x1 : Int64) (x3 : Int32) {res : Int64} (hf : fX6_mixReader size plots cliffs words needs told rea wread ltold lout sets x1 x3 = some res) : zMet l Δ yX6_mixReader cX6_mixReader 7 (some .long) 5 120 [.ref (ad 0), .long x1, .int x3] (wX6 Δ ad reached lost size plots cliffs words needs told rea wread ltold lout sets oldest kept rows len codes gpl gps gcl gwo) (wX6 Δ ad reached lost size plots cliffs words needs told rea wread ltold lout sets oldest kept rows len codes gpl gps gcl gwo) (some (.long res)) := by
  refine z_start (by decide +kernel) (Nat.le_of_ble_eq_true rfl) ?_
  intro p e s m args below meth c A ls X Z hl
  have hl : lv_has ls 7 [(0, .ref (ad 0)), (1, .long x1), (3, .int x3)] := hl
  have L130 : ∀ (k : Nat) (size : Int32) (plots : Nat → Int32) (cliffs : Nat → Int32) (words : Nat → Int32) (needs : Nat → Int32) (told : Nat → Int32) (rea : Nat → Int32) (wread : Nat → Int32) (ltold : Nat → Int32) (lout : Nat → Int32) (sets : Nat → Int32) (v3 : Int32) (v4 : Int64) (v6 : Int32), fX6_mixReader_130 k size plots cliffs words needs told rea wread ltold lout sets v3 v4 v6 = some res → ∀ (H : Heap) (locs : List Loc) (ls : Array Slot), zW Δ A s.heap (wX6 Δ ad reached lost size plots cliffs words needs told rea wread ltold lout sets oldest kept rows len codes gpl gps gcl gwo) H locs → lv_has ls 7 [(0, .ref (ad 0)), (3, .int v3), (4, .long v4), (6, .int v6)] → W p l e { frames := 5, cells := 0, slots := 0, locals := 120 } s m args below meth c H locs 0 0 (zEnd Δ below args s 0 0 A (some (.long res)) (wX6 Δ ad reached lost size plots cliffs words needs told rea wread ltold lout sets oldest kept rows len codes gpl gps gcl gwo)) (F0 m 130 ls []) := by
    intro k
    induction k with
    | zero =>
      intro size plots cliffs words needs told rea wread ltold lout sets v3 v4 v6 hf
      rw [fX6_mixReader_130.eq_1] at hf
      cases hf
    | succ k ih =>
      intro size plots cliffs words needs told rea wread ltold lout sets v3 v4 v6 hf H locs ls Z hl
      rw [fX6_mixReader_130.eq_2] at hf
      refine lv_iload X.x X.b dX6_mixReader_130 (lv_at hl 3 rfl) ?_
      refine lv_iconst (v := 4) X.x X.b dX6_mixReader_132 ki_4 ?_
      refine lv_icmp_gt (tgt := 172) X.x X.b dX6_mixReader_133 (by decide) (fun b1 => ?_) (fun b1 => ?_)
      · have hf := zif_t b1 hf
        refine lv_lload X.x X.b dX6_mixReader_172 (lv_at hl 2 rfl) ?_
        cases hf
        exact z_lret X Z dX6_mixReader_174
      · have hf := zif_f b1 hf
        refine lv_lload X.x X.b dX6_mixReader_136 (lv_at hl 2 rfl) ?_
        refine lv_aload_n X.x X.b dX6_mixReader_138 rfl (lv_at hl 0 rfl) ?_
        refine z_gf inG_X6 (ci := 6) rfl 0 (Nat.le_of_ble_eq_true rfl) rfl X Z wd_183 0 rfl (v := .ref (ad 1)) rfl dX6_mixReader_139 ?_
        refine lv_iload_n X.x X.b dX6_mixReader_142 rfl (lv_at hl 1 rfl) ?_
        refine lv_aload_n X.x X.b dX6_mixReader_143 rfl (lv_at hl 0 rfl) ?_
        refine z_gf inG_X6 (ci := 6) rfl 0 (Nat.le_of_ble_eq_true rfl) rfl X Z wd_183 0 rfl (v := .ref (ad 1)) rfl dX6_mixReader_144 ?_
        refine z_gf inG_X3 (ci := 3) rfl 0 (Nat.le_of_ble_eq_true rfl) rfl X Z wd_106 1 rfl (v := .ref (ad 2)) rfl dX6_mixReader_147 ?_
        refine z_gf inG_X4 (ci := 4) rfl 0 (Nat.le_of_ble_eq_true rfl) rfl X Z wd_56 2 rfl (v := .int size) rfl dX6_mixReader_150 ?_
        refine lv_iconst (v := 1) X.x X.b dX6_mixReader_153 ki_1 ?_
        refine lv_isub X.x X.b dX6_mixReader_154 ?_
        refine lv_iload X.x X.b dX6_mixReader_155 (lv_at hl 3 rfl) ?_
        obtain ⟨q1, hq1, hf⟩ := zb_ok hf
        refine z_callV X Z hl (mX3_ofRecap l Δ (fun j => ad (j + 1)) reached lost size plots cliffs words needs told rea wread ltold lout sets v3 (size - 1) v6 hq1) wd_650 wd_651 wd_652 wd_20 wd_653 ok_X3_ofRecap 3 rfl 1 rfl (w' := (wX6 Δ ad reached lost size plots cliffs words needs told rea wread ltold lout sets oldest kept rows len codes gpl gps gcl gwo)) su_14 fs_14 pu_14 rfl (rest := [.long v4]) rfl (Nat.le_of_ble_eq_true rfl) ⟨Nat.le_of_ble_eq_true rfl, Nat.le_of_ble_eq_true rfl⟩ ⟨Nat.zero_le _, Nat.zero_le _⟩ (st1 := [.int q1, .long v4]) rfl dX6_mixReader_157 (fun H locs Z => ?_)
        refine lv_i2l (v := (q1 : Int32).toInt64) X.x X.b dX6_mixReader_160 rfl ?_
        obtain ⟨q2, hq2, hf⟩ := zb_ok hf
        refine z_callS X Z hl (mX6_mix l Δ  v4 ((q1 : Int32).toInt64) hq2) wd_682 wd_683 wd_19 wd_684 ok_X6_mix (w' := (wX6 Δ ad reached lost size plots cliffs words needs told rea wread ltold lout sets oldest kept rows len codes gpl gps gcl gwo)) zSub_nil rfl zput_nil rfl (rest := []) rfl (Nat.le_of_ble_eq_true rfl) ⟨Nat.le_of_ble_eq_true rfl, Nat.le_of_ble_eq_true rfl⟩ ⟨Nat.zero_le _, Nat.zero_le _⟩ (st1 := [.long q2]) rfl dX6_mixReader_161 (fun H locs Z => ?_)
        refine lv_lstore (lv' := [(4, .long q2), (0, .ref (ad 0)), (3, .int v3), (6, .int v6)]) X.x X.b dX6_mixReader_164 hl (Nat.le_of_ble_eq_true rfl) rfl (fun ls hl => ?_)
        refine lv_iinc (v := (v6 + 1)) (lv' := [(6, .int (v6 + 1)), (4, .long q2), (0, .ref (ad 0)), (3, .int v3)]) X.x X.b dX6_mixReader_166 hl (k := 3) rfl (congrArg _ ki_1) (Nat.le_of_ble_eq_true rfl) rfl (fun ls hl => ?_)
        refine lv_goto (tgt := 130) X.x X.b dX6_mixReader_169 (by decide) ?_
        exact ih size plots cliffs words needs told rea wread ltold lout sets v3 q2 (v6 + 1) hf _ _ _ Z (lv_sub hl [2, 3, 1, 0] rfl)
  have L51 : ∀ (k : Nat) (size : Int32) (plots : Nat → Int32) (cliffs : Nat → Int32) (words : Nat → Int32) (needs : Nat → Int32) (told : Nat → Int32) (rea : Nat → Int32) (wread : Nat → Int32) (ltold : Nat → Int32) (lout : Nat → Int32) (sets : Nat → Int32) (v3 : Int32) (v4 : Int64) (v6 : Int32), fX6_mixReader_51 k size plots cliffs words needs told rea wread ltold lout sets v3 v4 v6 = some res → ∀ (H : Heap) (locs : List Loc) (ls : Array Slot), zW Δ A s.heap (wX6 Δ ad reached lost size plots cliffs words needs told rea wread ltold lout sets oldest kept rows len codes gpl gps gcl gwo) H locs → lv_has ls 7 [(0, .ref (ad 0)), (3, .int v3), (4, .long v4), (6, .int v6)] → W p l e { frames := 5, cells := 0, slots := 0, locals := 120 } s m args below meth c H locs 0 0 (zEnd Δ below args s 0 0 A (some (.long res)) (wX6 Δ ad reached lost size plots cliffs words needs told rea wread ltold lout sets oldest kept rows len codes gpl gps gcl gwo)) (F0 m 51 ls []) := by
    intro k
    induction k with
    | zero =>
      intro size plots cliffs words needs told rea wread ltold lout sets v3 v4 v6 hf
      rw [fX6_mixReader_51.eq_1] at hf
      cases hf
    | succ k ih =>
      intro size plots cliffs words needs told rea wread ltold lout sets v3 v4 v6 hf H locs ls Z hl
      rw [fX6_mixReader_51.eq_2] at hf
      refine lv_iload X.x X.b dX6_mixReader_51 (lv_at hl 3 rfl) ?_
      refine lv_bipush (v := 6) X.x X.b dX6_mixReader_53 kb_6 ?_
      refine lv_icmp_gt (tgt := 82) X.x X.b dX6_mixReader_55 (by decide) (fun b1 => ?_) (fun b1 => ?_)
      · have hf := zif_t b1 hf
        refine lv_lload X.x X.b dX6_mixReader_82 (lv_at hl 2 rfl) ?_
        refine lv_aload_n X.x X.b dX6_mixReader_84 rfl (lv_at hl 0 rfl) ?_
        refine z_gf inG_X6 (ci := 6) rfl 0 (Nat.le_of_ble_eq_true rfl) rfl X Z wd_183 0 rfl (v := .ref (ad 1)) rfl dX6_mixReader_85 ?_
        refine lv_iload_n X.x X.b dX6_mixReader_88 rfl (lv_at hl 1 rfl) ?_
        obtain ⟨q1, hq1, hf⟩ := zb_ok hf
        refine z_callV X Z hl (mX3_bestPart l Δ (fun j => ad (j + 1)) reached lost size plots cliffs words needs told rea wread ltold lout sets v3 hq1) wd_658 wd_659 wd_660 wd_20 wd_661 ok_X3_bestPart 3 rfl 1 rfl (w' := (wX6 Δ ad reached lost size plots cliffs words needs told rea wread ltold lout sets oldest kept rows len codes gpl gps gcl gwo)) su_14 fs_14 pu_14 rfl (rest := [.long v4]) rfl (Nat.le_of_ble_eq_true rfl) ⟨Nat.le_of_ble_eq_true rfl, Nat.le_of_ble_eq_true rfl⟩ ⟨Nat.zero_le _, Nat.zero_le _⟩ (st1 := [.int q1, .long v4]) rfl dX6_mixReader_89 (fun H locs Z => ?_)
        refine lv_i2l (v := (q1 : Int32).toInt64) X.x X.b dX6_mixReader_92 rfl ?_
        obtain ⟨q2, hq2, hf⟩ := zb_ok hf
        refine z_callS X Z hl (mX6_mix l Δ  v4 ((q1 : Int32).toInt64) hq2) wd_682 wd_683 wd_19 wd_684 ok_X6_mix (w' := (wX6 Δ ad reached lost size plots cliffs words needs told rea wread ltold lout sets oldest kept rows len codes gpl gps gcl gwo)) zSub_nil rfl zput_nil rfl (rest := []) rfl (Nat.le_of_ble_eq_true rfl) ⟨Nat.le_of_ble_eq_true rfl, Nat.le_of_ble_eq_true rfl⟩ ⟨Nat.zero_le _, Nat.zero_le _⟩ (st1 := [.long q2]) rfl dX6_mixReader_93 (fun H locs Z => ?_)
        refine lv_lstore (lv' := [(4, .long q2), (0, .ref (ad 0)), (3, .int v3), (6, .int v6)]) X.x X.b dX6_mixReader_96 hl (Nat.le_of_ble_eq_true rfl) rfl (fun ls hl => ?_)
        refine lv_lload X.x X.b dX6_mixReader_98 (lv_at hl 0 rfl) ?_
        refine lv_aload_n X.x X.b dX6_mixReader_100 rfl (lv_at hl 1 rfl) ?_
        refine z_gf inG_X6 (ci := 6) rfl 0 (Nat.le_of_ble_eq_true rfl) rfl X Z wd_183 0 rfl (v := .ref (ad 1)) rfl dX6_mixReader_101 ?_
        refine lv_iload_n X.x X.b dX6_mixReader_104 rfl (lv_at hl 2 rfl) ?_
        obtain ⟨q3, hq3, hf⟩ := zb_ok hf
        refine z_callV X Z hl (mX3_linesForAll l Δ (fun j => ad (j + 1)) reached lost size plots cliffs words needs told rea wread ltold lout sets v3 hq3) wd_667 wd_668 wd_669 wd_20 wd_670 ok_X3_linesForAll 3 rfl 1 rfl (w' := (wX6 Δ ad reached lost size plots cliffs words needs told rea wread ltold lout sets oldest kept rows len codes gpl gps gcl gwo)) su_14 fs_14 pu_14 rfl (rest := [.long q2]) rfl (Nat.le_of_ble_eq_true rfl) ⟨Nat.le_of_ble_eq_true rfl, Nat.le_of_ble_eq_true rfl⟩ ⟨Nat.zero_le _, Nat.zero_le _⟩ (st1 := [.int q3, .long q2]) rfl dX6_mixReader_105 (fun H locs Z => ?_)
        refine lv_i2l (v := (q3 : Int32).toInt64) X.x X.b dX6_mixReader_108 rfl ?_
        obtain ⟨q4, hq4, hf⟩ := zb_ok hf
        refine z_callS X Z hl (mX6_mix l Δ  q2 ((q3 : Int32).toInt64) hq4) wd_682 wd_683 wd_19 wd_684 ok_X6_mix (w' := (wX6 Δ ad reached lost size plots cliffs words needs told rea wread ltold lout sets oldest kept rows len codes gpl gps gcl gwo)) zSub_nil rfl zput_nil rfl (rest := []) rfl (Nat.le_of_ble_eq_true rfl) ⟨Nat.le_of_ble_eq_true rfl, Nat.le_of_ble_eq_true rfl⟩ ⟨Nat.zero_le _, Nat.zero_le _⟩ (st1 := [.long q4]) rfl dX6_mixReader_109 (fun H locs Z => ?_)
        refine lv_lstore (lv' := [(4, .long q4), (0, .ref (ad 0)), (3, .int v3), (6, .int v6)]) X.x X.b dX6_mixReader_112 hl (Nat.le_of_ble_eq_true rfl) rfl (fun ls hl => ?_)
        refine lv_aload_n X.x X.b dX6_mixReader_114 rfl (lv_at hl 1 rfl) ?_
        refine z_gf inG_X6 (ci := 6) rfl 0 (Nat.le_of_ble_eq_true rfl) rfl X Z wd_183 0 rfl (v := .ref (ad 1)) rfl dX6_mixReader_115 ?_
        refine z_gf inG_X3 (ci := 3) rfl 0 (Nat.le_of_ble_eq_true rfl) rfl X Z wd_106 1 rfl (v := .ref (ad 2)) rfl dX6_mixReader_118 ?_
        refine z_gf inG_X4 (ci := 4) rfl 0 (Nat.le_of_ble_eq_true rfl) rfl X Z wd_56 2 rfl (v := .int size) rfl dX6_mixReader_121 ?_
        refine lv_if_le (tgt := 172) X.x X.b dX6_mixReader_124 (by decide) (fun b2 => ?_) (fun b2 => ?_)
        · have hf := zif_t b2 hf
          refine lv_lload X.x X.b dX6_mixReader_172 (lv_at hl 0 rfl) ?_
          cases hf
          exact z_lret X Z dX6_mixReader_174
        · have hf := zif_f b2 hf
          refine lv_iconst (v := 0) X.x X.b dX6_mixReader_127 ki_0 ?_
          refine lv_istore (lv' := [(6, .int 0), (4, .long q4), (0, .ref (ad 0)), (3, .int v3)]) X.x X.b dX6_mixReader_128 hl (Nat.le_of_ble_eq_true rfl) rfl (fun ls hl => ?_)
          exact L130 zfuel size plots cliffs words needs told rea wread ltold lout sets v3 q4 0 hf _ _ _ Z (lv_sub hl [2, 3, 1, 0] rfl)
      · have hf := zif_f b1 hf
        refine lv_lload X.x X.b dX6_mixReader_58 (lv_at hl 2 rfl) ?_
        refine lv_aload_n X.x X.b dX6_mixReader_60 rfl (lv_at hl 0 rfl) ?_
        refine z_gf inG_X6 (ci := 6) rfl 0 (Nat.le_of_ble_eq_true rfl) rfl X Z wd_183 0 rfl (v := .ref (ad 1)) rfl dX6_mixReader_61 ?_
        refine lv_iload_n X.x X.b dX6_mixReader_64 rfl (lv_at hl 1 rfl) ?_
        refine lv_iload X.x X.b dX6_mixReader_65 (lv_at hl 3 rfl) ?_
        obtain ⟨q5, hq5, hf⟩ := zb_ok hf
        refine z_callV X Z hl (mX3_ofReader l Δ (fun j => ad (j + 1)) reached lost size plots cliffs words needs told rea wread ltold lout sets v3 v6 hq5) wd_609 wd_610 wd_611 wd_20 wd_612 ok_X3_ofReader 3 rfl 1 rfl (w' := (wX6 Δ ad reached lost size plots cliffs words needs told rea wread ltold lout sets oldest kept rows len codes gpl gps gcl gwo)) su_14 fs_14 pu_14 rfl (rest := [.long v4]) rfl (Nat.le_of_ble_eq_true rfl) ⟨Nat.le_of_ble_eq_true rfl, Nat.le_of_ble_eq_true rfl⟩ ⟨Nat.zero_le _, Nat.zero_le _⟩ (st1 := [.int q5, .long v4]) rfl dX6_mixReader_67 (fun H locs Z => ?_)
        refine lv_i2l (v := (q5 : Int32).toInt64) X.x X.b dX6_mixReader_70 rfl ?_
        obtain ⟨q6, hq6, hf⟩ := zb_ok hf
        refine z_callS X Z hl (mX6_mix l Δ  v4 ((q5 : Int32).toInt64) hq6) wd_682 wd_683 wd_19 wd_684 ok_X6_mix (w' := (wX6 Δ ad reached lost size plots cliffs words needs told rea wread ltold lout sets oldest kept rows len codes gpl gps gcl gwo)) zSub_nil rfl zput_nil rfl (rest := []) rfl (Nat.le_of_ble_eq_true rfl) ⟨Nat.le_of_ble_eq_true rfl, Nat.le_of_ble_eq_true rfl⟩ ⟨Nat.zero_le _, Nat.zero_le _⟩ (st1 := [.long q6]) rfl dX6_mixReader_71 (fun H locs Z => ?_)
        refine lv_lstore (lv' := [(4, .long q6), (0, .ref (ad 0)), (3, .int v3), (6, .int v6)]) X.x X.b dX6_mixReader_74 hl (Nat.le_of_ble_eq_true rfl) rfl (fun ls hl => ?_)
        refine lv_iinc (v := (v6 + 1)) (lv' := [(6, .int (v6 + 1)), (4, .long q6), (0, .ref (ad 0)), (3, .int v3)]) X.x X.b dX6_mixReader_76 hl (k := 3) rfl (congrArg _ ki_1) (Nat.le_of_ble_eq_true rfl) rfl (fun ls hl => ?_)
        refine lv_goto (tgt := 51) X.x X.b dX6_mixReader_79 (by decide) ?_
        exact ih size plots cliffs words needs told rea wread ltold lout sets v3 q6 (v6 + 1) hf _ _ _ Z (lv_sub hl [2, 3, 1, 0] rfl)
  have L6 : ∀ (k : Nat) (size : Int32) (plots : Nat → Int32) (cliffs : Nat → Int32) (words : Nat → Int32) (needs : Nat → Int32) (told : Nat → Int32) (rea : Nat → Int32) (wread : Nat → Int32) (ltold : Nat → Int32) (lout : Nat → Int32) (sets : Nat → Int32) (v3 : Int32) (v4 : Int64) (v6 : Int32), fX6_mixReader_6 k size plots cliffs words needs told rea wread ltold lout sets v3 v4 v6 = some res → ∀ (H : Heap) (locs : List Loc) (ls : Array Slot), zW Δ A s.heap (wX6 Δ ad reached lost size plots cliffs words needs told rea wread ltold lout sets oldest kept rows len codes gpl gps gcl gwo) H locs → lv_has ls 7 [(0, .ref (ad 0)), (3, .int v3), (4, .long v4), (6, .int v6)] → W p l e { frames := 5, cells := 0, slots := 0, locals := 120 } s m args below meth c H locs 0 0 (zEnd Δ below args s 0 0 A (some (.long res)) (wX6 Δ ad reached lost size plots cliffs words needs told rea wread ltold lout sets oldest kept rows len codes gpl gps gcl gwo)) (F0 m 6 ls []) := by
    intro k
    induction k with
    | zero =>
      intro size plots cliffs words needs told rea wread ltold lout sets v3 v4 v6 hf
      rw [fX6_mixReader_6.eq_1] at hf
      cases hf
    | succ k ih =>
      intro size plots cliffs words needs told rea wread ltold lout sets v3 v4 v6 hf H locs ls Z hl
      rw [fX6_mixReader_6.eq_2] at hf
      refine lv_iload X.x X.b dX6_mixReader_6 (lv_at hl 3 rfl) ?_
      refine lv_aload_n X.x X.b dX6_mixReader_8 rfl (lv_at hl 0 rfl) ?_
      refine z_gf inG_X6 (ci := 6) rfl 0 (Nat.le_of_ble_eq_true rfl) rfl X Z wd_183 0 rfl (v := .ref (ad 1)) rfl dX6_mixReader_9 ?_
      refine z_gf inG_X3 (ci := 3) rfl 0 (Nat.le_of_ble_eq_true rfl) rfl X Z wd_106 1 rfl (v := .ref (ad 2)) rfl dX6_mixReader_12 ?_
      refine z_gf inG_X4 (ci := 4) rfl 0 (Nat.le_of_ble_eq_true rfl) rfl X Z wd_56 2 rfl (v := .int size) rfl dX6_mixReader_15 ?_
      refine lv_icmp_ge (tgt := 48) X.x X.b dX6_mixReader_18 (by decide) (fun b1 => ?_) (fun b1 => ?_)
      · have hf := zif_t b1 hf
        refine lv_iconst (v := 0) X.x X.b dX6_mixReader_48 ki_0 ?_
        refine lv_istore (lv' := [(6, .int 0), (0, .ref (ad 0)), (3, .int v3), (4, .long v4)]) X.x X.b dX6_mixReader_49 hl (Nat.le_of_ble_eq_true rfl) rfl (fun ls hl => ?_)
        exact L51 zfuel size plots cliffs words needs told rea wread ltold lout sets v3 v4 0 hf _ _ _ Z (lv_sub hl [1, 2, 3, 0] rfl)
      · have hf := zif_f b1 hf
        refine lv_lload X.x X.b dX6_mixReader_21 (lv_at hl 2 rfl) ?_
        refine lv_aload_n X.x X.b dX6_mixReader_23 rfl (lv_at hl 0 rfl) ?_
        refine z_gf inG_X6 (ci := 6) rfl 0 (Nat.le_of_ble_eq_true rfl) rfl X Z wd_183 0 rfl (v := .ref (ad 1)) rfl dX6_mixReader_24 ?_
        refine z_gf inG_X3 (ci := 3) rfl 1 (Nat.le_of_ble_eq_true rfl) rfl X Z wd_108 1 rfl (v := .ref (ad 7)) rfl dX6_mixReader_27 ?_
        refine lv_iload_n X.x X.b dX6_mixReader_30 rfl (lv_at hl 1 rfl) ?_
        refine lv_iload X.x X.b dX6_mixReader_31 (lv_at hl 3 rfl) ?_
        obtain ⟨q1, hq1, hf⟩ := zb_ok hf
        refine z_callV X Z hl (mX0_knowledge l Δ (fun j => ad (j + 7)) told rea wread ltold lout v3 v6 hq1) wd_601 wd_602 wd_603 wd_22 wd_604 ok_X0_knowledge 0 rfl 7 rfl (w' := (wX6 Δ ad reached lost size plots cliffs words needs told rea wread ltold lout sets oldest kept rows len codes gpl gps gcl gwo)) su_15 fs_15 pu_15 rfl (rest := [.long v4]) rfl (Nat.le_of_ble_eq_true rfl) ⟨Nat.le_of_ble_eq_true rfl, Nat.le_of_ble_eq_true rfl⟩ ⟨Nat.zero_le _, Nat.zero_le _⟩ (st1 := [.int q1, .long v4]) rfl dX6_mixReader_33 (fun H locs Z => ?_)
        refine lv_i2l (v := (q1 : Int32).toInt64) X.x X.b dX6_mixReader_36 rfl ?_
        obtain ⟨q2, hq2, hf⟩ := zb_ok hf
        refine z_callS X Z hl (mX6_mix l Δ  v4 ((q1 : Int32).toInt64) hq2) wd_682 wd_683 wd_19 wd_684 ok_X6_mix (w' := (wX6 Δ ad reached lost size plots cliffs words needs told rea wread ltold lout sets oldest kept rows len codes gpl gps gcl gwo)) zSub_nil rfl zput_nil rfl (rest := []) rfl (Nat.le_of_ble_eq_true rfl) ⟨Nat.le_of_ble_eq_true rfl, Nat.le_of_ble_eq_true rfl⟩ ⟨Nat.zero_le _, Nat.zero_le _⟩ (st1 := [.long q2]) rfl dX6_mixReader_37 (fun H locs Z => ?_)
        refine lv_lstore (lv' := [(4, .long q2), (0, .ref (ad 0)), (3, .int v3), (6, .int v6)]) X.x X.b dX6_mixReader_40 hl (Nat.le_of_ble_eq_true rfl) rfl (fun ls hl => ?_)
        refine lv_iinc (v := (v6 + 1)) (lv' := [(6, .int (v6 + 1)), (4, .long q2), (0, .ref (ad 0)), (3, .int v3)]) X.x X.b dX6_mixReader_42 hl (k := 3) rfl (congrArg _ ki_1) (Nat.le_of_ble_eq_true rfl) rfl (fun ls hl => ?_)
        refine lv_goto (tgt := 6) X.x X.b dX6_mixReader_45 (by decide) ?_
        exact ih size plots cliffs words needs told rea wread ltold lout sets v3 q2 (v6 + 1) hf _ _ _ Z (lv_sub hl [2, 3, 1, 0] rfl)
  rw [fX6_mixReader.eq_1] at hf
  refine lv_lload_n X.x X.b dX6_mixReader_0 rfl (lv_at hl 1 rfl) ?_
  refine lv_lstore (lv' := [(4, .long x1), (0, .ref (ad 0)), (1, .long x1), (3, .int x3)]) X.x X.b dX6_mixReader_1 hl (Nat.le_of_ble_eq_true rfl) rfl (fun ls hl => ?_)
  refine lv_iconst (v := 0) X.x X.b dX6_mixReader_3 ki_0 ?_
  refine lv_istore (lv' := [(6, .int 0), (4, .long x1), (0, .ref (ad 0)), (1, .long x1), (3, .int x3)]) X.x X.b dX6_mixReader_4 hl (Nat.le_of_ble_eq_true rfl) rfl (fun ls hl => ?_)
  exact L6 zfuel size plots cliffs words needs told rea wread ltold lout sets x3 x1 0 hf _ _ _ Z (lv_sub hl [2, 4, 1, 0] rfl)
set_option maxRecDepth 100000 in
set_option maxHeartbeats 4000000 in
theorem mX6_mixPlots (l : Launch) (Δ : zE) (ad : Nat → Nat) (reached : Int32) (lost : Int32) (size : Int32) (plots : Nat → Int32) (cliffs : Nat → Int32) (words : Nat → Int32) (needs : Nat → Int32) (told : Nat → Int32) (rea : Nat → Int32) (wread : Nat → Int32) (ltold : Nat → Int32) (lout : Nat → Int32) (sets : Nat → Int32) (oldest : Int32) (kept : Int32) (rows : Nat → Option Nat) (len : Int32) (codes : Nat → Int32) (gpl : Int32) (gps : Int32) (gcl : Int32) (gwo : Int32) (x1 : Int64) {res : Int64} (hf : fX6_mixPlots size plots cliffs told rea x1 = some res) : zMet l Δ yX6_mixPlots cX6_mixPlots 7 (some .long) 4 90 [.ref (ad 0), .long x1] (wX6 Δ ad reached lost size plots cliffs words needs told rea wread ltold lout sets oldest kept rows len codes gpl gps gcl gwo) (wX6 Δ ad reached lost size plots cliffs words needs told rea wread ltold lout sets oldest kept rows len codes gpl gps gcl gwo) (some (.long res)) := by
  refine z_start (by decide +kernel) (Nat.le_of_ble_eq_true rfl) ?_
  intro p e s m args below meth c A ls X Z hl
  have hl : lv_has ls 7 [(0, .ref (ad 0)), (1, .long x1)] := hl
  have L15 : ∀ (kont : Int32 → (Nat → Int32) → (Nat → Int32) → (Nat → Int32) → (Nat → Int32) → Int64 → Int32 → Option Int64), (∀ (size : Int32) (plots : Nat → Int32) (cliffs : Nat → Int32) (told : Nat → Int32) (rea : Nat → Int32) (v3 : Int64) (v5 : Int32), kont size plots cliffs told rea v3 v5 = some res → ∀ (H : Heap) (locs : List Loc) (ls : Array Slot), zW Δ A s.heap (wX6 Δ ad reached lost size plots cliffs words needs told rea wread ltold lout sets oldest kept rows len codes gpl gps gcl gwo) H locs → lv_has ls 7 [(0, .ref (ad 0)), (3, .long v3), (5, .int v5)] → W p l e { frames := 4, cells := 0, slots := 0, locals := 90 } s m args below meth c H locs 0 0 (zEnd Δ below args s 0 0 A (some (.long res)) (wX6 Δ ad reached lost size plots cliffs words needs told rea wread ltold lout sets oldest kept rows len codes gpl gps gcl gwo)) (F0 m 5 ls [])) → ∀ (k : Nat) (size : Int32) (plots : Nat → Int32) (cliffs : Nat → Int32) (told : Nat → Int32) (rea : Nat → Int32) (v3 : Int64) (v5 : Int32) (v6 : Int32), fX6_mixPlots_15 kont k size plots cliffs told rea v3 v5 v6 = some res → ∀ (H : Heap) (locs : List Loc) (ls : Array Slot), zW Δ A s.heap (wX6 Δ ad reached lost size plots cliffs words needs told rea wread ltold lout sets oldest kept rows len codes gpl gps gcl gwo) H locs → lv_has ls 7 [(0, .ref (ad 0)), (3, .long v3), (5, .int v5), (6, .int v6)] → W p l e { frames := 4, cells := 0, slots := 0, locals := 90 } s m args below meth c H locs 0 0 (zEnd Δ below args s 0 0 A (some (.long res)) (wX6 Δ ad reached lost size plots cliffs words needs told rea wread ltold lout sets oldest kept rows len codes gpl gps gcl gwo)) (F0 m 15 ls []) := by
    intro kont hk
    intro k
    induction k with
    | zero =>
      intro size plots cliffs told rea v3 v5 v6 hf
      rw [fX6_mixPlots_15.eq_1] at hf
      cases hf
    | succ k ih =>
      intro size plots cliffs told rea v3 v5 v6 hf H locs ls Z hl
      rw [fX6_mixPlots_15.eq_2] at hf
      refine lv_iload X.x X.b dX6_mixPlots_15 (lv_at hl 3 rfl) ?_
      refine lv_iconst (v := 3) X.x X.b dX6_mixPlots_17 ki_3 ?_
      refine lv_icmp_gt (tgt := 44) X.x X.b dX6_mixPlots_18 (by decide) (fun b1 => ?_) (fun b1 => ?_)
      · have hf := zif_t b1 hf
        refine lv_iinc (v := (v5 + 1)) (lv' := [(5, .int (v5 + 1)), (0, .ref (ad 0)), (3, .long v3), (6, .int v6)]) X.x X.b dX6_mixPlots_44 hl (k := 2) rfl (congrArg _ ki_1) (Nat.le_of_ble_eq_true rfl) rfl (fun ls hl => ?_)
        refine lv_goto (tgt := 5) X.x X.b dX6_mixPlots_47 (by decide) ?_
        exact hk size plots cliffs told rea v3 (v5 + 1) hf _ _ _ Z (lv_sub hl [1, 2, 0] rfl)
      · have hf := zif_f b1 hf
        refine lv_lload_n X.x X.b dX6_mixPlots_21 rfl (lv_at hl 1 rfl) ?_
        refine lv_aload_n X.x X.b dX6_mixPlots_22 rfl (lv_at hl 0 rfl) ?_
        refine z_gf inG_X6 (ci := 6) rfl 0 (Nat.le_of_ble_eq_true rfl) rfl X Z wd_183 0 rfl (v := .ref (ad 1)) rfl dX6_mixPlots_23 ?_
        refine lv_iload X.x X.b dX6_mixPlots_26 (lv_at hl 2 rfl) ?_
        refine lv_iload X.x X.b dX6_mixPlots_28 (lv_at hl 3 rfl) ?_
        obtain ⟨q1, hq1, hf⟩ := zb_ok hf
        refine z_callV X Z hl (mX3_ofPlot l Δ (fun j => ad (j + 1)) reached lost size plots cliffs words needs told rea wread ltold lout sets v5 v6 hq1) wd_622 wd_623 wd_624 wd_20 wd_625 ok_X3_ofPlot 3 rfl 1 rfl (w' := (wX6 Δ ad reached lost size plots cliffs words needs told rea wread ltold lout sets oldest kept rows len codes gpl gps gcl gwo)) su_14 fs_14 pu_14 rfl (rest := [.long v3]) rfl (Nat.le_of_ble_eq_true rfl) ⟨Nat.le_of_ble_eq_true rfl, Nat.le_of_ble_eq_true rfl⟩ ⟨Nat.zero_le _, Nat.zero_le _⟩ (st1 := [.int q1, .long v3]) rfl dX6_mixPlots_30 (fun H locs Z => ?_)
        refine lv_i2l (v := (q1 : Int32).toInt64) X.x X.b dX6_mixPlots_33 rfl ?_
        obtain ⟨q2, hq2, hf⟩ := zb_ok hf
        refine z_callS X Z hl (mX6_mix l Δ  v3 ((q1 : Int32).toInt64) hq2) wd_682 wd_683 wd_19 wd_684 ok_X6_mix (w' := (wX6 Δ ad reached lost size plots cliffs words needs told rea wread ltold lout sets oldest kept rows len codes gpl gps gcl gwo)) zSub_nil rfl zput_nil rfl (rest := []) rfl (Nat.le_of_ble_eq_true rfl) ⟨Nat.le_of_ble_eq_true rfl, Nat.le_of_ble_eq_true rfl⟩ ⟨Nat.zero_le _, Nat.zero_le _⟩ (st1 := [.long q2]) rfl dX6_mixPlots_34 (fun H locs Z => ?_)
        refine lv_lstore_n (lv' := [(3, .long q2), (0, .ref (ad 0)), (5, .int v5), (6, .int v6)]) X.x X.b dX6_mixPlots_37 rfl hl (Nat.le_of_ble_eq_true rfl) rfl (fun ls hl => ?_)
        refine lv_iinc (v := (v6 + 1)) (lv' := [(6, .int (v6 + 1)), (3, .long q2), (0, .ref (ad 0)), (5, .int v5)]) X.x X.b dX6_mixPlots_38 hl (k := 3) rfl (congrArg _ ki_1) (Nat.le_of_ble_eq_true rfl) rfl (fun ls hl => ?_)
        refine lv_goto (tgt := 15) X.x X.b dX6_mixPlots_41 (by decide) ?_
        exact ih size plots cliffs told rea q2 v5 (v6 + 1) hf _ _ _ Z (lv_sub hl [2, 1, 3, 0] rfl)
  have L5 : ∀ (k : Nat) (size : Int32) (plots : Nat → Int32) (cliffs : Nat → Int32) (told : Nat → Int32) (rea : Nat → Int32) (v3 : Int64) (v5 : Int32), fX6_mixPlots_5 k size plots cliffs told rea v3 v5 = some res → ∀ (H : Heap) (locs : List Loc) (ls : Array Slot), zW Δ A s.heap (wX6 Δ ad reached lost size plots cliffs words needs told rea wread ltold lout sets oldest kept rows len codes gpl gps gcl gwo) H locs → lv_has ls 7 [(0, .ref (ad 0)), (3, .long v3), (5, .int v5)] → W p l e { frames := 4, cells := 0, slots := 0, locals := 90 } s m args below meth c H locs 0 0 (zEnd Δ below args s 0 0 A (some (.long res)) (wX6 Δ ad reached lost size plots cliffs words needs told rea wread ltold lout sets oldest kept rows len codes gpl gps gcl gwo)) (F0 m 5 ls []) := by
    intro k
    induction k with
    | zero =>
      intro size plots cliffs told rea v3 v5 hf
      rw [fX6_mixPlots_5.eq_1] at hf
      cases hf
    | succ k ih =>
      intro size plots cliffs told rea v3 v5 hf H locs ls Z hl
      rw [fX6_mixPlots_5.eq_2] at hf
      refine lv_iload X.x X.b dX6_mixPlots_5 (lv_at hl 2 rfl) ?_
      refine lv_bipush (v := 6) X.x X.b dX6_mixPlots_7 kb_6 ?_
      refine lv_icmp_ge (tgt := 50) X.x X.b dX6_mixPlots_9 (by decide) (fun b1 => ?_) (fun b1 => ?_)
      · have hf := zif_t b1 hf
        refine lv_lload_n X.x X.b dX6_mixPlots_50 rfl (lv_at hl 1 rfl) ?_
        cases hf
        exact z_lret X Z dX6_mixPlots_51
      · have hf := zif_f b1 hf
        refine lv_iconst (v := 0) X.x X.b dX6_mixPlots_12 ki_0 ?_
        refine lv_istore (lv' := [(6, .int 0), (0, .ref (ad 0)), (3, .long v3), (5, .int v5)]) X.x X.b dX6_mixPlots_13 hl (Nat.le_of_ble_eq_true rfl) rfl (fun ls hl => ?_)
        exact L15 (fX6_mixPlots_5 k) ih zfuel size plots cliffs told rea v3 v5 0 hf _ _ _ Z (lv_sub hl [1, 2, 3, 0] rfl)
  rw [fX6_mixPlots.eq_1] at hf
  refine lv_lload_n X.x X.b dX6_mixPlots_0 rfl (lv_at hl 1 rfl) ?_
  refine lv_lstore_n (lv' := [(3, .long x1), (0, .ref (ad 0)), (1, .long x1)]) X.x X.b dX6_mixPlots_1 rfl hl (Nat.le_of_ble_eq_true rfl) rfl (fun ls hl => ?_)
  refine lv_iconst (v := 0) X.x X.b dX6_mixPlots_2 ki_0 ?_
  refine lv_istore (lv' := [(5, .int 0), (3, .long x1), (0, .ref (ad 0)), (1, .long x1)]) X.x X.b dX6_mixPlots_3 hl (Nat.le_of_ble_eq_true rfl) rfl (fun ls hl => ?_)
  exact L5 zfuel size plots cliffs told rea x1 0 hf _ _ _ Z (lv_sub hl [2, 1, 0] rfl)
set_option maxRecDepth 100000 in
set_option maxHeartbeats 4000000 in
theorem mX6_bitsOfShare (l : Launch) (Δ : zE)  (x0 : UInt64) {res : Int64} (hf : fX6_bitsOfShare x0 = some res) : zMet l Δ yX6_bitsOfShare cX6_bitsOfShare 7 (some .long) 0 0 [.double x0] [] [] (some (.long res)) := by
  refine z_start (by decide +kernel) (Nat.le_of_ble_eq_true rfl) ?_
  intro p e s m args below meth c A ls X Z hl
  have hl : lv_has ls 7 [(0, .double x0)] := hl
  have L18 : ∀ (k : Nat) (v2 : UInt64) (v4 : Int64) (v6 : Int32), fX6_bitsOfShare_18 k v2 v4 v6 = some res → ∀ (H : Heap) (locs : List Loc) (ls : Array Slot), zW Δ A s.heap [] H locs → lv_has ls 7 [(2, .double v2), (4, .long v4), (6, .int v6)] → W p l e { frames := 0, cells := 0, slots := 0, locals := 0 } s m args below meth c H locs 0 0 (zEnd Δ below args s 0 0 A (some (.long res)) []) (F0 m 18 ls []) := by
    intro k
    induction k with
    | zero =>
      intro v2 v4 v6 hf
      rw [fX6_bitsOfShare_18.eq_1] at hf
      cases hf
    | succ k ih =>
      intro v2 v4 v6 hf H locs ls Z hl
      rw [fX6_bitsOfShare_18.eq_2] at hf
      refine lv_iload X.x X.b dX6_bitsOfShare_18 (lv_at hl 2 rfl) ?_
      refine lv_i2l (v := (v6 : Int32).toInt64) X.x X.b dX6_bitsOfShare_20 rfl ?_
      refine lv_ldc2 (v := 1023) X.x X.b X.own (X.ts _ wd_709) dX6_bitsOfShare_21 ?_
      refine W.lcmp X.x X.b dX6_bitsOfShare_24 ?_
      refine lv_if_ge (tgt := 52) X.x X.b dX6_bitsOfShare_25 (by decide) (fun b1 => ?_) (fun b1 => ?_)
      · have hf := zif_t b1 hf
        refine lv_lload X.x X.b dX6_bitsOfShare_52 (lv_at hl 1 rfl) ?_
        refine lv_bipush (v := 52) X.x X.b dX6_bitsOfShare_54 kb_52 ?_
        refine lv_lshl (v := (v4 <<< ((52 : Int32).toInt64 &&& 63))) X.x X.b dX6_bitsOfShare_56 rfl ?_
        refine lv_dload_n X.x X.b dX6_bitsOfShare_57 rfl (lv_at hl 0 rfl) ?_
        refine lv_dconst1 X.x X.b dX6_bitsOfShare_58 ?_
        obtain ⟨b2, hf⟩ := zg_nn hf
        refine lv_dsub X.x X.b dX6_bitsOfShare_59 b2 ?_
        refine lv_ldc2d (v := 4841369599423283200) X.x X.b X.own (X.ts _ wd_711) dX6_bitsOfShare_60 ?_
        obtain ⟨b3, hf⟩ := zg_nn hf
        refine lv_dmul X.x X.b dX6_bitsOfShare_63 b3 ?_
        refine lv_d2l X.x X.b dX6_bitsOfShare_64 ?_
        refine lv_lor X.x X.b dX6_bitsOfShare_65 ?_
        cases hf
        exact z_lret X Z dX6_bitsOfShare_66
      · have hf := zif_f b1 hf
        refine lv_dload_n X.x X.b dX6_bitsOfShare_28 rfl (lv_at hl 0 rfl) ?_
        refine lv_dconst1 X.x X.b dX6_bitsOfShare_29 ?_
        refine lv_dcmp X.x X.b dX6_bitsOfShare_30 ?_
        refine lv_if_ge (tgt := 52) X.x X.b dX6_bitsOfShare_31 (by decide) (fun b4 => ?_) (fun b4 => ?_)
        · have hf := zif_t b4 hf
          refine lv_lload X.x X.b dX6_bitsOfShare_52 (lv_at hl 1 rfl) ?_
          refine lv_bipush (v := 52) X.x X.b dX6_bitsOfShare_54 kb_52 ?_
          refine lv_lshl (v := (v4 <<< ((52 : Int32).toInt64 &&& 63))) X.x X.b dX6_bitsOfShare_56 rfl ?_
          refine lv_dload_n X.x X.b dX6_bitsOfShare_57 rfl (lv_at hl 0 rfl) ?_
          refine lv_dconst1 X.x X.b dX6_bitsOfShare_58 ?_
          obtain ⟨b5, hf⟩ := zg_nn hf
          refine lv_dsub X.x X.b dX6_bitsOfShare_59 b5 ?_
          refine lv_ldc2d (v := 4841369599423283200) X.x X.b X.own (X.ts _ wd_711) dX6_bitsOfShare_60 ?_
          obtain ⟨b6, hf⟩ := zg_nn hf
          refine lv_dmul X.x X.b dX6_bitsOfShare_63 b6 ?_
          refine lv_d2l X.x X.b dX6_bitsOfShare_64 ?_
          refine lv_lor X.x X.b dX6_bitsOfShare_65 ?_
          cases hf
          exact z_lret X Z dX6_bitsOfShare_66
        · have hf := zif_f b4 hf
          refine lv_dload_n X.x X.b dX6_bitsOfShare_34 rfl (lv_at hl 0 rfl) ?_
          refine lv_ldc2d (v := 4611686018427387904) X.x X.b X.own (X.ts _ wd_710) dX6_bitsOfShare_35 ?_
          obtain ⟨b7, hf⟩ := zg_nn hf
          refine lv_dmul X.x X.b dX6_bitsOfShare_38 b7 ?_
          refine lv_dstore_n (lv' := [(2, .double (FP.dmul v2 4611686018427387904)), (4, .long v4), (6, .int v6)]) X.x X.b dX6_bitsOfShare_39 rfl hl (Nat.le_of_ble_eq_true rfl) rfl (fun ls hl => ?_)
          refine lv_lload X.x X.b dX6_bitsOfShare_40 (lv_at hl 1 rfl) ?_
          refine lv_lconst (v := 1) X.x X.b dX6_bitsOfShare_42 kl_1 ?_
          refine lv_lsub X.x X.b dX6_bitsOfShare_43 ?_
          refine lv_lstore (lv' := [(4, .long (v4 - 1)), (2, .double (FP.dmul v2 4611686018427387904)), (6, .int v6)]) X.x X.b dX6_bitsOfShare_44 hl (Nat.le_of_ble_eq_true rfl) rfl (fun ls hl => ?_)
          refine lv_iinc (v := (v6 + 1)) (lv' := [(6, .int (v6 + 1)), (4, .long (v4 - 1)), (2, .double (FP.dmul v2 4611686018427387904))]) X.x X.b dX6_bitsOfShare_46 hl (k := 2) rfl (congrArg _ ki_1) (Nat.le_of_ble_eq_true rfl) rfl (fun ls hl => ?_)
          refine lv_goto (tgt := 18) X.x X.b dX6_bitsOfShare_49 (by decide) ?_
          exact ih (FP.dmul v2 4611686018427387904) (v4 - 1) (v6 + 1) hf _ _ _ Z (lv_sub hl [2, 1, 0] rfl)
  rw [fX6_bitsOfShare.eq_1] at hf
  refine lv_dload_n X.x X.b dX6_bitsOfShare_0 rfl (lv_at hl 0 rfl) ?_
  refine lv_dconst0 X.x X.b dX6_bitsOfShare_1 ?_
  refine lv_dcmp X.x X.b dX6_bitsOfShare_2 ?_
  refine lv_if_gt (tgt := 8) X.x X.b dX6_bitsOfShare_3 (by decide) (fun b1 => ?_) (fun b1 => ?_)
  · have hf := zif_t b1 hf
    refine lv_dload_n X.x X.b dX6_bitsOfShare_8 rfl (lv_at hl 0 rfl) ?_
    refine lv_dstore_n (lv' := [(2, .double x0), (0, .double x0)]) X.x X.b dX6_bitsOfShare_9 rfl hl (Nat.le_of_ble_eq_true rfl) rfl (fun ls hl => ?_)
    refine lv_ldc2 (v := 1023) X.x X.b X.own (X.ts _ wd_709) dX6_bitsOfShare_10 ?_
    refine lv_lstore (lv' := [(4, .long 1023), (2, .double x0), (0, .double x0)]) X.x X.b dX6_bitsOfShare_13 hl (Nat.le_of_ble_eq_true rfl) rfl (fun ls hl => ?_)
    refine lv_iconst (v := 1) X.x X.b dX6_bitsOfShare_15 ki_1 ?_
    refine lv_istore (lv' := [(6, .int 1), (4, .long 1023), (2, .double x0), (0, .double x0)]) X.x X.b dX6_bitsOfShare_16 hl (Nat.le_of_ble_eq_true rfl) rfl (fun ls hl => ?_)
    exact L18 zfuel x0 1023 1 hf _ _ _ Z (lv_sub hl [2, 1, 0] rfl)
  · have hf := zif_f b1 hf
    refine lv_lconst (v := 0) X.x X.b dX6_bitsOfShare_6 kl_0 ?_
    cases hf
    exact z_lret X Z dX6_bitsOfShare_7
set_option maxRecDepth 100000 in
set_option maxHeartbeats 4000000 in
theorem mX6_mixText (l : Launch) (Δ : zE) (ad : Nat → Nat) (reached : Int32) (lost : Int32) (size : Int32) (plots : Nat → Int32) (cliffs : Nat → Int32) (words : Nat → Int32) (needs : Nat → Int32) (told : Nat → Int32) (rea : Nat → Int32) (wread : Nat → Int32) (ltold : Nat → Int32) (lout : Nat → Int32) (sets : Nat → Int32) (oldest : Int32) (kept : Int32) (rows : Nat → Option Nat) (len : Int32) (codes : Nat → Int32) (gpl : Int32) (gps : Int32) (gcl : Int32) (gwo : Int32) (x1 : Int64) {res : Int64} (hf : fX6_mixText len codes x1 = some res) : zMet l Δ yX6_mixText cX6_mixText 6 (some .long) 1 23 [.ref (ad 0), .long x1] (wX6 Δ ad reached lost size plots cliffs words needs told rea wread ltold lout sets oldest kept rows len codes gpl gps gcl gwo) (wX6 Δ ad reached lost size plots cliffs words needs told rea wread ltold lout sets oldest kept rows len codes gpl gps gcl gwo) (some (.long res)) := by
  refine z_start (by decide +kernel) (Nat.le_of_ble_eq_true rfl) ?_
  intro p e s m args below meth c A ls X Z hl
  have hl : lv_has ls 6 [(0, .ref (ad 0)), (1, .long x1)] := hl
  have L16 : ∀ (k : Nat) (len : Int32) (codes : Nat → Int32) (v3 : Int64) (v5 : Int32), fX6_mixText_16 k len codes v3 v5 = some res → ∀ (H : Heap) (locs : List Loc) (ls : Array Slot), zW Δ A s.heap (wX6 Δ ad reached lost size plots cliffs words needs told rea wread ltold lout sets oldest kept rows len codes gpl gps gcl gwo) H locs → lv_has ls 6 [(0, .ref (ad 0)), (3, .long v3), (5, .int v5)] → W p l e { frames := 1, cells := 0, slots := 0, locals := 23 } s m args below meth c H locs 0 0 (zEnd Δ below args s 0 0 A (some (.long res)) (wX6 Δ ad reached lost size plots cliffs words needs told rea wread ltold lout sets oldest kept rows len codes gpl gps gcl gwo)) (F0 m 16 ls []) := by
    intro k
    induction k with
    | zero =>
      intro len codes v3 v5 hf
      rw [fX6_mixText_16.eq_1] at hf
      cases hf
    | succ k ih =>
      intro len codes v3 v5 hf H locs ls Z hl
      rw [fX6_mixText_16.eq_2] at hf
      refine lv_iload X.x X.b dX6_mixText_16 (lv_at hl 2 rfl) ?_
      refine lv_aload_n X.x X.b dX6_mixText_18 rfl (lv_at hl 0 rfl) ?_
      refine z_gf inG_X6 (ci := 6) rfl 2 (Nat.le_of_ble_eq_true rfl) rfl X Z wd_185 0 rfl (v := .ref (ad 16)) rfl dX6_mixText_19 ?_
      refine z_gf inG_X5 (ci := 5) rfl 1 (Nat.le_of_ble_eq_true rfl) rfl X Z wd_174 16 rfl (v := .int len) rfl dX6_mixText_22 ?_
      refine lv_icmp_ge (tgt := 50) X.x X.b dX6_mixText_25 (by decide) (fun b1 => ?_) (fun b1 => ?_)
      · have hf := zif_t b1 hf
        refine lv_lload_n X.x X.b dX6_mixText_50 rfl (lv_at hl 1 rfl) ?_
        cases hf
        exact z_lret X Z dX6_mixText_51
      · have hf := zif_f b1 hf
        refine lv_lload_n X.x X.b dX6_mixText_28 rfl (lv_at hl 1 rfl) ?_
        refine lv_aload_n X.x X.b dX6_mixText_29 rfl (lv_at hl 0 rfl) ?_
        refine z_gf inG_X6 (ci := 6) rfl 2 (Nat.le_of_ble_eq_true rfl) rfl X Z wd_185 0 rfl (v := .ref (ad 16)) rfl dX6_mixText_30 ?_
        refine z_gf inG_X5 (ci := 5) rfl 0 (Nat.le_of_ble_eq_true rfl) rfl X Z wd_172 16 rfl (v := .ref (ad 17)) rfl dX6_mixText_33 ?_
        refine lv_iload X.x X.b dX6_mixText_36 (lv_at hl 2 rfl) ?_
        obtain ⟨b2, hf⟩ := zg_in hf
        refine z_iald X Z 17 rfl b2 dX6_mixText_38 ?_
        refine lv_i2l (v := ((codes v5.toNatClampNeg) : Int32).toInt64) X.x X.b dX6_mixText_39 rfl ?_
        obtain ⟨q1, hq1, hf⟩ := zb_ok hf
        refine z_callS X Z hl (mX6_mix l Δ  v3 (((codes v5.toNatClampNeg) : Int32).toInt64) hq1) wd_682 wd_683 wd_19 wd_684 ok_X6_mix (w' := (wX6 Δ ad reached lost size plots cliffs words needs told rea wread ltold lout sets oldest kept rows len codes gpl gps gcl gwo)) zSub_nil rfl zput_nil rfl (rest := []) rfl (Nat.le_of_ble_eq_true rfl) ⟨Nat.le_of_ble_eq_true rfl, Nat.le_of_ble_eq_true rfl⟩ ⟨Nat.zero_le _, Nat.zero_le _⟩ (st1 := [.long q1]) rfl dX6_mixText_40 (fun H locs Z => ?_)
        refine lv_lstore_n (lv' := [(3, .long q1), (0, .ref (ad 0)), (5, .int v5)]) X.x X.b dX6_mixText_43 rfl hl (Nat.le_of_ble_eq_true rfl) rfl (fun ls hl => ?_)
        refine lv_iinc (v := (v5 + 1)) (lv' := [(5, .int (v5 + 1)), (3, .long q1), (0, .ref (ad 0))]) X.x X.b dX6_mixText_44 hl (k := 2) rfl (congrArg _ ki_1) (Nat.le_of_ble_eq_true rfl) rfl (fun ls hl => ?_)
        refine lv_goto (tgt := 16) X.x X.b dX6_mixText_47 (by decide) ?_
        exact ih len codes q1 (v5 + 1) hf _ _ _ Z (lv_sub hl [2, 1, 0] rfl)
  rw [fX6_mixText.eq_1] at hf
  refine lv_lload_n X.x X.b dX6_mixText_0 rfl (lv_at hl 1 rfl) ?_
  refine lv_aload_n X.x X.b dX6_mixText_1 rfl (lv_at hl 0 rfl) ?_
  refine z_gf inG_X6 (ci := 6) rfl 2 (Nat.le_of_ble_eq_true rfl) rfl X Z wd_185 0 rfl (v := .ref (ad 16)) rfl dX6_mixText_2 ?_
  refine z_gf inG_X5 (ci := 5) rfl 1 (Nat.le_of_ble_eq_true rfl) rfl X Z wd_174 16 rfl (v := .int len) rfl dX6_mixText_5 ?_
  refine lv_i2l (v := (len : Int32).toInt64) X.x X.b dX6_mixText_8 rfl ?_
  obtain ⟨q1, hq1, hf⟩ := zb_ok hf
  refine z_callS X Z hl (mX6_mix l Δ  x1 ((len : Int32).toInt64) hq1) wd_682 wd_683 wd_19 wd_684 ok_X6_mix (w' := (wX6 Δ ad reached lost size plots cliffs words needs told rea wread ltold lout sets oldest kept rows len codes gpl gps gcl gwo)) zSub_nil rfl zput_nil rfl (rest := []) rfl (Nat.le_of_ble_eq_true rfl) ⟨Nat.le_of_ble_eq_true rfl, Nat.le_of_ble_eq_true rfl⟩ ⟨Nat.zero_le _, Nat.zero_le _⟩ (st1 := [.long q1]) rfl dX6_mixText_9 (fun H locs Z => ?_)
  refine lv_lstore_n (lv' := [(3, .long q1), (0, .ref (ad 0)), (1, .long x1)]) X.x X.b dX6_mixText_12 rfl hl (Nat.le_of_ble_eq_true rfl) rfl (fun ls hl => ?_)
  refine lv_iconst (v := 0) X.x X.b dX6_mixText_13 ki_0 ?_
  refine lv_istore (lv' := [(5, .int 0), (3, .long q1), (0, .ref (ad 0)), (1, .long x1)]) X.x X.b dX6_mixText_14 hl (Nat.le_of_ble_eq_true rfl) rfl (fun ls hl => ?_)
  exact L16 zfuel len codes q1 0 hf _ _ _ Z (lv_sub hl [2, 1, 0] rfl)
set_option maxRecDepth 100000 in
set_option maxHeartbeats 4000000 in
theorem mX6_digest (l : Launch) (Δ : zE) (ad : Nat → Nat) (reached : Int32) (lost : Int32) (size : Int32) (plots : Nat → Int32) (cliffs : Nat → Int32) (words : Nat → Int32) (needs : Nat → Int32) (told : Nat → Int32) (rea : Nat → Int32) (wread : Nat → Int32) (ltold : Nat → Int32) (lout : Nat → Int32) (sets : Nat → Int32) (oldest : Int32) (kept : Int32) (rows : Nat → Option Nat) (len : Int32) (codes : Nat → Int32) (gpl : Int32) (gps : Int32) (gcl : Int32) (gwo : Int32)  {res : Int64} (hf : fX6_digest reached lost size plots cliffs words needs told rea wread ltold lout sets kept len codes = some res) : zMet l Δ yX6_digest cX6_digest 4 (some .long) 6 146 [.ref (ad 0)] (wX6 Δ ad reached lost size plots cliffs words needs told rea wread ltold lout sets oldest kept rows len codes gpl gps gcl gwo) (wX6 Δ ad reached lost size plots cliffs words needs told rea wread ltold lout sets oldest kept rows len codes gpl gps gcl gwo) (some (.long res)) := by
  refine z_start (by decide +kernel) (Nat.le_of_ble_eq_true rfl) ?_
  intro p e s m args below meth c A ls X Z hl
  have hl : lv_has ls 4 [(0, .ref (ad 0))] := hl
  have L65 : ∀ (k : Nat) (reached : Int32) (lost : Int32) (size : Int32) (plots : Nat → Int32) (cliffs : Nat → Int32) (words : Nat → Int32) (needs : Nat → Int32) (told : Nat → Int32) (rea : Nat → Int32) (wread : Nat → Int32) (ltold : Nat → Int32) (lout : Nat → Int32) (sets : Nat → Int32) (kept : Int32) (len : Int32) (codes : Nat → Int32) (v1 : Int64) (v3 : Int32), fX6_digest_65 k reached lost size plots cliffs words needs told rea wread ltold lout sets kept len codes v1 v3 = some res → ∀ (H : Heap) (locs : List Loc) (ls : Array Slot), zW Δ A s.heap (wX6 Δ ad reached lost size plots cliffs words needs told rea wread ltold lout sets oldest kept rows len codes gpl gps gcl gwo) H locs → lv_has ls 4 [(0, .ref (ad 0)), (1, .long v1), (3, .int v3)] → W p l e { frames := 6, cells := 0, slots := 0, locals := 146 } s m args below meth c H locs 0 0 (zEnd Δ below args s 0 0 A (some (.long res)) (wX6 Δ ad reached lost size plots cliffs words needs told rea wread ltold lout sets oldest kept rows len codes gpl gps gcl gwo)) (F0 m 65 ls []) := by
    intro k
    induction k with
    | zero =>
      intro reached lost size plots cliffs words needs told rea wread ltold lout sets kept len codes v1 v3 hf
      rw [fX6_digest_65.eq_1] at hf
      cases hf
    | succ k ih =>
      intro reached lost size plots cliffs words needs told rea wread ltold lout sets kept len codes v1 v3 hf H locs ls Z hl
      rw [fX6_digest_65.eq_2] at hf
      refine lv_iload_n X.x X.b dX6_digest_65 rfl (lv_at hl 2 rfl) ?_
      refine lv_bipush (v := 6) X.x X.b dX6_digest_66 kb_6 ?_
      refine lv_icmp_ge (tgt := 84) X.x X.b dX6_digest_68 (by decide) (fun b1 => ?_) (fun b1 => ?_)
      · have hf := zif_t b1 hf
        refine lv_aload_n X.x X.b dX6_digest_84 rfl (lv_at hl 0 rfl) ?_
        refine lv_lload_n X.x X.b dX6_digest_85 rfl (lv_at hl 1 rfl) ?_
        obtain ⟨q1, hq1, hf⟩ := zb_ok hf
        refine z_callV X Z hl (mX6_mixPlots l Δ ad reached lost size plots cliffs words needs told rea wread ltold lout sets oldest kept rows len codes gpl gps gcl gwo v1 hq1) wd_694 wd_696 wd_16 wd_19 wd_697 ok_X6_mixPlots 6 rfl 0 rfl (w' := (wX6 Δ ad reached lost size plots cliffs words needs told rea wread ltold lout sets oldest kept rows len codes gpl gps gcl gwo)) su_13 fs_13 pu_13 rfl (rest := []) rfl (Nat.le_of_ble_eq_true rfl) ⟨Nat.le_of_ble_eq_true rfl, Nat.le_of_ble_eq_true rfl⟩ ⟨Nat.zero_le _, Nat.zero_le _⟩ (st1 := [.long q1]) rfl dX6_digest_86 (fun H locs Z => ?_)
        refine lv_lstore_n (lv' := [(1, .long q1), (0, .ref (ad 0)), (3, .int v3)]) X.x X.b dX6_digest_89 rfl hl (Nat.le_of_ble_eq_true rfl) rfl (fun ls hl => ?_)
        refine lv_lload_n X.x X.b dX6_digest_90 rfl (lv_at hl 0 rfl) ?_
        refine lv_aload_n X.x X.b dX6_digest_91 rfl (lv_at hl 1 rfl) ?_
        refine z_gf inG_X6 (ci := 6) rfl 0 (Nat.le_of_ble_eq_true rfl) rfl X Z wd_183 0 rfl (v := .ref (ad 1)) rfl dX6_digest_92 ?_
        obtain ⟨q2, hq2, hf⟩ := zb_ok hf
        refine z_callV X Z hl (mX3_shareRead l Δ (fun j => ad (j + 1)) reached lost size plots cliffs words needs told rea wread ltold lout sets hq2) wd_698 wd_699 wd_700 wd_20 wd_701 ok_X3_shareRead 3 rfl 1 rfl (w' := (wX6 Δ ad reached lost size plots cliffs words needs told rea wread ltold lout sets oldest kept rows len codes gpl gps gcl gwo)) su_14 fs_14 pu_14 rfl (rest := [.long q1]) rfl (Nat.le_of_ble_eq_true rfl) ⟨Nat.le_of_ble_eq_true rfl, Nat.le_of_ble_eq_true rfl⟩ ⟨Nat.zero_le _, Nat.zero_le _⟩ (st1 := [.double q2, .long q1]) rfl dX6_digest_95 (fun H locs Z => ?_)
        obtain ⟨q3, hq3, hf⟩ := zb_ok hf
        refine z_callS X Z hl (mX6_bitsOfShare l Δ  q2 hq3) wd_706 wd_707 wd_19 wd_708 ok_X6_bitsOfShare (w' := (wX6 Δ ad reached lost size plots cliffs words needs told rea wread ltold lout sets oldest kept rows len codes gpl gps gcl gwo)) zSub_nil rfl zput_nil rfl (rest := [.long q1]) rfl (Nat.le_of_ble_eq_true rfl) ⟨Nat.le_of_ble_eq_true rfl, Nat.le_of_ble_eq_true rfl⟩ ⟨Nat.zero_le _, Nat.zero_le _⟩ (st1 := [.long q3, .long q1]) rfl dX6_digest_98 (fun H locs Z => ?_)
        obtain ⟨q4, hq4, hf⟩ := zb_ok hf
        refine z_callS X Z hl (mX6_mix l Δ  q1 q3 hq4) wd_682 wd_683 wd_19 wd_684 ok_X6_mix (w' := (wX6 Δ ad reached lost size plots cliffs words needs told rea wread ltold lout sets oldest kept rows len codes gpl gps gcl gwo)) zSub_nil rfl zput_nil rfl (rest := []) rfl (Nat.le_of_ble_eq_true rfl) ⟨Nat.le_of_ble_eq_true rfl, Nat.le_of_ble_eq_true rfl⟩ ⟨Nat.zero_le _, Nat.zero_le _⟩ (st1 := [.long q4]) rfl dX6_digest_101 (fun H locs Z => ?_)
        refine lv_lstore_n (lv' := [(1, .long q4), (0, .ref (ad 0)), (3, .int v3)]) X.x X.b dX6_digest_104 rfl hl (Nat.le_of_ble_eq_true rfl) rfl (fun ls hl => ?_)
        refine lv_aload_n X.x X.b dX6_digest_105 rfl (lv_at hl 1 rfl) ?_
        refine lv_lload_n X.x X.b dX6_digest_106 rfl (lv_at hl 0 rfl) ?_
        obtain ⟨q5, hq5, hf⟩ := zb_ok hf
        refine z_callV X Z hl (mX6_mixText l Δ ad reached lost size plots cliffs words needs told rea wread ltold lout sets oldest kept rows len codes gpl gps gcl gwo q4 hq5) wd_712 wd_714 wd_17 wd_19 wd_715 ok_X6_mixText 6 rfl 0 rfl (w' := (wX6 Δ ad reached lost size plots cliffs words needs told rea wread ltold lout sets oldest kept rows len codes gpl gps gcl gwo)) su_13 fs_13 pu_13 rfl (rest := []) rfl (Nat.le_of_ble_eq_true rfl) ⟨Nat.le_of_ble_eq_true rfl, Nat.le_of_ble_eq_true rfl⟩ ⟨Nat.zero_le _, Nat.zero_le _⟩ (st1 := [.long q5]) rfl dX6_digest_107 (fun H locs Z => ?_)
        cases hf
        exact z_lret X Z dX6_digest_110
      · have hf := zif_f b1 hf
        refine lv_aload_n X.x X.b dX6_digest_71 rfl (lv_at hl 0 rfl) ?_
        refine lv_lload_n X.x X.b dX6_digest_72 rfl (lv_at hl 1 rfl) ?_
        refine lv_iload_n X.x X.b dX6_digest_73 rfl (lv_at hl 2 rfl) ?_
        obtain ⟨q6, hq6, hf⟩ := zb_ok hf
        refine z_callV X Z hl (mX6_mixReader l Δ ad reached lost size plots cliffs words needs told rea wread ltold lout sets oldest kept rows len codes gpl gps gcl gwo v1 v3 hq6) wd_690 wd_692 wd_15 wd_19 wd_693 ok_X6_mixReader 6 rfl 0 rfl (w' := (wX6 Δ ad reached lost size plots cliffs words needs told rea wread ltold lout sets oldest kept rows len codes gpl gps gcl gwo)) su_13 fs_13 pu_13 rfl (rest := []) rfl (Nat.le_of_ble_eq_true rfl) ⟨Nat.le_of_ble_eq_true rfl, Nat.le_of_ble_eq_true rfl⟩ ⟨Nat.zero_le _, Nat.zero_le _⟩ (st1 := [.long q6]) rfl dX6_digest_74 (fun H locs Z => ?_)
        refine lv_lstore_n (lv' := [(1, .long q6), (0, .ref (ad 0)), (3, .int v3)]) X.x X.b dX6_digest_77 rfl hl (Nat.le_of_ble_eq_true rfl) rfl (fun ls hl => ?_)
        refine lv_iinc (v := (v3 + 1)) (lv' := [(3, .int (v3 + 1)), (1, .long q6), (0, .ref (ad 0))]) X.x X.b dX6_digest_78 hl (k := 2) rfl (congrArg _ ki_1) (Nat.le_of_ble_eq_true rfl) rfl (fun ls hl => ?_)
        refine lv_goto (tgt := 65) X.x X.b dX6_digest_81 (by decide) ?_
        exact ih reached lost size plots cliffs words needs told rea wread ltold lout sets kept len codes q6 (v3 + 1) hf _ _ _ Z (lv_sub hl [2, 1, 0] rfl)
  have L31 : ∀ (k : Nat) (reached : Int32) (lost : Int32) (size : Int32) (plots : Nat → Int32) (cliffs : Nat → Int32) (words : Nat → Int32) (needs : Nat → Int32) (told : Nat → Int32) (rea : Nat → Int32) (wread : Nat → Int32) (ltold : Nat → Int32) (lout : Nat → Int32) (sets : Nat → Int32) (kept : Int32) (len : Int32) (codes : Nat → Int32) (v1 : Int64) (v3 : Int32), fX6_digest_31 k reached lost size plots cliffs words needs told rea wread ltold lout sets kept len codes v1 v3 = some res → ∀ (H : Heap) (locs : List Loc) (ls : Array Slot), zW Δ A s.heap (wX6 Δ ad reached lost size plots cliffs words needs told rea wread ltold lout sets oldest kept rows len codes gpl gps gcl gwo) H locs → lv_has ls 4 [(0, .ref (ad 0)), (1, .long v1), (3, .int v3)] → W p l e { frames := 6, cells := 0, slots := 0, locals := 146 } s m args below meth c H locs 0 0 (zEnd Δ below args s 0 0 A (some (.long res)) (wX6 Δ ad reached lost size plots cliffs words needs told rea wread ltold lout sets oldest kept rows len codes gpl gps gcl gwo)) (F0 m 31 ls []) := by
    intro k
    induction k with
    | zero =>
      intro reached lost size plots cliffs words needs told rea wread ltold lout sets kept len codes v1 v3 hf
      rw [fX6_digest_31.eq_1] at hf
      cases hf
    | succ k ih =>
      intro reached lost size plots cliffs words needs told rea wread ltold lout sets kept len codes v1 v3 hf H locs ls Z hl
      rw [fX6_digest_31.eq_2] at hf
      refine lv_iload_n X.x X.b dX6_digest_31 rfl (lv_at hl 2 rfl) ?_
      refine lv_iconst (v := 2) X.x X.b dX6_digest_32 ki_2 ?_
      refine lv_icmp_ge (tgt := 57) X.x X.b dX6_digest_33 (by decide) (fun b1 => ?_) (fun b1 => ?_)
      · have hf := zif_t b1 hf
        refine lv_aload_n X.x X.b dX6_digest_57 rfl (lv_at hl 0 rfl) ?_
        refine lv_lload_n X.x X.b dX6_digest_58 rfl (lv_at hl 1 rfl) ?_
        obtain ⟨q1, hq1, hf⟩ := zb_ok hf
        refine z_callV X Z hl (mX6_mixParts l Δ ad reached lost size plots cliffs words needs told rea wread ltold lout sets oldest kept rows len codes gpl gps gcl gwo v1 hq1) wd_686 wd_688 wd_14 wd_19 wd_689 ok_X6_mixParts 6 rfl 0 rfl (w' := (wX6 Δ ad reached lost size plots cliffs words needs told rea wread ltold lout sets oldest kept rows len codes gpl gps gcl gwo)) su_13 fs_13 pu_13 rfl (rest := []) rfl (Nat.le_of_ble_eq_true rfl) ⟨Nat.le_of_ble_eq_true rfl, Nat.le_of_ble_eq_true rfl⟩ ⟨Nat.zero_le _, Nat.zero_le _⟩ (st1 := [.long q1]) rfl dX6_digest_59 (fun H locs Z => ?_)
        refine lv_lstore_n (lv' := [(1, .long q1), (0, .ref (ad 0)), (3, .int v3)]) X.x X.b dX6_digest_62 rfl hl (Nat.le_of_ble_eq_true rfl) rfl (fun ls hl => ?_)
        refine lv_iconst (v := 0) X.x X.b dX6_digest_63 ki_0 ?_
        refine lv_istore_n (lv' := [(3, .int 0), (1, .long q1), (0, .ref (ad 0))]) X.x X.b dX6_digest_64 rfl hl (Nat.le_of_ble_eq_true rfl) rfl (fun ls hl => ?_)
        exact L65 zfuel reached lost size plots cliffs words needs told rea wread ltold lout sets kept len codes q1 0 hf _ _ _ Z (lv_sub hl [2, 1, 0] rfl)
      · have hf := zif_f b1 hf
        refine lv_lload_n X.x X.b dX6_digest_36 rfl (lv_at hl 1 rfl) ?_
        refine lv_aload_n X.x X.b dX6_digest_37 rfl (lv_at hl 0 rfl) ?_
        refine z_gf inG_X6 (ci := 6) rfl 0 (Nat.le_of_ble_eq_true rfl) rfl X Z wd_183 0 rfl (v := .ref (ad 1)) rfl dX6_digest_38 ?_
        refine z_gf inG_X3 (ci := 3) rfl 2 (Nat.le_of_ble_eq_true rfl) rfl X Z wd_110 1 rfl (v := .ref (ad 13)) rfl dX6_digest_41 ?_
        refine lv_iload_n X.x X.b dX6_digest_44 rfl (lv_at hl 2 rfl) ?_
        obtain ⟨b2, hf⟩ := zg_in hf
        refine z_iald X Z 13 rfl b2 dX6_digest_45 ?_
        refine lv_i2l (v := ((sets v3.toNatClampNeg) : Int32).toInt64) X.x X.b dX6_digest_46 rfl ?_
        obtain ⟨q2, hq2, hf⟩ := zb_ok hf
        refine z_callS X Z hl (mX6_mix l Δ  v1 (((sets v3.toNatClampNeg) : Int32).toInt64) hq2) wd_682 wd_683 wd_19 wd_684 ok_X6_mix (w' := (wX6 Δ ad reached lost size plots cliffs words needs told rea wread ltold lout sets oldest kept rows len codes gpl gps gcl gwo)) zSub_nil rfl zput_nil rfl (rest := []) rfl (Nat.le_of_ble_eq_true rfl) ⟨Nat.le_of_ble_eq_true rfl, Nat.le_of_ble_eq_true rfl⟩ ⟨Nat.zero_le _, Nat.zero_le _⟩ (st1 := [.long q2]) rfl dX6_digest_47 (fun H locs Z => ?_)
        refine lv_lstore_n (lv' := [(1, .long q2), (0, .ref (ad 0)), (3, .int v3)]) X.x X.b dX6_digest_50 rfl hl (Nat.le_of_ble_eq_true rfl) rfl (fun ls hl => ?_)
        refine lv_iinc (v := (v3 + 1)) (lv' := [(3, .int (v3 + 1)), (1, .long q2), (0, .ref (ad 0))]) X.x X.b dX6_digest_51 hl (k := 2) rfl (congrArg _ ki_1) (Nat.le_of_ble_eq_true rfl) rfl (fun ls hl => ?_)
        refine lv_goto (tgt := 31) X.x X.b dX6_digest_54 (by decide) ?_
        exact ih reached lost size plots cliffs words needs told rea wread ltold lout sets kept len codes q2 (v3 + 1) hf _ _ _ Z (lv_sub hl [2, 1, 0] rfl)
  have L6 : ∀ (k : Nat) (reached : Int32) (lost : Int32) (size : Int32) (plots : Nat → Int32) (cliffs : Nat → Int32) (words : Nat → Int32) (needs : Nat → Int32) (told : Nat → Int32) (rea : Nat → Int32) (wread : Nat → Int32) (ltold : Nat → Int32) (lout : Nat → Int32) (sets : Nat → Int32) (kept : Int32) (len : Int32) (codes : Nat → Int32) (v1 : Int64) (v3 : Int32), fX6_digest_6 k reached lost size plots cliffs words needs told rea wread ltold lout sets kept len codes v1 v3 = some res → ∀ (H : Heap) (locs : List Loc) (ls : Array Slot), zW Δ A s.heap (wX6 Δ ad reached lost size plots cliffs words needs told rea wread ltold lout sets oldest kept rows len codes gpl gps gcl gwo) H locs → lv_has ls 4 [(0, .ref (ad 0)), (1, .long v1), (3, .int v3)] → W p l e { frames := 6, cells := 0, slots := 0, locals := 146 } s m args below meth c H locs 0 0 (zEnd Δ below args s 0 0 A (some (.long res)) (wX6 Δ ad reached lost size plots cliffs words needs told rea wread ltold lout sets oldest kept rows len codes gpl gps gcl gwo)) (F0 m 6 ls []) := by
    intro k
    induction k with
    | zero =>
      intro reached lost size plots cliffs words needs told rea wread ltold lout sets kept len codes v1 v3 hf
      rw [fX6_digest_6.eq_1] at hf
      cases hf
    | succ k ih =>
      intro reached lost size plots cliffs words needs told rea wread ltold lout sets kept len codes v1 v3 hf H locs ls Z hl
      rw [fX6_digest_6.eq_2] at hf
      refine lv_iload_n X.x X.b dX6_digest_6 rfl (lv_at hl 2 rfl) ?_
      refine lv_bipush (v := 6) X.x X.b dX6_digest_7 kb_6 ?_
      refine lv_icmp_gt (tgt := 29) X.x X.b dX6_digest_9 (by decide) (fun b1 => ?_) (fun b1 => ?_)
      · have hf := zif_t b1 hf
        refine lv_iconst (v := 0) X.x X.b dX6_digest_29 ki_0 ?_
        refine lv_istore_n (lv' := [(3, .int 0), (0, .ref (ad 0)), (1, .long v1)]) X.x X.b dX6_digest_30 rfl hl (Nat.le_of_ble_eq_true rfl) rfl (fun ls hl => ?_)
        exact L31 zfuel reached lost size plots cliffs words needs told rea wread ltold lout sets kept len codes v1 0 hf _ _ _ Z (lv_sub hl [1, 2, 0] rfl)
      · have hf := zif_f b1 hf
        refine lv_lload_n X.x X.b dX6_digest_12 rfl (lv_at hl 1 rfl) ?_
        refine lv_aload_n X.x X.b dX6_digest_13 rfl (lv_at hl 0 rfl) ?_
        refine lv_iload_n X.x X.b dX6_digest_14 rfl (lv_at hl 2 rfl) ?_
        obtain ⟨q1, hq1, hf⟩ := zb_ok hf
        refine z_callV X Z hl (mX6_total l Δ ad reached lost size plots cliffs words needs told rea wread ltold lout sets oldest kept rows len codes gpl gps gcl gwo v3 hq1) wd_313 wd_315 wd_1 wd_19 wd_316 ok_X6_total 6 rfl 0 rfl (w' := (wX6 Δ ad reached lost size plots cliffs words needs told rea wread ltold lout sets oldest kept rows len codes gpl gps gcl gwo)) su_13 fs_13 pu_13 rfl (rest := [.long v1]) rfl (Nat.le_of_ble_eq_true rfl) ⟨Nat.le_of_ble_eq_true rfl, Nat.le_of_ble_eq_true rfl⟩ ⟨Nat.zero_le _, Nat.zero_le _⟩ (st1 := [.int q1, .long v1]) rfl dX6_digest_15 (fun H locs Z => ?_)
        refine lv_i2l (v := (q1 : Int32).toInt64) X.x X.b dX6_digest_18 rfl ?_
        obtain ⟨q2, hq2, hf⟩ := zb_ok hf
        refine z_callS X Z hl (mX6_mix l Δ  v1 ((q1 : Int32).toInt64) hq2) wd_682 wd_683 wd_19 wd_684 ok_X6_mix (w' := (wX6 Δ ad reached lost size plots cliffs words needs told rea wread ltold lout sets oldest kept rows len codes gpl gps gcl gwo)) zSub_nil rfl zput_nil rfl (rest := []) rfl (Nat.le_of_ble_eq_true rfl) ⟨Nat.le_of_ble_eq_true rfl, Nat.le_of_ble_eq_true rfl⟩ ⟨Nat.zero_le _, Nat.zero_le _⟩ (st1 := [.long q2]) rfl dX6_digest_19 (fun H locs Z => ?_)
        refine lv_lstore_n (lv' := [(1, .long q2), (0, .ref (ad 0)), (3, .int v3)]) X.x X.b dX6_digest_22 rfl hl (Nat.le_of_ble_eq_true rfl) rfl (fun ls hl => ?_)
        refine lv_iinc (v := (v3 + 1)) (lv' := [(3, .int (v3 + 1)), (1, .long q2), (0, .ref (ad 0))]) X.x X.b dX6_digest_23 hl (k := 2) rfl (congrArg _ ki_1) (Nat.le_of_ble_eq_true rfl) rfl (fun ls hl => ?_)
        refine lv_goto (tgt := 6) X.x X.b dX6_digest_26 (by decide) ?_
        exact ih reached lost size plots cliffs words needs told rea wread ltold lout sets kept len codes q2 (v3 + 1) hf _ _ _ Z (lv_sub hl [2, 1, 0] rfl)
  rw [fX6_digest.eq_1] at hf
  refine lv_ldc2 (v := 2803) X.x X.b X.own (X.ts _ wd_681) dX6_digest_0 ?_
  refine lv_lstore_n (lv' := [(1, .long 2803), (0, .ref (ad 0))]) X.x X.b dX6_digest_3 rfl hl (Nat.le_of_ble_eq_true rfl) rfl (fun ls hl => ?_)
  refine lv_iconst (v := 0) X.x X.b dX6_digest_4 ki_0 ?_
  refine lv_istore_n (lv' := [(3, .int 0), (1, .long 2803), (0, .ref (ad 0))]) X.x X.b dX6_digest_5 rfl hl (Nat.le_of_ble_eq_true rfl) rfl (fun ls hl => ?_)
  exact L6 zfuel reached lost size plots cliffs words needs told rea wread ltold lout sets kept len codes 2803 0 hf _ _ _ Z (lv_sub hl [2, 1, 0] rfl)
