set_option maxRecDepth 100000 in
set_option maxHeartbeats 4000000 in
theorem SG_serial_10 (l : Launch) (hT : l.stackTraces = false) (Δ : zE) {p : Program} {e : Env} {s : State} {m : MethodId} {args : Array Value} {below : List Frame} {meth : Method} {c : Code} {A : Nat → Prop} (Y : zY Δ p l s m args meth c yL_serial cL_serial 3 (some .boolean) A) {H : Heap} {locs : List Loc} {ls : Array Slot} {a a2 : Nat} {ws : va_W} (Z : zW Δ A s.heap (ws ++ []) H locs) (hl : lv_has ls 3 [(2, .int 20), (1, .ref a2), (0, .ref a)]) (hw : wOb Δ a2 T_38 ws) : W p l e { frames := 12, cells := 3651, slots := 33605, locals := 235 } s m args below meth c H locs 2655 24395 (zEndX Δ below args s 3651 33605 A (fun rv w => rv = some (.int 1) ∧ w = []) (fun _ _ => False)) (F0 m 978 ls []) := by
  have X := Y.1
  refine lv_aload_n X.x X.b dL_serial_978 rfl (lv_at hl 1 rfl) ?_
  refine lv_iconst (v := 1) X.x X.b dL_serial_979 ki_1 ?_
  refine lv_bipush (v := 20) X.x X.b dL_serial_980 kb_20 ?_
  refine o_call (wr := []) Y Z hl hw (C_set l hT Δ 1 20 fc_107) wd_438 wd_439 wd_440 wd_19 wd_441 ok_X6_set rfl rfl (rest := []) rfl (Nat.le_of_ble_eq_true rfl) ⟨Nat.le_of_ble_eq_true rfl, Nat.le_of_ble_eq_true rfl⟩ ⟨Nat.le_of_ble_eq_true rfl, Nat.le_of_ble_eq_true rfl⟩ (c1 := 2669) (s1 := 24528) rfl rfl dL_serial_982 (fun ws H locs hw Z => ?_)
  refine lv_bipush (v := 10) X.x X.b dL_serial_985 kb_10 ?_
  refine lv_icmp_ne (tgt := 1034) X.x X.b dL_serial_987 (by decide) (fun h => absurd h (by decide)) (fun _ => ?_)
  refine lv_aload_n X.x X.b dL_serial_990 rfl (lv_at hl 1 rfl) ?_
  refine lv_iconst (v := 3) X.x X.b dL_serial_991 ki_3 ?_
  refine lv_bipush (v := 19) X.x X.b dL_serial_992 kb_19 ?_
  refine o_call (wr := []) Y Z hl hw (C_mail l hT Δ 3 19 fc_108) wd_447 wd_448 wd_449 wd_19 wd_450 ok_X6_mail rfl rfl (rest := []) rfl (Nat.le_of_ble_eq_true rfl) ⟨Nat.le_of_ble_eq_true rfl, Nat.le_of_ble_eq_true rfl⟩ ⟨Nat.le_of_ble_eq_true rfl, Nat.le_of_ble_eq_true rfl⟩ (c1 := 2684) (s1 := 24667) rfl rfl dL_serial_994 (fun ws H locs hw Z => ?_)
  refine lv_bipush (v := 19) X.x X.b dL_serial_997 kb_19 ?_
  refine lv_icmp_ne (tgt := 1034) X.x X.b dL_serial_999 (by decide) (fun h => absurd h (by decide)) (fun _ => ?_)
  refine lv_aload_n X.x X.b dL_serial_1002 rfl (lv_at hl 1 rfl) ?_
  refine lv_iconst (v := 3) X.x X.b dL_serial_1003 ki_3 ?_
  refine lv_iconst (v := 4) X.x X.b dL_serial_1004 ki_4 ?_
  refine o_call (wr := []) Y Z hl hw (C_reader l hT Δ 3 4 fc_109) wd_605 wd_606 wd_607 wd_19 wd_608 ok_X6_reader rfl rfl (rest := []) rfl (Nat.le_of_ble_eq_true rfl) ⟨Nat.le_of_ble_eq_true rfl, Nat.le_of_ble_eq_true rfl⟩ ⟨Nat.le_of_ble_eq_true rfl, Nat.le_of_ble_eq_true rfl⟩ (c1 := 2686) (s1 := 24679) rfl rfl dL_serial_1005 (fun ws H locs hw Z => ?_)
  refine lv_bipush (v := 39) X.x X.b dL_serial_1008 kb_39 ?_
  refine lv_icmp_ne (tgt := 1034) X.x X.b dL_serial_1010 (by decide) (fun h => absurd h (by decide)) (fun _ => ?_)
  refine lv_aload_n X.x X.b dL_serial_1013 rfl (lv_at hl 1 rfl) ?_
  refine lv_iconst (v := 3) X.x X.b dL_serial_1014 ki_3 ?_
  refine lv_iconst (v := 3) X.x X.b dL_serial_1015 ki_3 ?_
  refine o_call (wr := []) Y Z hl hw (C_reader l hT Δ 3 3 fc_110) wd_605 wd_606 wd_607 wd_19 wd_608 ok_X6_reader rfl rfl (rest := []) rfl (Nat.le_of_ble_eq_true rfl) ⟨Nat.le_of_ble_eq_true rfl, Nat.le_of_ble_eq_true rfl⟩ ⟨Nat.le_of_ble_eq_true rfl, Nat.le_of_ble_eq_true rfl⟩ (c1 := 2688) (s1 := 24691) rfl rfl dL_serial_1016 (fun ws H locs hw Z => ?_)
  refine lv_iconst (v := 1) X.x X.b dL_serial_1019 ki_1 ?_
  refine lv_icmp_ne (tgt := 1034) X.x X.b dL_serial_1020 (by decide) (fun h => absurd h (by decide)) (fun _ => ?_)
  refine lv_aload_n X.x X.b dL_serial_1023 rfl (lv_at hl 1 rfl) ?_
  refine lv_iconst (v := 0) X.x X.b dL_serial_1024 ki_0 ?_
  refine lv_iconst (v := 2) X.x X.b dL_serial_1025 ki_2 ?_
  refine o_call (wr := []) Y Z hl hw (C_plot l hT Δ 0 2 fc_111) wd_617 wd_618 wd_619 wd_19 wd_620 ok_X6_plot rfl rfl (rest := []) rfl (Nat.le_of_ble_eq_true rfl) ⟨Nat.le_of_ble_eq_true rfl, Nat.le_of_ble_eq_true rfl⟩ ⟨Nat.le_of_ble_eq_true rfl, Nat.le_of_ble_eq_true rfl⟩ (c1 := 2689) (s1 := 24697) rfl rfl dL_serial_1026 (fun ws H locs hw Z => ?_)
  refine lv_bipush (v := 20) X.x X.b dL_serial_1029 kb_20 ?_
  refine lv_icmp_eq (tgt := 1036) X.x X.b dL_serial_1031 (by decide) (fun _ => ?_) (fun h => absurd h (by decide))
  refine lv_aload_n X.x X.b dL_serial_1036 rfl (lv_at hl 1 rfl) ?_
  obtain ⟨dv, hdv⟩ := dg_tot (b := T_40) (n := 20) (m := 0) (by decide) (by decide +kernel) (by decide) (by decide +kernel) ⟨19, by decide, by decide +kernel⟩
  refine o_stat (wr := []) Y Z hl (M_refused l hT Δ (by decide +kernel) hdv a2 ws hw) wd_674 wd_675 wd_18 wd_676 ok_L_refused rfl (rest := []) rfl (Nat.le_of_ble_eq_true rfl) ⟨Nat.le_of_ble_eq_true rfl, Nat.le_of_ble_eq_true rfl⟩ ⟨Nat.le_of_ble_eq_true rfl, Nat.le_of_ble_eq_true rfl⟩ (c1 := 3651) (s1 := 33605) rfl rfl dL_serial_1037 (fun rv ws H locs hP Z => ?_)
  obtain ⟨rfl, hw⟩ := hP
  refine W.eq (g2 := F0 m 1040 ls [.int 1]) rfl ?_
  exact x_zret X Z.none (Or.inr rfl) ⟨rfl, rfl⟩ (Nat.le_of_ble_eq_true rfl) (Nat.le_of_ble_eq_true rfl) dL_serial_1040
set_option maxRecDepth 100000 in
set_option maxHeartbeats 4000000 in
theorem SG_serial_9 (l : Launch) (hT : l.stackTraces = false) (Δ : zE) {p : Program} {e : Env} {s : State} {m : MethodId} {args : Array Value} {below : List Frame} {meth : Method} {c : Code} {A : Nat → Prop} (Y : zY Δ p l s m args meth c yL_serial cL_serial 3 (some .boolean) A) {H : Heap} {locs : List Loc} {ls : Array Slot} {a a2 : Nat} {ws : va_W} (Z : zW Δ A s.heap (ws ++ []) H locs) (hl : lv_has ls 3 [(2, .int 18), (1, .ref a2), (0, .ref a)]) (hw : wOb Δ a2 T_34 ws) : W p l e { frames := 12, cells := 3651, slots := 33605, locals := 235 } s m args below meth c H locs 2563 23549 (zEndX Δ below args s 3651 33605 A (fun rv w => rv = some (.int 1) ∧ w = []) (fun _ _ => False)) (F0 m 866 ls []) := by
  have X := Y.1
  refine lv_iinc (v := 19) (lv' := [(2, .int 19), (1, .ref a2), (0, .ref a)]) X.x X.b dL_serial_866 hl (k := 0) rfl (by decide) (Nat.le_of_ble_eq_true rfl) rfl (fun ls hl => ?_)
  refine lv_goto (tgt := 845) X.x X.b dL_serial_869 (by decide) ?_
  refine lv_iload_n X.x X.b dL_serial_845 rfl (lv_at hl 0 rfl) ?_
  refine lv_bipush (v := 20) X.x X.b dL_serial_846 kb_20 ?_
  refine lv_icmp_ge (tgt := 872) X.x X.b dL_serial_848 (by decide) (fun h => absurd h (by decide)) (fun _ => ?_)
  refine lv_aload_n X.x X.b dL_serial_851 rfl (lv_at hl 1 rfl) ?_
  refine lv_iconst (v := 1) X.x X.b dL_serial_852 ki_1 ?_
  refine lv_iconst (v := 0) X.x X.b dL_serial_853 ki_0 ?_
  refine lv_iconst (v := 1) X.x X.b dL_serial_854 ki_1 ?_
  refine lv_iload_n X.x X.b dL_serial_855 rfl (lv_at hl 0 rfl) ?_
  refine lv_iadd X.x X.b dL_serial_856 ?_
  rw [show (1 : Int32) + 19 = 20 by decide]
  refine o_call (wr := []) Y Z hl hw (C_add l hT Δ 1 0 20 fc_97) wd_358 wd_359 wd_360 wd_19 wd_361 ok_X6_add rfl rfl (rest := []) rfl (Nat.le_of_ble_eq_true rfl) ⟨Nat.le_of_ble_eq_true rfl, Nat.le_of_ble_eq_true rfl⟩ ⟨Nat.le_of_ble_eq_true rfl, Nat.le_of_ble_eq_true rfl⟩ (c1 := 2577) (s1 := 23682) rfl rfl dL_serial_857 (fun ws H locs hw Z => ?_)
  refine lv_iload_n X.x X.b dL_serial_860 rfl (lv_at hl 0 rfl) ?_
  refine lv_icmp_eq (tgt := 866) X.x X.b dL_serial_861 (by decide) (fun _ => ?_) (fun h => absurd h (by decide))
  refine lv_iinc (v := 20) (lv' := [(2, .int 20), (1, .ref a2), (0, .ref a)]) X.x X.b dL_serial_866 hl (k := 0) rfl (by decide) (Nat.le_of_ble_eq_true rfl) rfl (fun ls hl => ?_)
  refine lv_goto (tgt := 845) X.x X.b dL_serial_869 (by decide) ?_
  refine lv_iload_n X.x X.b dL_serial_845 rfl (lv_at hl 0 rfl) ?_
  refine lv_bipush (v := 20) X.x X.b dL_serial_846 kb_20 ?_
  refine lv_icmp_ge (tgt := 872) X.x X.b dL_serial_848 (by decide) (fun _ => ?_) (fun h => absurd h (by decide))
  refine lv_aload_n X.x X.b dL_serial_872 rfl (lv_at hl 1 rfl) ?_
  refine lv_iconst (v := 0) X.x X.b dL_serial_873 ki_0 ?_
  refine lv_iconst (v := 1) X.x X.b dL_serial_874 ki_1 ?_
  refine lv_iconst (v := (-1)) X.x X.b dL_serial_875 ki_m1 ?_
  refine lv_iconst (v := 5) X.x X.b dL_serial_876 ki_5 ?_
  refine o_statX (wr := []) Y Z hl (M_told l hT Δ 0 1 (-1) 5 fc_98 a2 ws hw) wd_349 wd_350 wd_18 wd_351 ok_L_told rfl (rest := []) rfl (Nat.le_of_ble_eq_true rfl) ⟨Nat.le_of_ble_eq_true rfl, Nat.le_of_ble_eq_true rfl⟩ ⟨Nat.le_of_ble_eq_true rfl, Nat.le_of_ble_eq_true rfl⟩ (c1 := 2592) (s1 := 23821) rfl rfl dL_serial_877 (fun rv ws H locs hP Z => ?_)
  obtain ⟨rfl, hw⟩ := hP
  refine W.eq (g2 := F0 m 880 ls [.int (-12)]) rfl ?_
  refine lv_bipush (v := (-12)) X.x X.b dL_serial_880 kb_m12 ?_
  refine lv_icmp_ne (tgt := 1034) X.x X.b dL_serial_882 (by decide) (fun h => absurd h (by decide)) (fun _ => ?_)
  refine lv_aload_n X.x X.b dL_serial_885 rfl (lv_at hl 1 rfl) ?_
  refine lv_iconst (v := 0) X.x X.b dL_serial_886 ki_0 ?_
  refine lv_iconst (v := 0) X.x X.b dL_serial_887 ki_0 ?_
  refine lv_iconst (v := (-1)) X.x X.b dL_serial_888 ki_m1 ?_
  refine lv_iconst (v := 5) X.x X.b dL_serial_889 ki_5 ?_
  refine o_statX (wr := []) Y Z hl (M_told l hT Δ 0 0 (-1) 5 fc_99 a2 ws hw) wd_349 wd_350 wd_18 wd_351 ok_L_told rfl (rest := []) rfl (Nat.le_of_ble_eq_true rfl) ⟨Nat.le_of_ble_eq_true rfl, Nat.le_of_ble_eq_true rfl⟩ ⟨Nat.le_of_ble_eq_true rfl, Nat.le_of_ble_eq_true rfl⟩ (c1 := 2607) (s1 := 23960) rfl rfl dL_serial_890 (fun rv ws H locs hP Z => ?_)
  obtain ⟨rfl, hw⟩ := hP
  refine W.eq (g2 := F0 m 893 ls [.int (-11)]) rfl ?_
  refine lv_bipush (v := (-11)) X.x X.b dL_serial_893 kb_m11 ?_
  refine lv_icmp_ne (tgt := 1034) X.x X.b dL_serial_895 (by decide) (fun h => absurd h (by decide)) (fun _ => ?_)
  refine lv_aload_n X.x X.b dL_serial_898 rfl (lv_at hl 1 rfl) ?_
  refine lv_bipush (v := 48) X.x X.b dL_serial_899 kb_48 ?_
  refine o_call (wr := []) Y Z hl hw (C_append l hT Δ 48 fc_100) wd_517 wd_518 wd_519 wd_19 wd_520 ok_X6_append rfl rfl (rest := []) rfl (Nat.le_of_ble_eq_true rfl) ⟨Nat.le_of_ble_eq_true rfl, Nat.le_of_ble_eq_true rfl⟩ ⟨Nat.le_of_ble_eq_true rfl, Nat.le_of_ble_eq_true rfl⟩ (c1 := 2608) (s1 := 23966) rfl rfl dL_serial_901 (fun ws H locs hw Z => ?_)
  refine lv_iconst (v := 1) X.x X.b dL_serial_904 ki_1 ?_
  refine lv_icmp_ne (tgt := 1034) X.x X.b dL_serial_905 (by decide) (fun h => absurd h (by decide)) (fun _ => ?_)
  refine lv_aload_n X.x X.b dL_serial_908 rfl (lv_at hl 1 rfl) ?_
  refine lv_bipush (v := 9) X.x X.b dL_serial_909 kb_9 ?_
  refine lv_iconst (v := 0) X.x X.b dL_serial_911 ki_0 ?_
  refine lv_iconst (v := 0) X.x X.b dL_serial_912 ki_0 ?_
  refine lv_iconst (v := 0) X.x X.b dL_serial_913 ki_0 ?_
  refine o_statX (wr := []) Y Z hl (M_told l hT Δ 9 0 0 0 fc_101 a2 ws hw) wd_349 wd_350 wd_18 wd_351 ok_L_told rfl (rest := []) rfl (Nat.le_of_ble_eq_true rfl) ⟨Nat.le_of_ble_eq_true rfl, Nat.le_of_ble_eq_true rfl⟩ ⟨Nat.le_of_ble_eq_true rfl, Nat.le_of_ble_eq_true rfl⟩ (c1 := 2623) (s1 := 24105) rfl rfl dL_serial_914 (fun rv ws H locs hP Z => ?_)
  obtain ⟨rfl, hw⟩ := hP
  refine W.eq (g2 := F0 m 917 ls [.int (-12)]) rfl ?_
  refine lv_bipush (v := (-12)) X.x X.b dL_serial_917 kb_m12 ?_
  refine lv_icmp_ne (tgt := 1034) X.x X.b dL_serial_919 (by decide) (fun h => absurd h (by decide)) (fun _ => ?_)
  refine lv_aload_n X.x X.b dL_serial_922 rfl (lv_at hl 1 rfl) ?_
  refine o_call (wr := []) Y Z hl hw (C_clearBuffer l hT Δ  fc_102) wd_727 wd_728 wd_729 wd_19 wd_730 ok_X6_clearBuffer rfl rfl (rest := []) rfl (Nat.le_of_ble_eq_true rfl) ⟨Nat.le_of_ble_eq_true rfl, Nat.le_of_ble_eq_true rfl⟩ ⟨Nat.le_of_ble_eq_true rfl, Nat.le_of_ble_eq_true rfl⟩ (c1 := 2623) (s1 := 24105) rfl rfl dL_serial_923 (fun ws H locs hw Z => ?_)
  refine lv_iconst (v := 1) X.x X.b dL_serial_926 ki_1 ?_
  refine lv_icmp_ne (tgt := 1034) X.x X.b dL_serial_927 (by decide) (fun h => absurd h (by decide)) (fun _ => ?_)
  refine lv_aload_n X.x X.b dL_serial_930 rfl (lv_at hl 1 rfl) ?_
  refine lv_bipush (v := 9) X.x X.b dL_serial_931 kb_9 ?_
  refine lv_iconst (v := 0) X.x X.b dL_serial_933 ki_0 ?_
  refine lv_iconst (v := 0) X.x X.b dL_serial_934 ki_0 ?_
  refine lv_iconst (v := 0) X.x X.b dL_serial_935 ki_0 ?_
  refine o_statX (wr := []) Y Z hl (M_told l hT Δ 9 0 0 0 fc_103 a2 ws hw) wd_349 wd_350 wd_18 wd_351 ok_L_told rfl (rest := []) rfl (Nat.le_of_ble_eq_true rfl) ⟨Nat.le_of_ble_eq_true rfl, Nat.le_of_ble_eq_true rfl⟩ ⟨Nat.le_of_ble_eq_true rfl, Nat.le_of_ble_eq_true rfl⟩ (c1 := 2638) (s1 := 24244) rfl rfl dL_serial_936 (fun rv ws H locs hP Z => ?_)
  obtain ⟨rfl, hw⟩ := hP
  refine W.eq (g2 := F0 m 939 ls [.int (-11)]) rfl ?_
  refine lv_bipush (v := (-11)) X.x X.b dL_serial_939 kb_m11 ?_
  refine lv_icmp_ne (tgt := 1034) X.x X.b dL_serial_941 (by decide) (fun h => absurd h (by decide)) (fun _ => ?_)
  refine lv_aload_n X.x X.b dL_serial_944 rfl (lv_at hl 1 rfl) ?_
  refine lv_bipush (v := 19) X.x X.b dL_serial_945 kb_19 ?_
  refine lv_bipush (v := 6) X.x X.b dL_serial_947 kb_6 ?_
  refine o_call (wr := []) Y Z hl hw (C_part l hT Δ 19 6 fc_104) wd_584 wd_585 wd_586 wd_19 wd_587 ok_X6_part rfl rfl (rest := []) rfl (Nat.le_of_ble_eq_true rfl) ⟨Nat.le_of_ble_eq_true rfl, Nat.le_of_ble_eq_true rfl⟩ ⟨Nat.le_of_ble_eq_true rfl, Nat.le_of_ble_eq_true rfl⟩ (c1 := 2640) (s1 := 24256) rfl rfl dL_serial_949 (fun ws H locs hw Z => ?_)
  refine lv_bipush (v := 19) X.x X.b dL_serial_952 kb_19 ?_
  refine lv_icmp_ne (tgt := 1034) X.x X.b dL_serial_954 (by decide) (fun h => absurd h (by decide)) (fun _ => ?_)
  refine lv_aload_n X.x X.b dL_serial_957 rfl (lv_at hl 1 rfl) ?_
  refine lv_iconst (v := 0) X.x X.b dL_serial_958 ki_0 ?_
  refine o_call (wr := []) Y Z hl hw (C_enough l hT Δ 0 fc_105) wd_663 wd_664 wd_665 wd_19 wd_666 ok_X6_enough rfl rfl (rest := []) rfl (Nat.le_of_ble_eq_true rfl) ⟨Nat.le_of_ble_eq_true rfl, Nat.le_of_ble_eq_true rfl⟩ ⟨Nat.le_of_ble_eq_true rfl, Nat.le_of_ble_eq_true rfl⟩ (c1 := 2641) (s1 := 24262) rfl rfl dL_serial_959 (fun ws H locs hw Z => ?_)
  refine lv_bipush (v := 19) X.x X.b dL_serial_962 kb_19 ?_
  refine lv_icmp_ne (tgt := 1034) X.x X.b dL_serial_964 (by decide) (fun h => absurd h (by decide)) (fun _ => ?_)
  refine lv_aload_n X.x X.b dL_serial_967 rfl (lv_at hl 1 rfl) ?_
  refine lv_iconst (v := 0) X.x X.b dL_serial_968 ki_0 ?_
  refine lv_bipush (v := 19) X.x X.b dL_serial_969 kb_19 ?_
  refine o_call (wr := []) Y Z hl hw (C_set l hT Δ 0 19 fc_106) wd_438 wd_439 wd_440 wd_19 wd_441 ok_X6_set rfl rfl (rest := []) rfl (Nat.le_of_ble_eq_true rfl) ⟨Nat.le_of_ble_eq_true rfl, Nat.le_of_ble_eq_true rfl⟩ ⟨Nat.le_of_ble_eq_true rfl, Nat.le_of_ble_eq_true rfl⟩ (c1 := 2655) (s1 := 24395) rfl rfl dL_serial_971 (fun ws H locs hw Z => ?_)
  refine lv_iconst (v := 4) X.x X.b dL_serial_974 ki_4 ?_
  refine lv_icmp_ne (tgt := 1034) X.x X.b dL_serial_975 (by decide) (fun h => absurd h (by decide)) (fun _ => ?_)
  exact SG_serial_10 l hT Δ Y Z hl hw
set_option maxRecDepth 100000 in
set_option maxHeartbeats 4000000 in
theorem SG_serial_8 (l : Launch) (hT : l.stackTraces = false) (Δ : zE) {p : Program} {e : Env} {s : State} {m : MethodId} {args : Array Value} {below : List Frame} {meth : Method} {c : Code} {A : Nat → Prop} (Y : zY Δ p l s m args meth c yL_serial cL_serial 3 (some .boolean) A) {H : Heap} {locs : List Loc} {ls : Array Slot} {a a2 : Nat} {ws : va_W} (Z : zW Δ A s.heap (ws ++ []) H locs) (hl : lv_has ls 3 [(2, .int 13), (1, .ref a2), (0, .ref a)]) (hw : wOb Δ a2 T_28 ws) : W p l e { frames := 12, cells := 3651, slots := 33605, locals := 235 } s m args below meth c H locs 2479 22751 (zEndX Δ below args s 3651 33605 A (fun rv w => rv = some (.int 1) ∧ w = []) (fun _ _ => False)) (F0 m 851 ls []) := by
  have X := Y.1
  refine lv_aload_n X.x X.b dL_serial_851 rfl (lv_at hl 1 rfl) ?_
  refine lv_iconst (v := 1) X.x X.b dL_serial_852 ki_1 ?_
  refine lv_iconst (v := 0) X.x X.b dL_serial_853 ki_0 ?_
  refine lv_iconst (v := 1) X.x X.b dL_serial_854 ki_1 ?_
  refine lv_iload_n X.x X.b dL_serial_855 rfl (lv_at hl 0 rfl) ?_
  refine lv_iadd X.x X.b dL_serial_856 ?_
  rw [show (1 : Int32) + 13 = 14 by decide]
  refine o_call (wr := []) Y Z hl hw (C_add l hT Δ 1 0 14 fc_91) wd_358 wd_359 wd_360 wd_19 wd_361 ok_X6_add rfl rfl (rest := []) rfl (Nat.le_of_ble_eq_true rfl) ⟨Nat.le_of_ble_eq_true rfl, Nat.le_of_ble_eq_true rfl⟩ ⟨Nat.le_of_ble_eq_true rfl, Nat.le_of_ble_eq_true rfl⟩ (c1 := 2493) (s1 := 22884) rfl rfl dL_serial_857 (fun ws H locs hw Z => ?_)
  refine lv_iload_n X.x X.b dL_serial_860 rfl (lv_at hl 0 rfl) ?_
  refine lv_icmp_eq (tgt := 866) X.x X.b dL_serial_861 (by decide) (fun _ => ?_) (fun h => absurd h (by decide))
  refine lv_iinc (v := 14) (lv' := [(2, .int 14), (1, .ref a2), (0, .ref a)]) X.x X.b dL_serial_866 hl (k := 0) rfl (by decide) (Nat.le_of_ble_eq_true rfl) rfl (fun ls hl => ?_)
  refine lv_goto (tgt := 845) X.x X.b dL_serial_869 (by decide) ?_
  refine lv_iload_n X.x X.b dL_serial_845 rfl (lv_at hl 0 rfl) ?_
  refine lv_bipush (v := 20) X.x X.b dL_serial_846 kb_20 ?_
  refine lv_icmp_ge (tgt := 872) X.x X.b dL_serial_848 (by decide) (fun h => absurd h (by decide)) (fun _ => ?_)
  refine lv_aload_n X.x X.b dL_serial_851 rfl (lv_at hl 1 rfl) ?_
  refine lv_iconst (v := 1) X.x X.b dL_serial_852 ki_1 ?_
  refine lv_iconst (v := 0) X.x X.b dL_serial_853 ki_0 ?_
  refine lv_iconst (v := 1) X.x X.b dL_serial_854 ki_1 ?_
  refine lv_iload_n X.x X.b dL_serial_855 rfl (lv_at hl 0 rfl) ?_
  refine lv_iadd X.x X.b dL_serial_856 ?_
  rw [show (1 : Int32) + 14 = 15 by decide]
  refine o_call (wr := []) Y Z hl hw (C_add l hT Δ 1 0 15 fc_92) wd_358 wd_359 wd_360 wd_19 wd_361 ok_X6_add rfl rfl (rest := []) rfl (Nat.le_of_ble_eq_true rfl) ⟨Nat.le_of_ble_eq_true rfl, Nat.le_of_ble_eq_true rfl⟩ ⟨Nat.le_of_ble_eq_true rfl, Nat.le_of_ble_eq_true rfl⟩ (c1 := 2507) (s1 := 23017) rfl rfl dL_serial_857 (fun ws H locs hw Z => ?_)
  refine lv_iload_n X.x X.b dL_serial_860 rfl (lv_at hl 0 rfl) ?_
  refine lv_icmp_eq (tgt := 866) X.x X.b dL_serial_861 (by decide) (fun _ => ?_) (fun h => absurd h (by decide))
  refine lv_iinc (v := 15) (lv' := [(2, .int 15), (1, .ref a2), (0, .ref a)]) X.x X.b dL_serial_866 hl (k := 0) rfl (by decide) (Nat.le_of_ble_eq_true rfl) rfl (fun ls hl => ?_)
  refine lv_goto (tgt := 845) X.x X.b dL_serial_869 (by decide) ?_
  refine lv_iload_n X.x X.b dL_serial_845 rfl (lv_at hl 0 rfl) ?_
  refine lv_bipush (v := 20) X.x X.b dL_serial_846 kb_20 ?_
  refine lv_icmp_ge (tgt := 872) X.x X.b dL_serial_848 (by decide) (fun h => absurd h (by decide)) (fun _ => ?_)
  refine lv_aload_n X.x X.b dL_serial_851 rfl (lv_at hl 1 rfl) ?_
  refine lv_iconst (v := 1) X.x X.b dL_serial_852 ki_1 ?_
  refine lv_iconst (v := 0) X.x X.b dL_serial_853 ki_0 ?_
  refine lv_iconst (v := 1) X.x X.b dL_serial_854 ki_1 ?_
  refine lv_iload_n X.x X.b dL_serial_855 rfl (lv_at hl 0 rfl) ?_
  refine lv_iadd X.x X.b dL_serial_856 ?_
  rw [show (1 : Int32) + 15 = 16 by decide]
  refine o_call (wr := []) Y Z hl hw (C_add l hT Δ 1 0 16 fc_93) wd_358 wd_359 wd_360 wd_19 wd_361 ok_X6_add rfl rfl (rest := []) rfl (Nat.le_of_ble_eq_true rfl) ⟨Nat.le_of_ble_eq_true rfl, Nat.le_of_ble_eq_true rfl⟩ ⟨Nat.le_of_ble_eq_true rfl, Nat.le_of_ble_eq_true rfl⟩ (c1 := 2521) (s1 := 23150) rfl rfl dL_serial_857 (fun ws H locs hw Z => ?_)
  refine lv_iload_n X.x X.b dL_serial_860 rfl (lv_at hl 0 rfl) ?_
  refine lv_icmp_eq (tgt := 866) X.x X.b dL_serial_861 (by decide) (fun _ => ?_) (fun h => absurd h (by decide))
  refine lv_iinc (v := 16) (lv' := [(2, .int 16), (1, .ref a2), (0, .ref a)]) X.x X.b dL_serial_866 hl (k := 0) rfl (by decide) (Nat.le_of_ble_eq_true rfl) rfl (fun ls hl => ?_)
  refine lv_goto (tgt := 845) X.x X.b dL_serial_869 (by decide) ?_
  refine lv_iload_n X.x X.b dL_serial_845 rfl (lv_at hl 0 rfl) ?_
  refine lv_bipush (v := 20) X.x X.b dL_serial_846 kb_20 ?_
  refine lv_icmp_ge (tgt := 872) X.x X.b dL_serial_848 (by decide) (fun h => absurd h (by decide)) (fun _ => ?_)
  refine lv_aload_n X.x X.b dL_serial_851 rfl (lv_at hl 1 rfl) ?_
  refine lv_iconst (v := 1) X.x X.b dL_serial_852 ki_1 ?_
  refine lv_iconst (v := 0) X.x X.b dL_serial_853 ki_0 ?_
  refine lv_iconst (v := 1) X.x X.b dL_serial_854 ki_1 ?_
  refine lv_iload_n X.x X.b dL_serial_855 rfl (lv_at hl 0 rfl) ?_
  refine lv_iadd X.x X.b dL_serial_856 ?_
  rw [show (1 : Int32) + 16 = 17 by decide]
  refine o_call (wr := []) Y Z hl hw (C_add l hT Δ 1 0 17 fc_94) wd_358 wd_359 wd_360 wd_19 wd_361 ok_X6_add rfl rfl (rest := []) rfl (Nat.le_of_ble_eq_true rfl) ⟨Nat.le_of_ble_eq_true rfl, Nat.le_of_ble_eq_true rfl⟩ ⟨Nat.le_of_ble_eq_true rfl, Nat.le_of_ble_eq_true rfl⟩ (c1 := 2535) (s1 := 23283) rfl rfl dL_serial_857 (fun ws H locs hw Z => ?_)
  refine lv_iload_n X.x X.b dL_serial_860 rfl (lv_at hl 0 rfl) ?_
  refine lv_icmp_eq (tgt := 866) X.x X.b dL_serial_861 (by decide) (fun _ => ?_) (fun h => absurd h (by decide))
  refine lv_iinc (v := 17) (lv' := [(2, .int 17), (1, .ref a2), (0, .ref a)]) X.x X.b dL_serial_866 hl (k := 0) rfl (by decide) (Nat.le_of_ble_eq_true rfl) rfl (fun ls hl => ?_)
  refine lv_goto (tgt := 845) X.x X.b dL_serial_869 (by decide) ?_
  refine lv_iload_n X.x X.b dL_serial_845 rfl (lv_at hl 0 rfl) ?_
  refine lv_bipush (v := 20) X.x X.b dL_serial_846 kb_20 ?_
  refine lv_icmp_ge (tgt := 872) X.x X.b dL_serial_848 (by decide) (fun h => absurd h (by decide)) (fun _ => ?_)
  refine lv_aload_n X.x X.b dL_serial_851 rfl (lv_at hl 1 rfl) ?_
  refine lv_iconst (v := 1) X.x X.b dL_serial_852 ki_1 ?_
  refine lv_iconst (v := 0) X.x X.b dL_serial_853 ki_0 ?_
  refine lv_iconst (v := 1) X.x X.b dL_serial_854 ki_1 ?_
  refine lv_iload_n X.x X.b dL_serial_855 rfl (lv_at hl 0 rfl) ?_
  refine lv_iadd X.x X.b dL_serial_856 ?_
  rw [show (1 : Int32) + 17 = 18 by decide]
  refine o_call (wr := []) Y Z hl hw (C_add l hT Δ 1 0 18 fc_95) wd_358 wd_359 wd_360 wd_19 wd_361 ok_X6_add rfl rfl (rest := []) rfl (Nat.le_of_ble_eq_true rfl) ⟨Nat.le_of_ble_eq_true rfl, Nat.le_of_ble_eq_true rfl⟩ ⟨Nat.le_of_ble_eq_true rfl, Nat.le_of_ble_eq_true rfl⟩ (c1 := 2549) (s1 := 23416) rfl rfl dL_serial_857 (fun ws H locs hw Z => ?_)
  refine lv_iload_n X.x X.b dL_serial_860 rfl (lv_at hl 0 rfl) ?_
  refine lv_icmp_eq (tgt := 866) X.x X.b dL_serial_861 (by decide) (fun _ => ?_) (fun h => absurd h (by decide))
  refine lv_iinc (v := 18) (lv' := [(2, .int 18), (1, .ref a2), (0, .ref a)]) X.x X.b dL_serial_866 hl (k := 0) rfl (by decide) (Nat.le_of_ble_eq_true rfl) rfl (fun ls hl => ?_)
  refine lv_goto (tgt := 845) X.x X.b dL_serial_869 (by decide) ?_
  refine lv_iload_n X.x X.b dL_serial_845 rfl (lv_at hl 0 rfl) ?_
  refine lv_bipush (v := 20) X.x X.b dL_serial_846 kb_20 ?_
  refine lv_icmp_ge (tgt := 872) X.x X.b dL_serial_848 (by decide) (fun h => absurd h (by decide)) (fun _ => ?_)
  refine lv_aload_n X.x X.b dL_serial_851 rfl (lv_at hl 1 rfl) ?_
  refine lv_iconst (v := 1) X.x X.b dL_serial_852 ki_1 ?_
  refine lv_iconst (v := 0) X.x X.b dL_serial_853 ki_0 ?_
  refine lv_iconst (v := 1) X.x X.b dL_serial_854 ki_1 ?_
  refine lv_iload_n X.x X.b dL_serial_855 rfl (lv_at hl 0 rfl) ?_
  refine lv_iadd X.x X.b dL_serial_856 ?_
  rw [show (1 : Int32) + 18 = 19 by decide]
  refine o_call (wr := []) Y Z hl hw (C_add l hT Δ 1 0 19 fc_96) wd_358 wd_359 wd_360 wd_19 wd_361 ok_X6_add rfl rfl (rest := []) rfl (Nat.le_of_ble_eq_true rfl) ⟨Nat.le_of_ble_eq_true rfl, Nat.le_of_ble_eq_true rfl⟩ ⟨Nat.le_of_ble_eq_true rfl, Nat.le_of_ble_eq_true rfl⟩ (c1 := 2563) (s1 := 23549) rfl rfl dL_serial_857 (fun ws H locs hw Z => ?_)
  refine lv_iload_n X.x X.b dL_serial_860 rfl (lv_at hl 0 rfl) ?_
  refine lv_icmp_eq (tgt := 866) X.x X.b dL_serial_861 (by decide) (fun _ => ?_) (fun h => absurd h (by decide))
  exact SG_serial_9 l hT Δ Y Z hl hw
set_option maxRecDepth 100000 in
set_option maxHeartbeats 4000000 in
theorem SG_serial_7 (l : Launch) (hT : l.stackTraces = false) (Δ : zE) {p : Program} {e : Env} {s : State} {m : MethodId} {args : Array Value} {below : List Frame} {meth : Method} {c : Code} {A : Nat → Prop} (Y : zY Δ p l s m args meth c yL_serial cL_serial 3 (some .boolean) A) {H : Heap} {locs : List Loc} {ls : Array Slot} {a a2 : Nat} {ws : va_W} (Z : zW Δ A s.heap (ws ++ []) H locs) (hl : lv_has ls 3 [(2, .int 6), (1, .ref a2), (0, .ref a)]) (hw : wOb Δ a2 T_22 ws) : W p l e { frames := 12, cells := 3651, slots := 33605, locals := 235 } s m args below meth c H locs 2395 21953 (zEndX Δ below args s 3651 33605 A (fun rv w => rv = some (.int 1) ∧ w = []) (fun _ _ => False)) (F0 m 866 ls []) := by
  have X := Y.1
  refine lv_iinc (v := 7) (lv' := [(2, .int 7), (1, .ref a2), (0, .ref a)]) X.x X.b dL_serial_866 hl (k := 0) rfl (by decide) (Nat.le_of_ble_eq_true rfl) rfl (fun ls hl => ?_)
  refine lv_goto (tgt := 845) X.x X.b dL_serial_869 (by decide) ?_
  refine lv_iload_n X.x X.b dL_serial_845 rfl (lv_at hl 0 rfl) ?_
  refine lv_bipush (v := 20) X.x X.b dL_serial_846 kb_20 ?_
  refine lv_icmp_ge (tgt := 872) X.x X.b dL_serial_848 (by decide) (fun h => absurd h (by decide)) (fun _ => ?_)
  refine lv_aload_n X.x X.b dL_serial_851 rfl (lv_at hl 1 rfl) ?_
  refine lv_iconst (v := 1) X.x X.b dL_serial_852 ki_1 ?_
  refine lv_iconst (v := 0) X.x X.b dL_serial_853 ki_0 ?_
  refine lv_iconst (v := 1) X.x X.b dL_serial_854 ki_1 ?_
  refine lv_iload_n X.x X.b dL_serial_855 rfl (lv_at hl 0 rfl) ?_
  refine lv_iadd X.x X.b dL_serial_856 ?_
  rw [show (1 : Int32) + 7 = 8 by decide]
  refine o_call (wr := []) Y Z hl hw (C_add l hT Δ 1 0 8 fc_85) wd_358 wd_359 wd_360 wd_19 wd_361 ok_X6_add rfl rfl (rest := []) rfl (Nat.le_of_ble_eq_true rfl) ⟨Nat.le_of_ble_eq_true rfl, Nat.le_of_ble_eq_true rfl⟩ ⟨Nat.le_of_ble_eq_true rfl, Nat.le_of_ble_eq_true rfl⟩ (c1 := 2409) (s1 := 22086) rfl rfl dL_serial_857 (fun ws H locs hw Z => ?_)
  refine lv_iload_n X.x X.b dL_serial_860 rfl (lv_at hl 0 rfl) ?_
  refine lv_icmp_eq (tgt := 866) X.x X.b dL_serial_861 (by decide) (fun _ => ?_) (fun h => absurd h (by decide))
  refine lv_iinc (v := 8) (lv' := [(2, .int 8), (1, .ref a2), (0, .ref a)]) X.x X.b dL_serial_866 hl (k := 0) rfl (by decide) (Nat.le_of_ble_eq_true rfl) rfl (fun ls hl => ?_)
  refine lv_goto (tgt := 845) X.x X.b dL_serial_869 (by decide) ?_
  refine lv_iload_n X.x X.b dL_serial_845 rfl (lv_at hl 0 rfl) ?_
  refine lv_bipush (v := 20) X.x X.b dL_serial_846 kb_20 ?_
  refine lv_icmp_ge (tgt := 872) X.x X.b dL_serial_848 (by decide) (fun h => absurd h (by decide)) (fun _ => ?_)
  refine lv_aload_n X.x X.b dL_serial_851 rfl (lv_at hl 1 rfl) ?_
  refine lv_iconst (v := 1) X.x X.b dL_serial_852 ki_1 ?_
  refine lv_iconst (v := 0) X.x X.b dL_serial_853 ki_0 ?_
  refine lv_iconst (v := 1) X.x X.b dL_serial_854 ki_1 ?_
  refine lv_iload_n X.x X.b dL_serial_855 rfl (lv_at hl 0 rfl) ?_
  refine lv_iadd X.x X.b dL_serial_856 ?_
  rw [show (1 : Int32) + 8 = 9 by decide]
  refine o_call (wr := []) Y Z hl hw (C_add l hT Δ 1 0 9 fc_86) wd_358 wd_359 wd_360 wd_19 wd_361 ok_X6_add rfl rfl (rest := []) rfl (Nat.le_of_ble_eq_true rfl) ⟨Nat.le_of_ble_eq_true rfl, Nat.le_of_ble_eq_true rfl⟩ ⟨Nat.le_of_ble_eq_true rfl, Nat.le_of_ble_eq_true rfl⟩ (c1 := 2423) (s1 := 22219) rfl rfl dL_serial_857 (fun ws H locs hw Z => ?_)
  refine lv_iload_n X.x X.b dL_serial_860 rfl (lv_at hl 0 rfl) ?_
  refine lv_icmp_eq (tgt := 866) X.x X.b dL_serial_861 (by decide) (fun _ => ?_) (fun h => absurd h (by decide))
  refine lv_iinc (v := 9) (lv' := [(2, .int 9), (1, .ref a2), (0, .ref a)]) X.x X.b dL_serial_866 hl (k := 0) rfl (by decide) (Nat.le_of_ble_eq_true rfl) rfl (fun ls hl => ?_)
  refine lv_goto (tgt := 845) X.x X.b dL_serial_869 (by decide) ?_
  refine lv_iload_n X.x X.b dL_serial_845 rfl (lv_at hl 0 rfl) ?_
  refine lv_bipush (v := 20) X.x X.b dL_serial_846 kb_20 ?_
  refine lv_icmp_ge (tgt := 872) X.x X.b dL_serial_848 (by decide) (fun h => absurd h (by decide)) (fun _ => ?_)
  refine lv_aload_n X.x X.b dL_serial_851 rfl (lv_at hl 1 rfl) ?_
  refine lv_iconst (v := 1) X.x X.b dL_serial_852 ki_1 ?_
  refine lv_iconst (v := 0) X.x X.b dL_serial_853 ki_0 ?_
  refine lv_iconst (v := 1) X.x X.b dL_serial_854 ki_1 ?_
  refine lv_iload_n X.x X.b dL_serial_855 rfl (lv_at hl 0 rfl) ?_
  refine lv_iadd X.x X.b dL_serial_856 ?_
  rw [show (1 : Int32) + 9 = 10 by decide]
  refine o_call (wr := []) Y Z hl hw (C_add l hT Δ 1 0 10 fc_87) wd_358 wd_359 wd_360 wd_19 wd_361 ok_X6_add rfl rfl (rest := []) rfl (Nat.le_of_ble_eq_true rfl) ⟨Nat.le_of_ble_eq_true rfl, Nat.le_of_ble_eq_true rfl⟩ ⟨Nat.le_of_ble_eq_true rfl, Nat.le_of_ble_eq_true rfl⟩ (c1 := 2437) (s1 := 22352) rfl rfl dL_serial_857 (fun ws H locs hw Z => ?_)
  refine lv_iload_n X.x X.b dL_serial_860 rfl (lv_at hl 0 rfl) ?_
  refine lv_icmp_eq (tgt := 866) X.x X.b dL_serial_861 (by decide) (fun _ => ?_) (fun h => absurd h (by decide))
  refine lv_iinc (v := 10) (lv' := [(2, .int 10), (1, .ref a2), (0, .ref a)]) X.x X.b dL_serial_866 hl (k := 0) rfl (by decide) (Nat.le_of_ble_eq_true rfl) rfl (fun ls hl => ?_)
  refine lv_goto (tgt := 845) X.x X.b dL_serial_869 (by decide) ?_
  refine lv_iload_n X.x X.b dL_serial_845 rfl (lv_at hl 0 rfl) ?_
  refine lv_bipush (v := 20) X.x X.b dL_serial_846 kb_20 ?_
  refine lv_icmp_ge (tgt := 872) X.x X.b dL_serial_848 (by decide) (fun h => absurd h (by decide)) (fun _ => ?_)
  refine lv_aload_n X.x X.b dL_serial_851 rfl (lv_at hl 1 rfl) ?_
  refine lv_iconst (v := 1) X.x X.b dL_serial_852 ki_1 ?_
  refine lv_iconst (v := 0) X.x X.b dL_serial_853 ki_0 ?_
  refine lv_iconst (v := 1) X.x X.b dL_serial_854 ki_1 ?_
  refine lv_iload_n X.x X.b dL_serial_855 rfl (lv_at hl 0 rfl) ?_
  refine lv_iadd X.x X.b dL_serial_856 ?_
  rw [show (1 : Int32) + 10 = 11 by decide]
  refine o_call (wr := []) Y Z hl hw (C_add l hT Δ 1 0 11 fc_88) wd_358 wd_359 wd_360 wd_19 wd_361 ok_X6_add rfl rfl (rest := []) rfl (Nat.le_of_ble_eq_true rfl) ⟨Nat.le_of_ble_eq_true rfl, Nat.le_of_ble_eq_true rfl⟩ ⟨Nat.le_of_ble_eq_true rfl, Nat.le_of_ble_eq_true rfl⟩ (c1 := 2451) (s1 := 22485) rfl rfl dL_serial_857 (fun ws H locs hw Z => ?_)
  refine lv_iload_n X.x X.b dL_serial_860 rfl (lv_at hl 0 rfl) ?_
  refine lv_icmp_eq (tgt := 866) X.x X.b dL_serial_861 (by decide) (fun _ => ?_) (fun h => absurd h (by decide))
  refine lv_iinc (v := 11) (lv' := [(2, .int 11), (1, .ref a2), (0, .ref a)]) X.x X.b dL_serial_866 hl (k := 0) rfl (by decide) (Nat.le_of_ble_eq_true rfl) rfl (fun ls hl => ?_)
  refine lv_goto (tgt := 845) X.x X.b dL_serial_869 (by decide) ?_
  refine lv_iload_n X.x X.b dL_serial_845 rfl (lv_at hl 0 rfl) ?_
  refine lv_bipush (v := 20) X.x X.b dL_serial_846 kb_20 ?_
  refine lv_icmp_ge (tgt := 872) X.x X.b dL_serial_848 (by decide) (fun h => absurd h (by decide)) (fun _ => ?_)
  refine lv_aload_n X.x X.b dL_serial_851 rfl (lv_at hl 1 rfl) ?_
  refine lv_iconst (v := 1) X.x X.b dL_serial_852 ki_1 ?_
  refine lv_iconst (v := 0) X.x X.b dL_serial_853 ki_0 ?_
  refine lv_iconst (v := 1) X.x X.b dL_serial_854 ki_1 ?_
  refine lv_iload_n X.x X.b dL_serial_855 rfl (lv_at hl 0 rfl) ?_
  refine lv_iadd X.x X.b dL_serial_856 ?_
  rw [show (1 : Int32) + 11 = 12 by decide]
  refine o_call (wr := []) Y Z hl hw (C_add l hT Δ 1 0 12 fc_89) wd_358 wd_359 wd_360 wd_19 wd_361 ok_X6_add rfl rfl (rest := []) rfl (Nat.le_of_ble_eq_true rfl) ⟨Nat.le_of_ble_eq_true rfl, Nat.le_of_ble_eq_true rfl⟩ ⟨Nat.le_of_ble_eq_true rfl, Nat.le_of_ble_eq_true rfl⟩ (c1 := 2465) (s1 := 22618) rfl rfl dL_serial_857 (fun ws H locs hw Z => ?_)
  refine lv_iload_n X.x X.b dL_serial_860 rfl (lv_at hl 0 rfl) ?_
  refine lv_icmp_eq (tgt := 866) X.x X.b dL_serial_861 (by decide) (fun _ => ?_) (fun h => absurd h (by decide))
  refine lv_iinc (v := 12) (lv' := [(2, .int 12), (1, .ref a2), (0, .ref a)]) X.x X.b dL_serial_866 hl (k := 0) rfl (by decide) (Nat.le_of_ble_eq_true rfl) rfl (fun ls hl => ?_)
  refine lv_goto (tgt := 845) X.x X.b dL_serial_869 (by decide) ?_
  refine lv_iload_n X.x X.b dL_serial_845 rfl (lv_at hl 0 rfl) ?_
  refine lv_bipush (v := 20) X.x X.b dL_serial_846 kb_20 ?_
  refine lv_icmp_ge (tgt := 872) X.x X.b dL_serial_848 (by decide) (fun h => absurd h (by decide)) (fun _ => ?_)
  refine lv_aload_n X.x X.b dL_serial_851 rfl (lv_at hl 1 rfl) ?_
  refine lv_iconst (v := 1) X.x X.b dL_serial_852 ki_1 ?_
  refine lv_iconst (v := 0) X.x X.b dL_serial_853 ki_0 ?_
  refine lv_iconst (v := 1) X.x X.b dL_serial_854 ki_1 ?_
  refine lv_iload_n X.x X.b dL_serial_855 rfl (lv_at hl 0 rfl) ?_
  refine lv_iadd X.x X.b dL_serial_856 ?_
  rw [show (1 : Int32) + 12 = 13 by decide]
  refine o_call (wr := []) Y Z hl hw (C_add l hT Δ 1 0 13 fc_90) wd_358 wd_359 wd_360 wd_19 wd_361 ok_X6_add rfl rfl (rest := []) rfl (Nat.le_of_ble_eq_true rfl) ⟨Nat.le_of_ble_eq_true rfl, Nat.le_of_ble_eq_true rfl⟩ ⟨Nat.le_of_ble_eq_true rfl, Nat.le_of_ble_eq_true rfl⟩ (c1 := 2479) (s1 := 22751) rfl rfl dL_serial_857 (fun ws H locs hw Z => ?_)
  refine lv_iload_n X.x X.b dL_serial_860 rfl (lv_at hl 0 rfl) ?_
  refine lv_icmp_eq (tgt := 866) X.x X.b dL_serial_861 (by decide) (fun _ => ?_) (fun h => absurd h (by decide))
  refine lv_iinc (v := 13) (lv' := [(2, .int 13), (1, .ref a2), (0, .ref a)]) X.x X.b dL_serial_866 hl (k := 0) rfl (by decide) (Nat.le_of_ble_eq_true rfl) rfl (fun ls hl => ?_)
  refine lv_goto (tgt := 845) X.x X.b dL_serial_869 (by decide) ?_
  refine lv_iload_n X.x X.b dL_serial_845 rfl (lv_at hl 0 rfl) ?_
  refine lv_bipush (v := 20) X.x X.b dL_serial_846 kb_20 ?_
  refine lv_icmp_ge (tgt := 872) X.x X.b dL_serial_848 (by decide) (fun h => absurd h (by decide)) (fun _ => ?_)
  exact SG_serial_8 l hT Δ Y Z hl hw
set_option maxRecDepth 100000 in
set_option maxHeartbeats 4000000 in
theorem SG_serial_6 (l : Launch) (hT : l.stackTraces = false) (Δ : zE) {p : Program} {e : Env} {s : State} {m : MethodId} {args : Array Value} {below : List Frame} {meth : Method} {c : Code} {A : Nat → Prop} (Y : zY Δ p l s m args meth c yL_serial cL_serial 3 (some .boolean) A) {H : Heap} {locs : List Loc} {ls : Array Slot} {a a2 : Nat} {ws : va_W} (Z : zW Δ A s.heap (ws ++ []) H locs) (hl : lv_has ls 3 [(2, .int 1), (1, .ref a2), (0, .ref a)]) (hw : wOb Δ a2 T_16 ws) : W p l e { frames := 12, cells := 3651, slots := 33605, locals := 235 } s m args below meth c H locs 2311 21155 (zEndX Δ below args s 3651 33605 A (fun rv w => rv = some (.int 1) ∧ w = []) (fun _ _ => False)) (F0 m 851 ls []) := by
  have X := Y.1
  refine lv_aload_n X.x X.b dL_serial_851 rfl (lv_at hl 1 rfl) ?_
  refine lv_iconst (v := 1) X.x X.b dL_serial_852 ki_1 ?_
  refine lv_iconst (v := 0) X.x X.b dL_serial_853 ki_0 ?_
  refine lv_iconst (v := 1) X.x X.b dL_serial_854 ki_1 ?_
  refine lv_iload_n X.x X.b dL_serial_855 rfl (lv_at hl 0 rfl) ?_
  refine lv_iadd X.x X.b dL_serial_856 ?_
  rw [show (1 : Int32) + 1 = 2 by decide]
  refine o_call (wr := []) Y Z hl hw (C_add l hT Δ 1 0 2 fc_79) wd_358 wd_359 wd_360 wd_19 wd_361 ok_X6_add rfl rfl (rest := []) rfl (Nat.le_of_ble_eq_true rfl) ⟨Nat.le_of_ble_eq_true rfl, Nat.le_of_ble_eq_true rfl⟩ ⟨Nat.le_of_ble_eq_true rfl, Nat.le_of_ble_eq_true rfl⟩ (c1 := 2325) (s1 := 21288) rfl rfl dL_serial_857 (fun ws H locs hw Z => ?_)
  refine lv_iload_n X.x X.b dL_serial_860 rfl (lv_at hl 0 rfl) ?_
  refine lv_icmp_eq (tgt := 866) X.x X.b dL_serial_861 (by decide) (fun _ => ?_) (fun h => absurd h (by decide))
  refine lv_iinc (v := 2) (lv' := [(2, .int 2), (1, .ref a2), (0, .ref a)]) X.x X.b dL_serial_866 hl (k := 0) rfl (by decide) (Nat.le_of_ble_eq_true rfl) rfl (fun ls hl => ?_)
  refine lv_goto (tgt := 845) X.x X.b dL_serial_869 (by decide) ?_
  refine lv_iload_n X.x X.b dL_serial_845 rfl (lv_at hl 0 rfl) ?_
  refine lv_bipush (v := 20) X.x X.b dL_serial_846 kb_20 ?_
  refine lv_icmp_ge (tgt := 872) X.x X.b dL_serial_848 (by decide) (fun h => absurd h (by decide)) (fun _ => ?_)
  refine lv_aload_n X.x X.b dL_serial_851 rfl (lv_at hl 1 rfl) ?_
  refine lv_iconst (v := 1) X.x X.b dL_serial_852 ki_1 ?_
  refine lv_iconst (v := 0) X.x X.b dL_serial_853 ki_0 ?_
  refine lv_iconst (v := 1) X.x X.b dL_serial_854 ki_1 ?_
  refine lv_iload_n X.x X.b dL_serial_855 rfl (lv_at hl 0 rfl) ?_
  refine lv_iadd X.x X.b dL_serial_856 ?_
  rw [show (1 : Int32) + 2 = 3 by decide]
  refine o_call (wr := []) Y Z hl hw (C_add l hT Δ 1 0 3 fc_80) wd_358 wd_359 wd_360 wd_19 wd_361 ok_X6_add rfl rfl (rest := []) rfl (Nat.le_of_ble_eq_true rfl) ⟨Nat.le_of_ble_eq_true rfl, Nat.le_of_ble_eq_true rfl⟩ ⟨Nat.le_of_ble_eq_true rfl, Nat.le_of_ble_eq_true rfl⟩ (c1 := 2339) (s1 := 21421) rfl rfl dL_serial_857 (fun ws H locs hw Z => ?_)
  refine lv_iload_n X.x X.b dL_serial_860 rfl (lv_at hl 0 rfl) ?_
  refine lv_icmp_eq (tgt := 866) X.x X.b dL_serial_861 (by decide) (fun _ => ?_) (fun h => absurd h (by decide))
  refine lv_iinc (v := 3) (lv' := [(2, .int 3), (1, .ref a2), (0, .ref a)]) X.x X.b dL_serial_866 hl (k := 0) rfl (by decide) (Nat.le_of_ble_eq_true rfl) rfl (fun ls hl => ?_)
  refine lv_goto (tgt := 845) X.x X.b dL_serial_869 (by decide) ?_
  refine lv_iload_n X.x X.b dL_serial_845 rfl (lv_at hl 0 rfl) ?_
  refine lv_bipush (v := 20) X.x X.b dL_serial_846 kb_20 ?_
  refine lv_icmp_ge (tgt := 872) X.x X.b dL_serial_848 (by decide) (fun h => absurd h (by decide)) (fun _ => ?_)
  refine lv_aload_n X.x X.b dL_serial_851 rfl (lv_at hl 1 rfl) ?_
  refine lv_iconst (v := 1) X.x X.b dL_serial_852 ki_1 ?_
  refine lv_iconst (v := 0) X.x X.b dL_serial_853 ki_0 ?_
  refine lv_iconst (v := 1) X.x X.b dL_serial_854 ki_1 ?_
  refine lv_iload_n X.x X.b dL_serial_855 rfl (lv_at hl 0 rfl) ?_
  refine lv_iadd X.x X.b dL_serial_856 ?_
  rw [show (1 : Int32) + 3 = 4 by decide]
  refine o_call (wr := []) Y Z hl hw (C_add l hT Δ 1 0 4 fc_81) wd_358 wd_359 wd_360 wd_19 wd_361 ok_X6_add rfl rfl (rest := []) rfl (Nat.le_of_ble_eq_true rfl) ⟨Nat.le_of_ble_eq_true rfl, Nat.le_of_ble_eq_true rfl⟩ ⟨Nat.le_of_ble_eq_true rfl, Nat.le_of_ble_eq_true rfl⟩ (c1 := 2353) (s1 := 21554) rfl rfl dL_serial_857 (fun ws H locs hw Z => ?_)
  refine lv_iload_n X.x X.b dL_serial_860 rfl (lv_at hl 0 rfl) ?_
  refine lv_icmp_eq (tgt := 866) X.x X.b dL_serial_861 (by decide) (fun _ => ?_) (fun h => absurd h (by decide))
  refine lv_iinc (v := 4) (lv' := [(2, .int 4), (1, .ref a2), (0, .ref a)]) X.x X.b dL_serial_866 hl (k := 0) rfl (by decide) (Nat.le_of_ble_eq_true rfl) rfl (fun ls hl => ?_)
  refine lv_goto (tgt := 845) X.x X.b dL_serial_869 (by decide) ?_
  refine lv_iload_n X.x X.b dL_serial_845 rfl (lv_at hl 0 rfl) ?_
  refine lv_bipush (v := 20) X.x X.b dL_serial_846 kb_20 ?_
  refine lv_icmp_ge (tgt := 872) X.x X.b dL_serial_848 (by decide) (fun h => absurd h (by decide)) (fun _ => ?_)
  refine lv_aload_n X.x X.b dL_serial_851 rfl (lv_at hl 1 rfl) ?_
  refine lv_iconst (v := 1) X.x X.b dL_serial_852 ki_1 ?_
  refine lv_iconst (v := 0) X.x X.b dL_serial_853 ki_0 ?_
  refine lv_iconst (v := 1) X.x X.b dL_serial_854 ki_1 ?_
  refine lv_iload_n X.x X.b dL_serial_855 rfl (lv_at hl 0 rfl) ?_
  refine lv_iadd X.x X.b dL_serial_856 ?_
  rw [show (1 : Int32) + 4 = 5 by decide]
  refine o_call (wr := []) Y Z hl hw (C_add l hT Δ 1 0 5 fc_82) wd_358 wd_359 wd_360 wd_19 wd_361 ok_X6_add rfl rfl (rest := []) rfl (Nat.le_of_ble_eq_true rfl) ⟨Nat.le_of_ble_eq_true rfl, Nat.le_of_ble_eq_true rfl⟩ ⟨Nat.le_of_ble_eq_true rfl, Nat.le_of_ble_eq_true rfl⟩ (c1 := 2367) (s1 := 21687) rfl rfl dL_serial_857 (fun ws H locs hw Z => ?_)
  refine lv_iload_n X.x X.b dL_serial_860 rfl (lv_at hl 0 rfl) ?_
  refine lv_icmp_eq (tgt := 866) X.x X.b dL_serial_861 (by decide) (fun _ => ?_) (fun h => absurd h (by decide))
  refine lv_iinc (v := 5) (lv' := [(2, .int 5), (1, .ref a2), (0, .ref a)]) X.x X.b dL_serial_866 hl (k := 0) rfl (by decide) (Nat.le_of_ble_eq_true rfl) rfl (fun ls hl => ?_)
  refine lv_goto (tgt := 845) X.x X.b dL_serial_869 (by decide) ?_
  refine lv_iload_n X.x X.b dL_serial_845 rfl (lv_at hl 0 rfl) ?_
  refine lv_bipush (v := 20) X.x X.b dL_serial_846 kb_20 ?_
  refine lv_icmp_ge (tgt := 872) X.x X.b dL_serial_848 (by decide) (fun h => absurd h (by decide)) (fun _ => ?_)
  refine lv_aload_n X.x X.b dL_serial_851 rfl (lv_at hl 1 rfl) ?_
  refine lv_iconst (v := 1) X.x X.b dL_serial_852 ki_1 ?_
  refine lv_iconst (v := 0) X.x X.b dL_serial_853 ki_0 ?_
  refine lv_iconst (v := 1) X.x X.b dL_serial_854 ki_1 ?_
  refine lv_iload_n X.x X.b dL_serial_855 rfl (lv_at hl 0 rfl) ?_
  refine lv_iadd X.x X.b dL_serial_856 ?_
  rw [show (1 : Int32) + 5 = 6 by decide]
  refine o_call (wr := []) Y Z hl hw (C_add l hT Δ 1 0 6 fc_83) wd_358 wd_359 wd_360 wd_19 wd_361 ok_X6_add rfl rfl (rest := []) rfl (Nat.le_of_ble_eq_true rfl) ⟨Nat.le_of_ble_eq_true rfl, Nat.le_of_ble_eq_true rfl⟩ ⟨Nat.le_of_ble_eq_true rfl, Nat.le_of_ble_eq_true rfl⟩ (c1 := 2381) (s1 := 21820) rfl rfl dL_serial_857 (fun ws H locs hw Z => ?_)
  refine lv_iload_n X.x X.b dL_serial_860 rfl (lv_at hl 0 rfl) ?_
  refine lv_icmp_eq (tgt := 866) X.x X.b dL_serial_861 (by decide) (fun _ => ?_) (fun h => absurd h (by decide))
  refine lv_iinc (v := 6) (lv' := [(2, .int 6), (1, .ref a2), (0, .ref a)]) X.x X.b dL_serial_866 hl (k := 0) rfl (by decide) (Nat.le_of_ble_eq_true rfl) rfl (fun ls hl => ?_)
  refine lv_goto (tgt := 845) X.x X.b dL_serial_869 (by decide) ?_
  refine lv_iload_n X.x X.b dL_serial_845 rfl (lv_at hl 0 rfl) ?_
  refine lv_bipush (v := 20) X.x X.b dL_serial_846 kb_20 ?_
  refine lv_icmp_ge (tgt := 872) X.x X.b dL_serial_848 (by decide) (fun h => absurd h (by decide)) (fun _ => ?_)
  refine lv_aload_n X.x X.b dL_serial_851 rfl (lv_at hl 1 rfl) ?_
  refine lv_iconst (v := 1) X.x X.b dL_serial_852 ki_1 ?_
  refine lv_iconst (v := 0) X.x X.b dL_serial_853 ki_0 ?_
  refine lv_iconst (v := 1) X.x X.b dL_serial_854 ki_1 ?_
  refine lv_iload_n X.x X.b dL_serial_855 rfl (lv_at hl 0 rfl) ?_
  refine lv_iadd X.x X.b dL_serial_856 ?_
  rw [show (1 : Int32) + 6 = 7 by decide]
  refine o_call (wr := []) Y Z hl hw (C_add l hT Δ 1 0 7 fc_84) wd_358 wd_359 wd_360 wd_19 wd_361 ok_X6_add rfl rfl (rest := []) rfl (Nat.le_of_ble_eq_true rfl) ⟨Nat.le_of_ble_eq_true rfl, Nat.le_of_ble_eq_true rfl⟩ ⟨Nat.le_of_ble_eq_true rfl, Nat.le_of_ble_eq_true rfl⟩ (c1 := 2395) (s1 := 21953) rfl rfl dL_serial_857 (fun ws H locs hw Z => ?_)
  refine lv_iload_n X.x X.b dL_serial_860 rfl (lv_at hl 0 rfl) ?_
  refine lv_icmp_eq (tgt := 866) X.x X.b dL_serial_861 (by decide) (fun _ => ?_) (fun h => absurd h (by decide))
  exact SG_serial_7 l hT Δ Y Z hl hw
set_option maxRecDepth 100000 in
set_option maxHeartbeats 4000000 in
theorem SG_serial_5 (l : Launch) (hT : l.stackTraces = false) (Δ : zE) {p : Program} {e : Env} {s : State} {m : MethodId} {args : Array Value} {below : List Frame} {meth : Method} {c : Code} {A : Nat → Prop} (Y : zY Δ p l s m args meth c yL_serial cL_serial 3 (some .boolean) A) {H : Heap} {locs : List Loc} {ls : Array Slot} {a : Nat} {ws : va_W} (Z : zW Δ A s.heap (ws ++ []) H locs) (hl : lv_has ls 3 [(0, .ref a)]) (hw : wOb Δ a T_12 ws) : W p l e { frames := 12, cells := 3651, slots := 33605, locals := 235 } s m args below meth c H locs 1287 11685 (zEndX Δ below args s 3651 33605 A (fun rv w => rv = some (.int 1) ∧ w = []) (fun _ _ => False)) (F0 m 728 ls []) := by
  have X := Y.1
  refine lv_aload_n X.x X.b dL_serial_728 rfl (lv_at hl 0 rfl) ?_
  refine lv_iconst (v := 3) X.x X.b dL_serial_729 ki_3 ?_
  refine lv_iconst (v := 2) X.x X.b dL_serial_730 ki_2 ?_
  refine lv_iconst (v := (-1)) X.x X.b dL_serial_731 ki_m1 ?_
  refine o_call (wr := []) Y Z hl hw (C_change l hT Δ 3 2 (-1) fc_68) wd_386 wd_387 wd_388 wd_19 wd_389 ok_X6_change rfl rfl (rest := []) rfl (Nat.le_of_ble_eq_true rfl) ⟨Nat.le_of_ble_eq_true rfl, Nat.le_of_ble_eq_true rfl⟩ ⟨Nat.le_of_ble_eq_true rfl, Nat.le_of_ble_eq_true rfl⟩ (c1 := 1302) (s1 := 11824) rfl rfl dL_serial_732 (fun ws H locs hw Z => ?_)
  refine lv_iconst (v := 5) X.x X.b dL_serial_735 ki_5 ?_
  refine lv_icmp_ne (tgt := 833) X.x X.b dL_serial_736 (by decide) (fun h => absurd h (by decide)) (fun _ => ?_)
  refine lv_aload_n X.x X.b dL_serial_739 rfl (lv_at hl 0 rfl) ?_
  refine lv_iconst (v := 3) X.x X.b dL_serial_740 ki_3 ?_
  refine lv_iconst (v := 3) X.x X.b dL_serial_741 ki_3 ?_
  refine o_call (wr := []) Y Z hl hw (C_part l hT Δ 3 3 fc_69) wd_584 wd_585 wd_586 wd_19 wd_587 ok_X6_part rfl rfl (rest := []) rfl (Nat.le_of_ble_eq_true rfl) ⟨Nat.le_of_ble_eq_true rfl, Nat.le_of_ble_eq_true rfl⟩ ⟨Nat.le_of_ble_eq_true rfl, Nat.le_of_ble_eq_true rfl⟩ (c1 := 1304) (s1 := 11836) rfl rfl dL_serial_742 (fun ws H locs hw Z => ?_)
  refine lv_iconst (v := 4) X.x X.b dL_serial_745 ki_4 ?_
  refine lv_icmp_ne (tgt := 833) X.x X.b dL_serial_746 (by decide) (fun h => absurd h (by decide)) (fun _ => ?_)
  refine lv_aload_n X.x X.b dL_serial_749 rfl (lv_at hl 0 rfl) ?_
  refine lv_iconst (v := 3) X.x X.b dL_serial_750 ki_3 ?_
  refine lv_iconst (v := 2) X.x X.b dL_serial_751 ki_2 ?_
  refine o_call (wr := []) Y Z hl hw (C_part l hT Δ 3 2 fc_70) wd_584 wd_585 wd_586 wd_19 wd_587 ok_X6_part rfl rfl (rest := []) rfl (Nat.le_of_ble_eq_true rfl) ⟨Nat.le_of_ble_eq_true rfl, Nat.le_of_ble_eq_true rfl⟩ ⟨Nat.le_of_ble_eq_true rfl, Nat.le_of_ble_eq_true rfl⟩ (c1 := 1306) (s1 := 11848) rfl rfl dL_serial_752 (fun ws H locs hw Z => ?_)
  refine lv_bipush (v := 99) X.x X.b dL_serial_755 kb_99 ?_
  refine lv_icmp_ne (tgt := 833) X.x X.b dL_serial_757 (by decide) (fun h => absurd h (by decide)) (fun _ => ?_)
  refine lv_aload_n X.x X.b dL_serial_760 rfl (lv_at hl 0 rfl) ?_
  refine lv_iconst (v := 0) X.x X.b dL_serial_761 ki_0 ?_
  refine lv_iconst (v := 3) X.x X.b dL_serial_762 ki_3 ?_
  refine o_call (wr := []) Y Z hl hw (C_knows l hT Δ 0 3 fc_71) wd_597 wd_598 wd_599 wd_19 wd_600 ok_X6_knows rfl rfl (rest := []) rfl (Nat.le_of_ble_eq_true rfl) ⟨Nat.le_of_ble_eq_true rfl, Nat.le_of_ble_eq_true rfl⟩ ⟨Nat.le_of_ble_eq_true rfl, Nat.le_of_ble_eq_true rfl⟩ (c1 := 1308) (s1 := 11860) rfl rfl dL_serial_763 (fun ws H locs hw Z => ?_)
  refine lv_iconst (v := 2) X.x X.b dL_serial_766 ki_2 ?_
  refine lv_icmp_ne (tgt := 833) X.x X.b dL_serial_767 (by decide) (fun h => absurd h (by decide)) (fun _ => ?_)
  refine lv_aload_n X.x X.b dL_serial_770 rfl (lv_at hl 0 rfl) ?_
  refine lv_bipush (v := 6) X.x X.b dL_serial_771 kb_6 ?_
  refine o_call (wr := []) Y Z hl hw (C_count l hT Δ 6 fc_72) wd_290 wd_291 wd_292 wd_19 wd_293 ok_X6_count rfl rfl (rest := []) rfl (Nat.le_of_ble_eq_true rfl) ⟨Nat.le_of_ble_eq_true rfl, Nat.le_of_ble_eq_true rfl⟩ ⟨Nat.le_of_ble_eq_true rfl, Nat.le_of_ble_eq_true rfl⟩ (c1 := 1309) (s1 := 11866) rfl rfl dL_serial_773 (fun ws H locs hw Z => ?_)
  refine lv_bipush (v := 6) X.x X.b dL_serial_776 kb_6 ?_
  refine lv_icmp_ne (tgt := 833) X.x X.b dL_serial_778 (by decide) (fun h => absurd h (by decide)) (fun _ => ?_)
  refine lv_aload_n X.x X.b dL_serial_781 rfl (lv_at hl 0 rfl) ?_
  refine o_call (wr := []) Y Z hl hw (C_undo l hT Δ  fc_73) wd_193 wd_194 wd_195 wd_19 wd_196 ok_X6_undo rfl rfl (rest := []) rfl (Nat.le_of_ble_eq_true rfl) ⟨Nat.le_of_ble_eq_true rfl, Nat.le_of_ble_eq_true rfl⟩ ⟨Nat.le_of_ble_eq_true rfl, Nat.le_of_ble_eq_true rfl⟩ (c1 := 1310) (s1 := 11872) rfl rfl dL_serial_782 (fun ws H locs hw Z => ?_)
  refine lv_iconst (v := 5) X.x X.b dL_serial_785 ki_5 ?_
  refine lv_icmp_ne (tgt := 833) X.x X.b dL_serial_786 (by decide) (fun h => absurd h (by decide)) (fun _ => ?_)
  refine lv_aload_n X.x X.b dL_serial_789 rfl (lv_at hl 0 rfl) ?_
  refine lv_iconst (v := 3) X.x X.b dL_serial_790 ki_3 ?_
  refine lv_iconst (v := 0) X.x X.b dL_serial_791 ki_0 ?_
  refine o_call (wr := []) Y Z hl hw (C_part l hT Δ 3 0 fc_74) wd_584 wd_585 wd_586 wd_19 wd_587 ok_X6_part rfl rfl (rest := []) rfl (Nat.le_of_ble_eq_true rfl) ⟨Nat.le_of_ble_eq_true rfl, Nat.le_of_ble_eq_true rfl⟩ ⟨Nat.le_of_ble_eq_true rfl, Nat.le_of_ble_eq_true rfl⟩ (c1 := 1312) (s1 := 11884) rfl rfl dL_serial_792 (fun ws H locs hw Z => ?_)
  refine lv_iconst (v := 5) X.x X.b dL_serial_795 ki_5 ?_
  refine lv_icmp_ne (tgt := 833) X.x X.b dL_serial_796 (by decide) (fun h => absurd h (by decide)) (fun _ => ?_)
  refine lv_aload_n X.x X.b dL_serial_799 rfl (lv_at hl 0 rfl) ?_
  refine o_call (wr := []) Y Z hl hw (C_undo l hT Δ  fc_75) wd_193 wd_194 wd_195 wd_19 wd_196 ok_X6_undo rfl rfl (rest := []) rfl (Nat.le_of_ble_eq_true rfl) ⟨Nat.le_of_ble_eq_true rfl, Nat.le_of_ble_eq_true rfl⟩ ⟨Nat.le_of_ble_eq_true rfl, Nat.le_of_ble_eq_true rfl⟩ (c1 := 1313) (s1 := 11890) rfl rfl dL_serial_800 (fun ws H locs hw Z => ?_)
  refine lv_iconst (v := 4) X.x X.b dL_serial_803 ki_4 ?_
  refine lv_icmp_ne (tgt := 833) X.x X.b dL_serial_804 (by decide) (fun h => absurd h (by decide)) (fun _ => ?_)
  refine lv_aload_n X.x X.b dL_serial_807 rfl (lv_at hl 0 rfl) ?_
  refine lv_iconst (v := 0) X.x X.b dL_serial_808 ki_0 ?_
  refine o_call (wr := []) Y Z hl hw (C_count l hT Δ 0 fc_76) wd_290 wd_291 wd_292 wd_19 wd_293 ok_X6_count rfl rfl (rest := []) rfl (Nat.le_of_ble_eq_true rfl) ⟨Nat.le_of_ble_eq_true rfl, Nat.le_of_ble_eq_true rfl⟩ ⟨Nat.le_of_ble_eq_true rfl, Nat.le_of_ble_eq_true rfl⟩ (c1 := 1314) (s1 := 11896) rfl rfl dL_serial_809 (fun ws H locs hw Z => ?_)
  refine lv_iconst (v := 5) X.x X.b dL_serial_812 ki_5 ?_
  refine lv_icmp_ne (tgt := 833) X.x X.b dL_serial_813 (by decide) (fun h => absurd h (by decide)) (fun _ => ?_)
  refine lv_aload_n X.x X.b dL_serial_816 rfl (lv_at hl 0 rfl) ?_
  refine lv_iconst (v := 0) X.x X.b dL_serial_817 ki_0 ?_
  refine lv_iconst (v := 4) X.x X.b dL_serial_818 ki_4 ?_
  refine o_call (wr := []) Y Z hl hw (C_knows l hT Δ 0 4 fc_77) wd_597 wd_598 wd_599 wd_19 wd_600 ok_X6_knows rfl rfl (rest := []) rfl (Nat.le_of_ble_eq_true rfl) ⟨Nat.le_of_ble_eq_true rfl, Nat.le_of_ble_eq_true rfl⟩ ⟨Nat.le_of_ble_eq_true rfl, Nat.le_of_ble_eq_true rfl⟩ (c1 := 1316) (s1 := 11908) rfl rfl dL_serial_819 (fun ws H locs hw Z => ?_)
  refine lv_iconst (v := 2) X.x X.b dL_serial_822 ki_2 ?_
  refine lv_icmp_ne (tgt := 833) X.x X.b dL_serial_823 (by decide) (fun h => absurd h (by decide)) (fun _ => ?_)
  refine lv_aload_n X.x X.b dL_serial_826 rfl (lv_at hl 0 rfl) ?_
  obtain ⟨dv, hdv⟩ := dg_tot (b := T_15) (n := 5) (m := 0) (by decide) (by decide +kernel) (by decide) (by decide +kernel) ⟨2, by decide, by decide +kernel⟩
  refine o_stat (wr := []) Y Z hl (M_refused l hT Δ (by decide +kernel) hdv a ws hw) wd_674 wd_675 wd_18 wd_676 ok_L_refused rfl (rest := []) rfl (Nat.le_of_ble_eq_true rfl) ⟨Nat.le_of_ble_eq_true rfl, Nat.le_of_ble_eq_true rfl⟩ ⟨Nat.le_of_ble_eq_true rfl, Nat.le_of_ble_eq_true rfl⟩ (c1 := 2278) (s1 := 20816) rfl rfl dL_serial_827 (fun rv ws H locs hP Z => ?_)
  obtain ⟨rfl, hw⟩ := hP
  refine W.eq (g2 := F0 m 830 ls [.int 1]) rfl ?_
  refine lv_if_ne (tgt := 835) X.x X.b dL_serial_830 (by decide) (fun _ => ?_) (fun h => absurd h (by decide))
  refine o_new (rest := []) Y Z hl wd_35 wd_36 wd_19 wd_37 wd_38 wd_39 ok_X6_init (Nat.le_of_ble_eq_true rfl) ⟨Nat.le_of_ble_eq_true rfl, Nat.le_of_ble_eq_true rfl⟩ ⟨Nat.le_of_ble_eq_true rfl, Nat.le_of_ble_eq_true rfl⟩ (c1 := 2297) (s1 := 21022) rfl rfl dL_serial_835 dL_serial_838 dL_serial_839 (fun a2 ws H locs hw Z => ?_)
  rw [T_new] at hw
  refine lv_astore_n (lv' := [(1, .ref a2), (0, .ref a)]) X.x X.b dL_serial_842 rfl hl (Nat.le_of_ble_eq_true rfl) rfl (fun ls hl => ?_)
  refine lv_iconst (v := 0) X.x X.b dL_serial_843 ki_0 ?_
  refine lv_istore_n (lv' := [(2, .int 0), (1, .ref a2), (0, .ref a)]) X.x X.b dL_serial_844 rfl hl (Nat.le_of_ble_eq_true rfl) rfl (fun ls hl => ?_)
  refine lv_iload_n X.x X.b dL_serial_845 rfl (lv_at hl 0 rfl) ?_
  refine lv_bipush (v := 20) X.x X.b dL_serial_846 kb_20 ?_
  refine lv_icmp_ge (tgt := 872) X.x X.b dL_serial_848 (by decide) (fun h => absurd h (by decide)) (fun _ => ?_)
  refine lv_aload_n X.x X.b dL_serial_851 rfl (lv_at hl 1 rfl) ?_
  refine lv_iconst (v := 1) X.x X.b dL_serial_852 ki_1 ?_
  refine lv_iconst (v := 0) X.x X.b dL_serial_853 ki_0 ?_
  refine lv_iconst (v := 1) X.x X.b dL_serial_854 ki_1 ?_
  refine lv_iload_n X.x X.b dL_serial_855 rfl (lv_at hl 0 rfl) ?_
  refine lv_iadd X.x X.b dL_serial_856 ?_
  rw [show (1 : Int32) + 0 = 1 by decide]
  refine o_call (wr := []) Y Z hl hw (C_add l hT Δ 1 0 1 fc_78) wd_358 wd_359 wd_360 wd_19 wd_361 ok_X6_add rfl rfl (rest := []) rfl (Nat.le_of_ble_eq_true rfl) ⟨Nat.le_of_ble_eq_true rfl, Nat.le_of_ble_eq_true rfl⟩ ⟨Nat.le_of_ble_eq_true rfl, Nat.le_of_ble_eq_true rfl⟩ (c1 := 2311) (s1 := 21155) rfl rfl dL_serial_857 (fun ws H locs hw Z => ?_)
  refine lv_iload_n X.x X.b dL_serial_860 rfl (lv_at hl 0 rfl) ?_
  refine lv_icmp_eq (tgt := 866) X.x X.b dL_serial_861 (by decide) (fun _ => ?_) (fun h => absurd h (by decide))
  refine lv_iinc (v := 1) (lv' := [(2, .int 1), (1, .ref a2), (0, .ref a)]) X.x X.b dL_serial_866 hl (k := 0) rfl (by decide) (Nat.le_of_ble_eq_true rfl) rfl (fun ls hl => ?_)
  refine lv_goto (tgt := 845) X.x X.b dL_serial_869 (by decide) ?_
  refine lv_iload_n X.x X.b dL_serial_845 rfl (lv_at hl 0 rfl) ?_
  refine lv_bipush (v := 20) X.x X.b dL_serial_846 kb_20 ?_
  refine lv_icmp_ge (tgt := 872) X.x X.b dL_serial_848 (by decide) (fun h => absurd h (by decide)) (fun _ => ?_)
  exact SG_serial_6 l hT Δ Y Z hl hw
set_option maxRecDepth 100000 in
set_option maxHeartbeats 4000000 in
theorem SG_serial_4 (l : Launch) (hT : l.stackTraces = false) (Δ : zE) {p : Program} {e : Env} {s : State} {m : MethodId} {args : Array Value} {below : List Frame} {meth : Method} {c : Code} {A : Nat → Prop} (Y : zY Δ p l s m args meth c yL_serial cL_serial 3 (some .boolean) A) {H : Heap} {locs : List Loc} {ls : Array Slot} {a : Nat} {ws : va_W} (Z : zW Δ A s.heap (ws ++ []) H locs) (hl : lv_has ls 3 [(0, .ref a)]) (hw : wOb Δ a T_8 ws) : W p l e { frames := 12, cells := 3651, slots := 33605, locals := 235 } s m args below meth c H locs 1217 11069 (zEndX Δ below args s 3651 33605 A (fun rv w => rv = some (.int 1) ∧ w = []) (fun _ _ => False)) (F0 m 571 ls []) := by
  have X := Y.1
  refine lv_aload_n X.x X.b dL_serial_571 rfl (lv_at hl 0 rfl) ?_
  refine lv_iconst (v := 0) X.x X.b dL_serial_572 ki_0 ?_
  refine lv_iconst (v := 3) X.x X.b dL_serial_573 ki_3 ?_
  refine o_call (wr := []) Y Z hl hw (C_mailAll l hT Δ 0 3 fc_52) wd_489 wd_490 wd_491 wd_19 wd_492 ok_X6_mailAll rfl rfl (rest := []) rfl (Nat.le_of_ble_eq_true rfl) ⟨Nat.le_of_ble_eq_true rfl, Nat.le_of_ble_eq_true rfl⟩ ⟨Nat.le_of_ble_eq_true rfl, Nat.le_of_ble_eq_true rfl⟩ (c1 := 1231) (s1 := 11202) rfl rfl dL_serial_574 (fun ws H locs hw Z => ?_)
  refine lv_iconst (v := 4) X.x X.b dL_serial_577 ki_4 ?_
  refine lv_icmp_ne (tgt := 709) X.x X.b dL_serial_578 (by decide) (fun h => absurd h (by decide)) (fun _ => ?_)
  refine lv_aload_n X.x X.b dL_serial_581 rfl (lv_at hl 0 rfl) ?_
  refine lv_iconst (v := 3) X.x X.b dL_serial_582 ki_3 ?_
  refine o_call (wr := []) Y Z hl hw (C_count l hT Δ 3 fc_53) wd_290 wd_291 wd_292 wd_19 wd_293 ok_X6_count rfl rfl (rest := []) rfl (Nat.le_of_ble_eq_true rfl) ⟨Nat.le_of_ble_eq_true rfl, Nat.le_of_ble_eq_true rfl⟩ ⟨Nat.le_of_ble_eq_true rfl, Nat.le_of_ble_eq_true rfl⟩ (c1 := 1232) (s1 := 11208) rfl rfl dL_serial_583 (fun ws H locs hw Z => ?_)
  refine lv_iconst (v := 2) X.x X.b dL_serial_586 ki_2 ?_
  refine lv_icmp_ne (tgt := 709) X.x X.b dL_serial_587 (by decide) (fun h => absurd h (by decide)) (fun _ => ?_)
  refine lv_aload_n X.x X.b dL_serial_590 rfl (lv_at hl 0 rfl) ?_
  refine lv_iconst (v := 2) X.x X.b dL_serial_591 ki_2 ?_
  refine o_call (wr := []) Y Z hl hw (C_count l hT Δ 2 fc_54) wd_290 wd_291 wd_292 wd_19 wd_293 ok_X6_count rfl rfl (rest := []) rfl (Nat.le_of_ble_eq_true rfl) ⟨Nat.le_of_ble_eq_true rfl, Nat.le_of_ble_eq_true rfl⟩ ⟨Nat.le_of_ble_eq_true rfl, Nat.le_of_ble_eq_true rfl⟩ (c1 := 1233) (s1 := 11214) rfl rfl dL_serial_592 (fun ws H locs hw Z => ?_)
  refine lv_bipush (v := 6) X.x X.b dL_serial_595 kb_6 ?_
  refine lv_icmp_ne (tgt := 709) X.x X.b dL_serial_597 (by decide) (fun h => absurd h (by decide)) (fun _ => ?_)
  refine lv_aload_n X.x X.b dL_serial_600 rfl (lv_at hl 0 rfl) ?_
  refine lv_iconst (v := 2) X.x X.b dL_serial_601 ki_2 ?_
  refine lv_iconst (v := 0) X.x X.b dL_serial_602 ki_0 ?_
  refine o_call (wr := []) Y Z hl hw (C_knows l hT Δ 2 0 fc_55) wd_597 wd_598 wd_599 wd_19 wd_600 ok_X6_knows rfl rfl (rest := []) rfl (Nat.le_of_ble_eq_true rfl) ⟨Nat.le_of_ble_eq_true rfl, Nat.le_of_ble_eq_true rfl⟩ ⟨Nat.le_of_ble_eq_true rfl, Nat.le_of_ble_eq_true rfl⟩ (c1 := 1235) (s1 := 11226) rfl rfl dL_serial_603 (fun ws H locs hw Z => ?_)
  refine lv_iconst (v := 2) X.x X.b dL_serial_606 ki_2 ?_
  refine lv_icmp_ne (tgt := 709) X.x X.b dL_serial_607 (by decide) (fun h => absurd h (by decide)) (fun _ => ?_)
  refine lv_aload_n X.x X.b dL_serial_610 rfl (lv_at hl 0 rfl) ?_
  refine lv_iconst (v := 0) X.x X.b dL_serial_611 ki_0 ?_
  refine lv_iconst (v := 5) X.x X.b dL_serial_612 ki_5 ?_
  refine o_call (wr := []) Y Z hl hw (C_part l hT Δ 0 5 fc_56) wd_584 wd_585 wd_586 wd_19 wd_587 ok_X6_part rfl rfl (rest := []) rfl (Nat.le_of_ble_eq_true rfl) ⟨Nat.le_of_ble_eq_true rfl, Nat.le_of_ble_eq_true rfl⟩ ⟨Nat.le_of_ble_eq_true rfl, Nat.le_of_ble_eq_true rfl⟩ (c1 := 1237) (s1 := 11238) rfl rfl dL_serial_613 (fun ws H locs hw Z => ?_)
  refine lv_bipush (v := 60) X.x X.b dL_serial_616 kb_60 ?_
  refine lv_icmp_ne (tgt := 709) X.x X.b dL_serial_618 (by decide) (fun h => absurd h (by decide)) (fun _ => ?_)
  refine lv_aload_n X.x X.b dL_serial_621 rfl (lv_at hl 0 rfl) ?_
  refine lv_iconst (v := 1) X.x X.b dL_serial_622 ki_1 ?_
  refine o_call (wr := []) Y Z hl hw (C_forget l hT Δ 1 fc_57) wd_500 wd_501 wd_502 wd_19 wd_503 ok_X6_forget rfl rfl (rest := []) rfl (Nat.le_of_ble_eq_true rfl) ⟨Nat.le_of_ble_eq_true rfl, Nat.le_of_ble_eq_true rfl⟩ ⟨Nat.le_of_ble_eq_true rfl, Nat.le_of_ble_eq_true rfl⟩ (c1 := 1251) (s1 := 11371) rfl rfl dL_serial_623 (fun ws H locs hw Z => ?_)
  refine lv_iconst (v := 2) X.x X.b dL_serial_626 ki_2 ?_
  refine lv_icmp_ne (tgt := 709) X.x X.b dL_serial_627 (by decide) (fun h => absurd h (by decide)) (fun _ => ?_)
  refine lv_aload_n X.x X.b dL_serial_630 rfl (lv_at hl 0 rfl) ?_
  refine lv_iconst (v := 1) X.x X.b dL_serial_631 ki_1 ?_
  refine lv_iconst (v := 3) X.x X.b dL_serial_632 ki_3 ?_
  refine o_call (wr := []) Y Z hl hw (C_reader l hT Δ 1 3 fc_58) wd_605 wd_606 wd_607 wd_19 wd_608 ok_X6_reader rfl rfl (rest := []) rfl (Nat.le_of_ble_eq_true rfl) ⟨Nat.le_of_ble_eq_true rfl, Nat.le_of_ble_eq_true rfl⟩ ⟨Nat.le_of_ble_eq_true rfl, Nat.le_of_ble_eq_true rfl⟩ (c1 := 1253) (s1 := 11383) rfl rfl dL_serial_633 (fun ws H locs hw Z => ?_)
  refine lv_iconst (v := 4) X.x X.b dL_serial_636 ki_4 ?_
  refine lv_icmp_ne (tgt := 709) X.x X.b dL_serial_637 (by decide) (fun h => absurd h (by decide)) (fun _ => ?_)
  refine lv_aload_n X.x X.b dL_serial_640 rfl (lv_at hl 0 rfl) ?_
  refine lv_iconst (v := 0) X.x X.b dL_serial_641 ki_0 ?_
  refine o_call (wr := []) Y Z hl hw (C_catchUp l hT Δ 0 fc_59) wd_509 wd_510 wd_511 wd_19 wd_512 ok_X6_catchUp rfl rfl (rest := []) rfl (Nat.le_of_ble_eq_true rfl) ⟨Nat.le_of_ble_eq_true rfl, Nat.le_of_ble_eq_true rfl⟩ ⟨Nat.le_of_ble_eq_true rfl, Nat.le_of_ble_eq_true rfl⟩ (c1 := 1267) (s1 := 11516) rfl rfl dL_serial_642 (fun ws H locs hw Z => ?_)
  refine lv_sipush (v := 143) X.x X.b dL_serial_645 kh_143 ?_
  refine lv_icmp_ne (tgt := 709) X.x X.b dL_serial_648 (by decide) (fun h => absurd h (by decide)) (fun _ => ?_)
  refine lv_aload_n X.x X.b dL_serial_651 rfl (lv_at hl 0 rfl) ?_
  refine lv_iconst (v := 0) X.x X.b dL_serial_652 ki_0 ?_
  refine lv_iconst (v := 0) X.x X.b dL_serial_653 ki_0 ?_
  refine o_call (wr := []) Y Z hl hw (C_reader l hT Δ 0 0 fc_60) wd_605 wd_606 wd_607 wd_19 wd_608 ok_X6_reader rfl rfl (rest := []) rfl (Nat.le_of_ble_eq_true rfl) ⟨Nat.le_of_ble_eq_true rfl, Nat.le_of_ble_eq_true rfl⟩ ⟨Nat.le_of_ble_eq_true rfl, Nat.le_of_ble_eq_true rfl⟩ (c1 := 1269) (s1 := 11528) rfl rfl dL_serial_654 (fun ws H locs hw Z => ?_)
  refine lv_iconst (v := 5) X.x X.b dL_serial_657 ki_5 ?_
  refine lv_icmp_ne (tgt := 709) X.x X.b dL_serial_658 (by decide) (fun h => absurd h (by decide)) (fun _ => ?_)
  refine lv_aload_n X.x X.b dL_serial_661 rfl (lv_at hl 0 rfl) ?_
  refine lv_iconst (v := 5) X.x X.b dL_serial_662 ki_5 ?_
  refine o_call (wr := []) Y Z hl hw (C_count l hT Δ 5 fc_61) wd_290 wd_291 wd_292 wd_19 wd_293 ok_X6_count rfl rfl (rest := []) rfl (Nat.le_of_ble_eq_true rfl) ⟨Nat.le_of_ble_eq_true rfl, Nat.le_of_ble_eq_true rfl⟩ ⟨Nat.le_of_ble_eq_true rfl, Nat.le_of_ble_eq_true rfl⟩ (c1 := 1270) (s1 := 11534) rfl rfl dL_serial_663 (fun ws H locs hw Z => ?_)
  refine lv_iconst (v := 1) X.x X.b dL_serial_666 ki_1 ?_
  refine lv_icmp_ne (tgt := 709) X.x X.b dL_serial_667 (by decide) (fun h => absurd h (by decide)) (fun _ => ?_)
  refine lv_aload_n X.x X.b dL_serial_670 rfl (lv_at hl 0 rfl) ?_
  refine lv_iconst (v := 4) X.x X.b dL_serial_671 ki_4 ?_
  refine o_call (wr := []) Y Z hl hw (C_count l hT Δ 4 fc_62) wd_290 wd_291 wd_292 wd_19 wd_293 ok_X6_count rfl rfl (rest := []) rfl (Nat.le_of_ble_eq_true rfl) ⟨Nat.le_of_ble_eq_true rfl, Nat.le_of_ble_eq_true rfl⟩ ⟨Nat.le_of_ble_eq_true rfl, Nat.le_of_ble_eq_true rfl⟩ (c1 := 1271) (s1 := 11540) rfl rfl dL_serial_672 (fun ws H locs hw Z => ?_)
  refine lv_sipush (v := 347) X.x X.b dL_serial_675 kh_347 ?_
  refine lv_icmp_ne (tgt := 709) X.x X.b dL_serial_678 (by decide) (fun h => absurd h (by decide)) (fun _ => ?_)
  refine lv_aload_n X.x X.b dL_serial_681 rfl (lv_at hl 0 rfl) ?_
  refine o_callW (v := .double 4599676419421066581) (wr := []) Y Z hl hw (C_readShare l hT Δ (b := T_11) fc_63 a ws hw) wd_722 wd_723 wd_724 wd_19 wd_725 ok_X6_readShare rfl (rest := []) rfl (Nat.le_of_ble_eq_true rfl) ⟨Nat.le_of_ble_eq_true rfl, Nat.le_of_ble_eq_true rfl⟩ ⟨Nat.le_of_ble_eq_true rfl, Nat.le_of_ble_eq_true rfl⟩ (c1 := 1271) (s1 := 11540) rfl rfl dL_serial_682 (fun ws H locs hw Z => ?_)
  refine lv_ldc2d (v := 4599676419421066581) X.x X.b X.own (X.ts _ wd_726) dL_serial_685 ?_
  refine lv_dcmp X.x X.b dL_serial_688 ?_
  rw [show Op.cmpValue (FP.dcmp 4599676419421066581 4599676419421066581) CmpOp.l = 0 by decide +kernel]
  refine lv_if_ne (tgt := 709) X.x X.b dL_serial_689 (by decide) (fun h => absurd h (by decide)) (fun _ => ?_)
  refine lv_aload_n X.x X.b dL_serial_692 rfl (lv_at hl 0 rfl) ?_
  refine lv_iconst (v := 0) X.x X.b dL_serial_693 ki_0 ?_
  refine o_call (wr := []) Y Z hl hw (C_easiest l hT Δ 0 fc_64) wd_654 wd_655 wd_656 wd_19 wd_657 ok_X6_easiest rfl rfl (rest := []) rfl (Nat.le_of_ble_eq_true rfl) ⟨Nat.le_of_ble_eq_true rfl, Nat.le_of_ble_eq_true rfl⟩ ⟨Nat.le_of_ble_eq_true rfl, Nat.le_of_ble_eq_true rfl⟩ (c1 := 1272) (s1 := 11546) rfl rfl dL_serial_694 (fun ws H locs hw Z => ?_)
  refine lv_iconst (v := (-1)) X.x X.b dL_serial_697 ki_m1 ?_
  refine lv_icmp_ne (tgt := 709) X.x X.b dL_serial_698 (by decide) (fun h => absurd h (by decide)) (fun _ => ?_)
  refine lv_aload_n X.x X.b dL_serial_701 rfl (lv_at hl 0 rfl) ?_
  refine lv_iconst (v := 0) X.x X.b dL_serial_702 ki_0 ?_
  refine o_call (wr := []) Y Z hl hw (C_enough l hT Δ 0 fc_65) wd_663 wd_664 wd_665 wd_19 wd_666 ok_X6_enough rfl rfl (rest := []) rfl (Nat.le_of_ble_eq_true rfl) ⟨Nat.le_of_ble_eq_true rfl, Nat.le_of_ble_eq_true rfl⟩ ⟨Nat.le_of_ble_eq_true rfl, Nat.le_of_ble_eq_true rfl⟩ (c1 := 1273) (s1 := 11552) rfl rfl dL_serial_703 (fun ws H locs hw Z => ?_)
  refine lv_if_eq (tgt := 711) X.x X.b dL_serial_706 (by decide) (fun _ => ?_) (fun h => absurd h (by decide))
  refine lv_aload_n X.x X.b dL_serial_711 rfl (lv_at hl 0 rfl) ?_
  refine o_call (wr := []) Y Z hl hw (C_removeLast l hT Δ  fc_66) wd_414 wd_415 wd_416 wd_19 wd_417 ok_X6_removeLast rfl rfl (rest := []) rfl (Nat.le_of_ble_eq_true rfl) ⟨Nat.le_of_ble_eq_true rfl, Nat.le_of_ble_eq_true rfl⟩ ⟨Nat.le_of_ble_eq_true rfl, Nat.le_of_ble_eq_true rfl⟩ (c1 := 1286) (s1 := 11679) rfl rfl dL_serial_712 (fun ws H locs hw Z => ?_)
  refine lv_iconst (v := 1) X.x X.b dL_serial_715 ki_1 ?_
  refine lv_icmp_ne (tgt := 833) X.x X.b dL_serial_716 (by decide) (fun h => absurd h (by decide)) (fun _ => ?_)
  refine lv_aload_n X.x X.b dL_serial_719 rfl (lv_at hl 0 rfl) ?_
  refine lv_iconst (v := 0) X.x X.b dL_serial_720 ki_0 ?_
  refine o_call (wr := []) Y Z hl hw (C_count l hT Δ 0 fc_67) wd_290 wd_291 wd_292 wd_19 wd_293 ok_X6_count rfl rfl (rest := []) rfl (Nat.le_of_ble_eq_true rfl) ⟨Nat.le_of_ble_eq_true rfl, Nat.le_of_ble_eq_true rfl⟩ ⟨Nat.le_of_ble_eq_true rfl, Nat.le_of_ble_eq_true rfl⟩ (c1 := 1287) (s1 := 11685) rfl rfl dL_serial_721 (fun ws H locs hw Z => ?_)
  refine lv_iconst (v := 4) X.x X.b dL_serial_724 ki_4 ?_
  refine lv_icmp_ne (tgt := 833) X.x X.b dL_serial_725 (by decide) (fun h => absurd h (by decide)) (fun _ => ?_)
  exact SG_serial_5 l hT Δ Y Z hl hw
set_option maxRecDepth 100000 in
set_option maxHeartbeats 4000000 in
theorem SG_serial_3 (l : Launch) (hT : l.stackTraces = false) (Δ : zE) {p : Program} {e : Env} {s : State} {m : MethodId} {args : Array Value} {below : List Frame} {meth : Method} {c : Code} {A : Nat → Prop} (Y : zY Δ p l s m args meth c yL_serial cL_serial 3 (some .boolean) A) {H : Heap} {locs : List Loc} {ls : Array Slot} {a : Nat} {ws : va_W} (Z : zW Δ A s.heap (ws ++ []) H locs) (hl : lv_has ls 3 [(0, .ref a)]) (hw : wOb Δ a T_7 ws) : W p l e { frames := 12, cells := 3651, slots := 33605, locals := 235 } s m args below meth c H locs 221 1908 (zEndX Δ below args s 3651 33605 A (fun rv w => rv = some (.int 1) ∧ w = []) (fun _ _ => False)) (F0 m 428 ls []) := by
  have X := Y.1
  refine lv_aload_n X.x X.b dL_serial_428 rfl (lv_at hl 0 rfl) ?_
  refine lv_iconst (v := 0) X.x X.b dL_serial_429 ki_0 ?_
  refine lv_iconst (v := 5) X.x X.b dL_serial_430 ki_5 ?_
  refine o_call (wr := []) Y Z hl hw (C_reader l hT Δ 0 5 fc_39) wd_605 wd_606 wd_607 wd_19 wd_608 ok_X6_reader rfl rfl (rest := []) rfl (Nat.le_of_ble_eq_true rfl) ⟨Nat.le_of_ble_eq_true rfl, Nat.le_of_ble_eq_true rfl⟩ ⟨Nat.le_of_ble_eq_true rfl, Nat.le_of_ble_eq_true rfl⟩ (c1 := 223) (s1 := 1920) rfl rfl dL_serial_431 (fun ws H locs hw Z => ?_)
  refine lv_iconst (v := 2) X.x X.b dL_serial_434 ki_2 ?_
  refine lv_icmp_ne (tgt := 467) X.x X.b dL_serial_435 (by decide) (fun h => absurd h (by decide)) (fun _ => ?_)
  refine lv_aload_n X.x X.b dL_serial_438 rfl (lv_at hl 0 rfl) ?_
  refine lv_iconst (v := 0) X.x X.b dL_serial_439 ki_0 ?_
  refine lv_bipush (v := 6) X.x X.b dL_serial_440 kb_6 ?_
  refine o_call (wr := []) Y Z hl hw (C_reader l hT Δ 0 6 fc_40) wd_605 wd_606 wd_607 wd_19 wd_608 ok_X6_reader rfl rfl (rest := []) rfl (Nat.le_of_ble_eq_true rfl) ⟨Nat.le_of_ble_eq_true rfl, Nat.le_of_ble_eq_true rfl⟩ ⟨Nat.le_of_ble_eq_true rfl, Nat.le_of_ble_eq_true rfl⟩ (c1 := 225) (s1 := 1932) rfl rfl dL_serial_442 (fun ws H locs hw Z => ?_)
  refine lv_iconst (v := 2) X.x X.b dL_serial_445 ki_2 ?_
  refine lv_icmp_ne (tgt := 467) X.x X.b dL_serial_446 (by decide) (fun h => absurd h (by decide)) (fun _ => ?_)
  refine lv_aload_n X.x X.b dL_serial_449 rfl (lv_at hl 0 rfl) ?_
  refine lv_iconst (v := 0) X.x X.b dL_serial_450 ki_0 ?_
  refine lv_iconst (v := 2) X.x X.b dL_serial_451 ki_2 ?_
  refine lv_iconst (v := 0) X.x X.b dL_serial_452 ki_0 ?_
  refine o_call (wr := []) Y Z hl hw (C_recap l hT Δ 0 2 0 fc_41) wd_646 wd_647 wd_648 wd_19 wd_649 ok_X6_recap rfl rfl (rest := []) rfl (Nat.le_of_ble_eq_true rfl) ⟨Nat.le_of_ble_eq_true rfl, Nat.le_of_ble_eq_true rfl⟩ ⟨Nat.le_of_ble_eq_true rfl, Nat.le_of_ble_eq_true rfl⟩ (c1 := 228) (s1 := 1950) rfl rfl dL_serial_453 (fun ws H locs hw Z => ?_)
  refine lv_iconst (v := 2) X.x X.b dL_serial_456 ki_2 ?_
  refine lv_icmp_ne (tgt := 467) X.x X.b dL_serial_457 (by decide) (fun h => absurd h (by decide)) (fun _ => ?_)
  refine lv_aload_n X.x X.b dL_serial_460 rfl (lv_at hl 0 rfl) ?_
  obtain ⟨dv, hdv⟩ := dg_tot (b := T_7) (n := 5) (m := 0) (by decide) (by decide +kernel) (by decide) (by decide +kernel) ⟨2, by decide, by decide +kernel⟩
  refine o_stat (wr := []) Y Z hl (M_refused l hT Δ (by decide +kernel) hdv a ws hw) wd_674 wd_675 wd_18 wd_676 ok_L_refused rfl (rest := []) rfl (Nat.le_of_ble_eq_true rfl) ⟨Nat.le_of_ble_eq_true rfl, Nat.le_of_ble_eq_true rfl⟩ ⟨Nat.le_of_ble_eq_true rfl, Nat.le_of_ble_eq_true rfl⟩ (c1 := 1190) (s1 := 10858) rfl rfl dL_serial_461 (fun rv ws H locs hP Z => ?_)
  obtain ⟨rfl, hw⟩ := hP
  refine W.eq (g2 := F0 m 464 ls [.int 1]) rfl ?_
  refine lv_if_ne (tgt := 469) X.x X.b dL_serial_464 (by decide) (fun _ => ?_) (fun h => absurd h (by decide))
  refine lv_aload_n X.x X.b dL_serial_469 rfl (lv_at hl 0 rfl) ?_
  refine lv_iconst (v := 1) X.x X.b dL_serial_470 ki_1 ?_
  refine lv_iconst (v := 3) X.x X.b dL_serial_471 ki_3 ?_
  refine o_call (wr := []) Y Z hl hw (C_mail l hT Δ 1 3 fc_42) wd_447 wd_448 wd_449 wd_19 wd_450 ok_X6_mail rfl rfl (rest := []) rfl (Nat.le_of_ble_eq_true rfl) ⟨Nat.le_of_ble_eq_true rfl, Nat.le_of_ble_eq_true rfl⟩ ⟨Nat.le_of_ble_eq_true rfl, Nat.le_of_ble_eq_true rfl⟩ (c1 := 1205) (s1 := 10997) rfl rfl dL_serial_472 (fun ws H locs hw Z => ?_)
  refine lv_iconst (v := 2) X.x X.b dL_serial_475 ki_2 ?_
  refine lv_icmp_ne (tgt := 709) X.x X.b dL_serial_476 (by decide) (fun h => absurd h (by decide)) (fun _ => ?_)
  refine lv_aload_n X.x X.b dL_serial_479 rfl (lv_at hl 0 rfl) ?_
  refine lv_iconst (v := 1) X.x X.b dL_serial_480 ki_1 ?_
  refine lv_iconst (v := 4) X.x X.b dL_serial_481 ki_4 ?_
  refine o_call (wr := []) Y Z hl hw (C_reader l hT Δ 1 4 fc_43) wd_605 wd_606 wd_607 wd_19 wd_608 ok_X6_reader rfl rfl (rest := []) rfl (Nat.le_of_ble_eq_true rfl) ⟨Nat.le_of_ble_eq_true rfl, Nat.le_of_ble_eq_true rfl⟩ ⟨Nat.le_of_ble_eq_true rfl, Nat.le_of_ble_eq_true rfl⟩ (c1 := 1207) (s1 := 11009) rfl rfl dL_serial_482 (fun ws H locs hw Z => ?_)
  refine lv_bipush (v := 103) X.x X.b dL_serial_485 kb_103 ?_
  refine lv_icmp_ne (tgt := 709) X.x X.b dL_serial_487 (by decide) (fun h => absurd h (by decide)) (fun _ => ?_)
  refine lv_aload_n X.x X.b dL_serial_490 rfl (lv_at hl 0 rfl) ?_
  refine lv_iconst (v := 1) X.x X.b dL_serial_491 ki_1 ?_
  refine lv_iconst (v := 1) X.x X.b dL_serial_492 ki_1 ?_
  refine o_call (wr := []) Y Z hl hw (C_reader l hT Δ 1 1 fc_44) wd_605 wd_606 wd_607 wd_19 wd_608 ok_X6_reader rfl rfl (rest := []) rfl (Nat.le_of_ble_eq_true rfl) ⟨Nat.le_of_ble_eq_true rfl, Nat.le_of_ble_eq_true rfl⟩ ⟨Nat.le_of_ble_eq_true rfl, Nat.le_of_ble_eq_true rfl⟩ (c1 := 1209) (s1 := 11021) rfl rfl dL_serial_493 (fun ws H locs hw Z => ?_)
  refine lv_iconst (v := 2) X.x X.b dL_serial_496 ki_2 ?_
  refine lv_icmp_ne (tgt := 709) X.x X.b dL_serial_497 (by decide) (fun h => absurd h (by decide)) (fun _ => ?_)
  refine lv_aload_n X.x X.b dL_serial_500 rfl (lv_at hl 0 rfl) ?_
  refine lv_iconst (v := 1) X.x X.b dL_serial_501 ki_1 ?_
  refine lv_iconst (v := 3) X.x X.b dL_serial_502 ki_3 ?_
  refine o_call (wr := []) Y Z hl hw (C_reader l hT Δ 1 3 fc_45) wd_605 wd_606 wd_607 wd_19 wd_608 ok_X6_reader rfl rfl (rest := []) rfl (Nat.le_of_ble_eq_true rfl) ⟨Nat.le_of_ble_eq_true rfl, Nat.le_of_ble_eq_true rfl⟩ ⟨Nat.le_of_ble_eq_true rfl, Nat.le_of_ble_eq_true rfl⟩ (c1 := 1211) (s1 := 11033) rfl rfl dL_serial_503 (fun ws H locs hw Z => ?_)
  refine lv_bipush (v := 6) X.x X.b dL_serial_506 kb_6 ?_
  refine lv_icmp_ne (tgt := 709) X.x X.b dL_serial_508 (by decide) (fun h => absurd h (by decide)) (fun _ => ?_)
  refine lv_aload_n X.x X.b dL_serial_511 rfl (lv_at hl 0 rfl) ?_
  refine lv_iconst (v := 1) X.x X.b dL_serial_512 ki_1 ?_
  refine lv_iconst (v := 3) X.x X.b dL_serial_513 ki_3 ?_
  refine o_call (wr := []) Y Z hl hw (C_plot l hT Δ 1 3 fc_46) wd_617 wd_618 wd_619 wd_19 wd_620 ok_X6_plot rfl rfl (rest := []) rfl (Nat.le_of_ble_eq_true rfl) ⟨Nat.le_of_ble_eq_true rfl, Nat.le_of_ble_eq_true rfl⟩ ⟨Nat.le_of_ble_eq_true rfl, Nat.le_of_ble_eq_true rfl⟩ (c1 := 1212) (s1 := 11039) rfl rfl dL_serial_514 (fun ws H locs hw Z => ?_)
  refine lv_iconst (v := 1) X.x X.b dL_serial_517 ki_1 ?_
  refine lv_icmp_ne (tgt := 709) X.x X.b dL_serial_518 (by decide) (fun h => absurd h (by decide)) (fun _ => ?_)
  refine lv_aload_n X.x X.b dL_serial_521 rfl (lv_at hl 0 rfl) ?_
  refine lv_iconst (v := 2) X.x X.b dL_serial_522 ki_2 ?_
  refine lv_iconst (v := 3) X.x X.b dL_serial_523 ki_3 ?_
  refine o_call (wr := []) Y Z hl hw (C_plot l hT Δ 2 3 fc_47) wd_617 wd_618 wd_619 wd_19 wd_620 ok_X6_plot rfl rfl (rest := []) rfl (Nat.le_of_ble_eq_true rfl) ⟨Nat.le_of_ble_eq_true rfl, Nat.le_of_ble_eq_true rfl⟩ ⟨Nat.le_of_ble_eq_true rfl, Nat.le_of_ble_eq_true rfl⟩ (c1 := 1213) (s1 := 11045) rfl rfl dL_serial_524 (fun ws H locs hw Z => ?_)
  refine lv_iconst (v := 1) X.x X.b dL_serial_527 ki_1 ?_
  refine lv_icmp_ne (tgt := 709) X.x X.b dL_serial_528 (by decide) (fun h => absurd h (by decide)) (fun _ => ?_)
  refine lv_aload_n X.x X.b dL_serial_531 rfl (lv_at hl 0 rfl) ?_
  refine lv_iconst (v := 0) X.x X.b dL_serial_532 ki_0 ?_
  refine lv_iconst (v := 0) X.x X.b dL_serial_533 ki_0 ?_
  refine o_call (wr := []) Y Z hl hw (C_plot l hT Δ 0 0 fc_48) wd_617 wd_618 wd_619 wd_19 wd_620 ok_X6_plot rfl rfl (rest := []) rfl (Nat.le_of_ble_eq_true rfl) ⟨Nat.le_of_ble_eq_true rfl, Nat.le_of_ble_eq_true rfl⟩ ⟨Nat.le_of_ble_eq_true rfl, Nat.le_of_ble_eq_true rfl⟩ (c1 := 1214) (s1 := 11051) rfl rfl dL_serial_534 (fun ws H locs hw Z => ?_)
  refine lv_iconst (v := 4) X.x X.b dL_serial_537 ki_4 ?_
  refine lv_icmp_ne (tgt := 709) X.x X.b dL_serial_538 (by decide) (fun h => absurd h (by decide)) (fun _ => ?_)
  refine lv_aload_n X.x X.b dL_serial_541 rfl (lv_at hl 0 rfl) ?_
  refine lv_iconst (v := 0) X.x X.b dL_serial_542 ki_0 ?_
  refine lv_iconst (v := 1) X.x X.b dL_serial_543 ki_1 ?_
  refine o_call (wr := []) Y Z hl hw (C_plot l hT Δ 0 1 fc_49) wd_617 wd_618 wd_619 wd_19 wd_620 ok_X6_plot rfl rfl (rest := []) rfl (Nat.le_of_ble_eq_true rfl) ⟨Nat.le_of_ble_eq_true rfl, Nat.le_of_ble_eq_true rfl⟩ ⟨Nat.le_of_ble_eq_true rfl, Nat.le_of_ble_eq_true rfl⟩ (c1 := 1215) (s1 := 11057) rfl rfl dL_serial_544 (fun ws H locs hw Z => ?_)
  refine lv_iconst (v := 4) X.x X.b dL_serial_547 ki_4 ?_
  refine lv_icmp_ne (tgt := 709) X.x X.b dL_serial_548 (by decide) (fun h => absurd h (by decide)) (fun _ => ?_)
  refine lv_aload_n X.x X.b dL_serial_551 rfl (lv_at hl 0 rfl) ?_
  refine lv_iconst (v := 5) X.x X.b dL_serial_552 ki_5 ?_
  refine lv_iconst (v := 1) X.x X.b dL_serial_553 ki_1 ?_
  refine o_call (wr := []) Y Z hl hw (C_plot l hT Δ 5 1 fc_50) wd_617 wd_618 wd_619 wd_19 wd_620 ok_X6_plot rfl rfl (rest := []) rfl (Nat.le_of_ble_eq_true rfl) ⟨Nat.le_of_ble_eq_true rfl, Nat.le_of_ble_eq_true rfl⟩ ⟨Nat.le_of_ble_eq_true rfl, Nat.le_of_ble_eq_true rfl⟩ (c1 := 1216) (s1 := 11063) rfl rfl dL_serial_554 (fun ws H locs hw Z => ?_)
  refine lv_iconst (v := (-1)) X.x X.b dL_serial_557 ki_m1 ?_
  refine lv_icmp_ne (tgt := 709) X.x X.b dL_serial_558 (by decide) (fun h => absurd h (by decide)) (fun _ => ?_)
  refine lv_aload_n X.x X.b dL_serial_561 rfl (lv_at hl 0 rfl) ?_
  refine lv_iconst (v := 2) X.x X.b dL_serial_562 ki_2 ?_
  refine lv_iconst (v := 2) X.x X.b dL_serial_563 ki_2 ?_
  refine o_call (wr := []) Y Z hl hw (C_plot l hT Δ 2 2 fc_51) wd_617 wd_618 wd_619 wd_19 wd_620 ok_X6_plot rfl rfl (rest := []) rfl (Nat.le_of_ble_eq_true rfl) ⟨Nat.le_of_ble_eq_true rfl, Nat.le_of_ble_eq_true rfl⟩ ⟨Nat.le_of_ble_eq_true rfl, Nat.le_of_ble_eq_true rfl⟩ (c1 := 1217) (s1 := 11069) rfl rfl dL_serial_564 (fun ws H locs hw Z => ?_)
  refine lv_iconst (v := 1) X.x X.b dL_serial_567 ki_1 ?_
  refine lv_icmp_ne (tgt := 709) X.x X.b dL_serial_568 (by decide) (fun h => absurd h (by decide)) (fun _ => ?_)
  exact SG_serial_4 l hT Δ Y Z hl hw
set_option maxRecDepth 100000 in
set_option maxHeartbeats 4000000 in
theorem SG_serial_2 (l : Launch) (hT : l.stackTraces = false) (Δ : zE) {p : Program} {e : Env} {s : State} {m : MethodId} {args : Array Value} {below : List Frame} {meth : Method} {c : Code} {A : Nat → Prop} (Y : zY Δ p l s m args meth c yL_serial cL_serial 3 (some .boolean) A) {H : Heap} {locs : List Loc} {ls : Array Slot} {a : Nat} {ws : va_W} (Z : zW Δ A s.heap (ws ++ []) H locs) (hl : lv_has ls 3 [(0, .ref a)]) (hw : wOb Δ a T_5 ws) : W p l e { frames := 12, cells := 3651, slots := 33605, locals := 235 } s m args below meth c H locs 156 1371 (zEndX Δ below args s 3651 33605 A (fun rv w => rv = some (.int 1) ∧ w = []) (fun _ _ => False)) (F0 m 293 ls []) := by
  have X := Y.1
  refine lv_aload_n X.x X.b dL_serial_293 rfl (lv_at hl 0 rfl) ?_
  refine lv_iconst (v := 0) X.x X.b dL_serial_294 ki_0 ?_
  refine lv_iconst (v := 2) X.x X.b dL_serial_295 ki_2 ?_
  refine o_call (wr := []) Y Z hl hw (C_set l hT Δ 0 2 fc_26) wd_438 wd_439 wd_440 wd_19 wd_441 ok_X6_set rfl rfl (rest := []) rfl (Nat.le_of_ble_eq_true rfl) ⟨Nat.le_of_ble_eq_true rfl, Nat.le_of_ble_eq_true rfl⟩ ⟨Nat.le_of_ble_eq_true rfl, Nat.le_of_ble_eq_true rfl⟩ (c1 := 170) (s1 := 1504) rfl rfl dL_serial_296 (fun ws H locs hw Z => ?_)
  refine lv_iconst (v := 4) X.x X.b dL_serial_299 ki_4 ?_
  refine lv_icmp_ne (tgt := 467) X.x X.b dL_serial_300 (by decide) (fun h => absurd h (by decide)) (fun _ => ?_)
  refine lv_aload_n X.x X.b dL_serial_303 rfl (lv_at hl 0 rfl) ?_
  refine lv_iconst (v := 0) X.x X.b dL_serial_304 ki_0 ?_
  refine lv_iconst (v := 4) X.x X.b dL_serial_305 ki_4 ?_
  refine lv_iconst (v := 2) X.x X.b dL_serial_306 ki_2 ?_
  refine o_call (wr := []) Y Z hl hw (C_recap l hT Δ 0 4 2 fc_27) wd_646 wd_647 wd_648 wd_19 wd_649 ok_X6_recap rfl rfl (rest := []) rfl (Nat.le_of_ble_eq_true rfl) ⟨Nat.le_of_ble_eq_true rfl, Nat.le_of_ble_eq_true rfl⟩ ⟨Nat.le_of_ble_eq_true rfl, Nat.le_of_ble_eq_true rfl⟩ (c1 := 173) (s1 := 1522) rfl rfl dL_serial_307 (fun ws H locs hw Z => ?_)
  refine lv_bipush (v := 12) X.x X.b dL_serial_310 kb_12 ?_
  refine lv_icmp_ne (tgt := 467) X.x X.b dL_serial_312 (by decide) (fun h => absurd h (by decide)) (fun _ => ?_)
  refine lv_aload_n X.x X.b dL_serial_315 rfl (lv_at hl 0 rfl) ?_
  refine lv_iconst (v := 0) X.x X.b dL_serial_316 ki_0 ?_
  refine lv_iconst (v := 4) X.x X.b dL_serial_317 ki_4 ?_
  refine lv_iconst (v := 1) X.x X.b dL_serial_318 ki_1 ?_
  refine o_call (wr := []) Y Z hl hw (C_recap l hT Δ 0 4 1 fc_28) wd_646 wd_647 wd_648 wd_19 wd_649 ok_X6_recap rfl rfl (rest := []) rfl (Nat.le_of_ble_eq_true rfl) ⟨Nat.le_of_ble_eq_true rfl, Nat.le_of_ble_eq_true rfl⟩ ⟨Nat.le_of_ble_eq_true rfl, Nat.le_of_ble_eq_true rfl⟩ (c1 := 176) (s1 := 1540) rfl rfl dL_serial_319 (fun ws H locs hw Z => ?_)
  refine lv_bipush (v := 11) X.x X.b dL_serial_322 kb_11 ?_
  refine lv_icmp_ne (tgt := 467) X.x X.b dL_serial_324 (by decide) (fun h => absurd h (by decide)) (fun _ => ?_)
  refine lv_aload_n X.x X.b dL_serial_327 rfl (lv_at hl 0 rfl) ?_
  refine lv_iconst (v := 0) X.x X.b dL_serial_328 ki_0 ?_
  refine lv_iconst (v := 4) X.x X.b dL_serial_329 ki_4 ?_
  refine lv_iconst (v := 3) X.x X.b dL_serial_330 ki_3 ?_
  refine o_call (wr := []) Y Z hl hw (C_recap l hT Δ 0 4 3 fc_29) wd_646 wd_647 wd_648 wd_19 wd_649 ok_X6_recap rfl rfl (rest := []) rfl (Nat.le_of_ble_eq_true rfl) ⟨Nat.le_of_ble_eq_true rfl, Nat.le_of_ble_eq_true rfl⟩ ⟨Nat.le_of_ble_eq_true rfl, Nat.le_of_ble_eq_true rfl⟩ (c1 := 179) (s1 := 1558) rfl rfl dL_serial_331 (fun ws H locs hw Z => ?_)
  refine lv_iconst (v := 2) X.x X.b dL_serial_334 ki_2 ?_
  refine lv_icmp_ne (tgt := 467) X.x X.b dL_serial_335 (by decide) (fun h => absurd h (by decide)) (fun _ => ?_)
  refine lv_aload_n X.x X.b dL_serial_338 rfl (lv_at hl 0 rfl) ?_
  refine lv_iconst (v := 0) X.x X.b dL_serial_339 ki_0 ?_
  refine o_call (wr := []) Y Z hl hw (C_easiest l hT Δ 0 fc_30) wd_654 wd_655 wd_656 wd_19 wd_657 ok_X6_easiest rfl rfl (rest := []) rfl (Nat.le_of_ble_eq_true rfl) ⟨Nat.le_of_ble_eq_true rfl, Nat.le_of_ble_eq_true rfl⟩ ⟨Nat.le_of_ble_eq_true rfl, Nat.le_of_ble_eq_true rfl⟩ (c1 := 180) (s1 := 1564) rfl rfl dL_serial_340 (fun ws H locs hw Z => ?_)
  refine lv_iconst (v := 2) X.x X.b dL_serial_343 ki_2 ?_
  refine lv_icmp_ne (tgt := 467) X.x X.b dL_serial_344 (by decide) (fun h => absurd h (by decide)) (fun _ => ?_)
  refine lv_aload_n X.x X.b dL_serial_347 rfl (lv_at hl 0 rfl) ?_
  refine lv_iconst (v := 0) X.x X.b dL_serial_348 ki_0 ?_
  refine o_call (wr := []) Y Z hl hw (C_enough l hT Δ 0 fc_31) wd_663 wd_664 wd_665 wd_19 wd_666 ok_X6_enough rfl rfl (rest := []) rfl (Nat.le_of_ble_eq_true rfl) ⟨Nat.le_of_ble_eq_true rfl, Nat.le_of_ble_eq_true rfl⟩ ⟨Nat.le_of_ble_eq_true rfl, Nat.le_of_ble_eq_true rfl⟩ (c1 := 181) (s1 := 1570) rfl rfl dL_serial_349 (fun ws H locs hw Z => ?_)
  refine lv_iconst (v := 4) X.x X.b dL_serial_352 ki_4 ?_
  refine lv_icmp_ne (tgt := 467) X.x X.b dL_serial_353 (by decide) (fun h => absurd h (by decide)) (fun _ => ?_)
  refine lv_aload_n X.x X.b dL_serial_356 rfl (lv_at hl 0 rfl) ?_
  refine lv_iconst (v := 0) X.x X.b dL_serial_357 ki_0 ?_
  refine lv_iconst (v := 4) X.x X.b dL_serial_358 ki_4 ?_
  refine o_call (wr := []) Y Z hl hw (C_mail l hT Δ 0 4 fc_32) wd_447 wd_448 wd_449 wd_19 wd_450 ok_X6_mail rfl rfl (rest := []) rfl (Nat.le_of_ble_eq_true rfl) ⟨Nat.le_of_ble_eq_true rfl, Nat.le_of_ble_eq_true rfl⟩ ⟨Nat.le_of_ble_eq_true rfl, Nat.le_of_ble_eq_true rfl⟩ (c1 := 196) (s1 := 1709) rfl rfl dL_serial_359 (fun ws H locs hw Z => ?_)
  refine lv_iconst (v := 2) X.x X.b dL_serial_362 ki_2 ?_
  refine lv_icmp_ne (tgt := 467) X.x X.b dL_serial_363 (by decide) (fun h => absurd h (by decide)) (fun _ => ?_)
  refine lv_aload_n X.x X.b dL_serial_366 rfl (lv_at hl 0 rfl) ?_
  refine lv_iconst (v := 4) X.x X.b dL_serial_367 ki_4 ?_
  refine lv_iconst (v := 0) X.x X.b dL_serial_368 ki_0 ?_
  refine lv_iconst (v := 4) X.x X.b dL_serial_369 ki_4 ?_
  refine lv_iconst (v := 0) X.x X.b dL_serial_370 ki_0 ?_
  refine o_statX (wr := []) Y Z hl (M_told l hT Δ 4 0 4 0 fc_33 a ws hw) wd_349 wd_350 wd_18 wd_351 ok_L_told rfl (rest := []) rfl (Nat.le_of_ble_eq_true rfl) ⟨Nat.le_of_ble_eq_true rfl, Nat.le_of_ble_eq_true rfl⟩ ⟨Nat.le_of_ble_eq_true rfl, Nat.le_of_ble_eq_true rfl⟩ (c1 := 211) (s1 := 1848) rfl rfl dL_serial_371 (fun rv ws H locs hP Z => ?_)
  obtain ⟨rfl, hw⟩ := hP
  refine W.eq (g2 := F0 m 374 ls [.int (-12)]) rfl ?_
  refine lv_bipush (v := (-12)) X.x X.b dL_serial_374 kb_m12 ?_
  refine lv_icmp_ne (tgt := 467) X.x X.b dL_serial_376 (by decide) (fun h => absurd h (by decide)) (fun _ => ?_)
  refine lv_aload_n X.x X.b dL_serial_379 rfl (lv_at hl 0 rfl) ?_
  refine lv_iconst (v := 0) X.x X.b dL_serial_380 ki_0 ?_
  refine lv_iconst (v := 3) X.x X.b dL_serial_381 ki_3 ?_
  refine o_call (wr := []) Y Z hl hw (C_knows l hT Δ 0 3 fc_34) wd_597 wd_598 wd_599 wd_19 wd_600 ok_X6_knows rfl rfl (rest := []) rfl (Nat.le_of_ble_eq_true rfl) ⟨Nat.le_of_ble_eq_true rfl, Nat.le_of_ble_eq_true rfl⟩ ⟨Nat.le_of_ble_eq_true rfl, Nat.le_of_ble_eq_true rfl⟩ (c1 := 213) (s1 := 1860) rfl rfl dL_serial_382 (fun ws H locs hw Z => ?_)
  refine lv_iconst (v := 1) X.x X.b dL_serial_385 ki_1 ?_
  refine lv_icmp_ne (tgt := 467) X.x X.b dL_serial_386 (by decide) (fun h => absurd h (by decide)) (fun _ => ?_)
  refine lv_aload_n X.x X.b dL_serial_389 rfl (lv_at hl 0 rfl) ?_
  refine lv_iconst (v := 0) X.x X.b dL_serial_390 ki_0 ?_
  refine lv_iconst (v := 4) X.x X.b dL_serial_391 ki_4 ?_
  refine o_call (wr := []) Y Z hl hw (C_knows l hT Δ 0 4 fc_35) wd_597 wd_598 wd_599 wd_19 wd_600 ok_X6_knows rfl rfl (rest := []) rfl (Nat.le_of_ble_eq_true rfl) ⟨Nat.le_of_ble_eq_true rfl, Nat.le_of_ble_eq_true rfl⟩ ⟨Nat.le_of_ble_eq_true rfl, Nat.le_of_ble_eq_true rfl⟩ (c1 := 215) (s1 := 1872) rfl rfl dL_serial_392 (fun ws H locs hw Z => ?_)
  refine lv_iconst (v := 2) X.x X.b dL_serial_395 ki_2 ?_
  refine lv_icmp_ne (tgt := 467) X.x X.b dL_serial_396 (by decide) (fun h => absurd h (by decide)) (fun _ => ?_)
  refine lv_aload_n X.x X.b dL_serial_399 rfl (lv_at hl 0 rfl) ?_
  refine lv_iconst (v := 0) X.x X.b dL_serial_400 ki_0 ?_
  refine lv_iconst (v := 1) X.x X.b dL_serial_401 ki_1 ?_
  refine o_call (wr := []) Y Z hl hw (C_knows l hT Δ 0 1 fc_36) wd_597 wd_598 wd_599 wd_19 wd_600 ok_X6_knows rfl rfl (rest := []) rfl (Nat.le_of_ble_eq_true rfl) ⟨Nat.le_of_ble_eq_true rfl, Nat.le_of_ble_eq_true rfl⟩ ⟨Nat.le_of_ble_eq_true rfl, Nat.le_of_ble_eq_true rfl⟩ (c1 := 217) (s1 := 1884) rfl rfl dL_serial_402 (fun ws H locs hw Z => ?_)
  refine lv_if_ne (tgt := 467) X.x X.b dL_serial_405 (by decide) (fun h => absurd h (by decide)) (fun _ => ?_)
  refine lv_aload_n X.x X.b dL_serial_408 rfl (lv_at hl 0 rfl) ?_
  refine lv_iconst (v := 0) X.x X.b dL_serial_409 ki_0 ?_
  refine lv_iconst (v := 3) X.x X.b dL_serial_410 ki_3 ?_
  refine o_call (wr := []) Y Z hl hw (C_reader l hT Δ 0 3 fc_37) wd_605 wd_606 wd_607 wd_19 wd_608 ok_X6_reader rfl rfl (rest := []) rfl (Nat.le_of_ble_eq_true rfl) ⟨Nat.le_of_ble_eq_true rfl, Nat.le_of_ble_eq_true rfl⟩ ⟨Nat.le_of_ble_eq_true rfl, Nat.le_of_ble_eq_true rfl⟩ (c1 := 219) (s1 := 1896) rfl rfl dL_serial_411 (fun ws H locs hw Z => ?_)
  refine lv_if_ne (tgt := 467) X.x X.b dL_serial_414 (by decide) (fun h => absurd h (by decide)) (fun _ => ?_)
  refine lv_aload_n X.x X.b dL_serial_417 rfl (lv_at hl 0 rfl) ?_
  refine lv_iconst (v := 0) X.x X.b dL_serial_418 ki_0 ?_
  refine lv_iconst (v := 4) X.x X.b dL_serial_419 ki_4 ?_
  refine o_call (wr := []) Y Z hl hw (C_reader l hT Δ 0 4 fc_38) wd_605 wd_606 wd_607 wd_19 wd_608 ok_X6_reader rfl rfl (rest := []) rfl (Nat.le_of_ble_eq_true rfl) ⟨Nat.le_of_ble_eq_true rfl, Nat.le_of_ble_eq_true rfl⟩ ⟨Nat.le_of_ble_eq_true rfl, Nat.le_of_ble_eq_true rfl⟩ (c1 := 221) (s1 := 1908) rfl rfl dL_serial_420 (fun ws H locs hw Z => ?_)
  refine lv_bipush (v := 21) X.x X.b dL_serial_423 kb_21 ?_
  refine lv_icmp_ne (tgt := 467) X.x X.b dL_serial_425 (by decide) (fun h => absurd h (by decide)) (fun _ => ?_)
  exact SG_serial_3 l hT Δ Y Z hl hw
set_option maxRecDepth 100000 in
set_option maxHeartbeats 4000000 in
theorem SG_serial_1 (l : Launch) (hT : l.stackTraces = false) (Δ : zE) {p : Program} {e : Env} {s : State} {m : MethodId} {args : Array Value} {below : List Frame} {meth : Method} {c : Code} {A : Nat → Prop} (Y : zY Δ p l s m args meth c yL_serial cL_serial 3 (some .boolean) A) {H : Heap} {locs : List Loc} {ls : Array Slot} {a : Nat} {ws : va_W} (Z : zW Δ A s.heap (ws ++ []) H locs) (hl : lv_has ls 3 [(0, .ref a)]) (hw : wOb Δ a T_5 ws) : W p l e { frames := 12, cells := 3651, slots := 33605, locals := 235 } s m args below meth c H locs 124 1179 (zEndX Δ below args s 3651 33605 A (fun rv w => rv = some (.int 1) ∧ w = []) (fun _ _ => False)) (F0 m 141 ls []) := by
  have X := Y.1
  refine lv_aload_n X.x X.b dL_serial_141 rfl (lv_at hl 0 rfl) ?_
  refine lv_iconst (v := 2) X.x X.b dL_serial_142 ki_2 ?_
  refine lv_iconst (v := 3) X.x X.b dL_serial_143 ki_3 ?_
  refine o_call (wr := []) Y Z hl hw (C_part l hT Δ 2 3 fc_12) wd_584 wd_585 wd_586 wd_19 wd_587 ok_X6_part rfl rfl (rest := []) rfl (Nat.le_of_ble_eq_true rfl) ⟨Nat.le_of_ble_eq_true rfl, Nat.le_of_ble_eq_true rfl⟩ ⟨Nat.le_of_ble_eq_true rfl, Nat.le_of_ble_eq_true rfl⟩ (c1 := 126) (s1 := 1191) rfl rfl dL_serial_144 (fun ws H locs hw Z => ?_)
  refine lv_iconst (v := 2) X.x X.b dL_serial_147 ki_2 ?_
  refine lv_icmp_ne (tgt := 234) X.x X.b dL_serial_148 (by decide) (fun h => absurd h (by decide)) (fun _ => ?_)
  refine lv_aload_n X.x X.b dL_serial_151 rfl (lv_at hl 0 rfl) ?_
  refine lv_iconst (v := 3) X.x X.b dL_serial_152 ki_3 ?_
  refine lv_iconst (v := 3) X.x X.b dL_serial_153 ki_3 ?_
  refine o_call (wr := []) Y Z hl hw (C_part l hT Δ 3 3 fc_13) wd_584 wd_585 wd_586 wd_19 wd_587 ok_X6_part rfl rfl (rest := []) rfl (Nat.le_of_ble_eq_true rfl) ⟨Nat.le_of_ble_eq_true rfl, Nat.le_of_ble_eq_true rfl⟩ ⟨Nat.le_of_ble_eq_true rfl, Nat.le_of_ble_eq_true rfl⟩ (c1 := 128) (s1 := 1203) rfl rfl dL_serial_154 (fun ws H locs hw Z => ?_)
  refine lv_iconst (v := 2) X.x X.b dL_serial_157 ki_2 ?_
  refine lv_icmp_ne (tgt := 234) X.x X.b dL_serial_158 (by decide) (fun h => absurd h (by decide)) (fun _ => ?_)
  refine lv_aload_n X.x X.b dL_serial_161 rfl (lv_at hl 0 rfl) ?_
  refine lv_iconst (v := 4) X.x X.b dL_serial_162 ki_4 ?_
  refine lv_iconst (v := 3) X.x X.b dL_serial_163 ki_3 ?_
  refine o_call (wr := []) Y Z hl hw (C_part l hT Δ 4 3 fc_14) wd_584 wd_585 wd_586 wd_19 wd_587 ok_X6_part rfl rfl (rest := []) rfl (Nat.le_of_ble_eq_true rfl) ⟨Nat.le_of_ble_eq_true rfl, Nat.le_of_ble_eq_true rfl⟩ ⟨Nat.le_of_ble_eq_true rfl, Nat.le_of_ble_eq_true rfl⟩ (c1 := 130) (s1 := 1215) rfl rfl dL_serial_164 (fun ws H locs hw Z => ?_)
  refine lv_bipush (v := 12) X.x X.b dL_serial_167 kb_12 ?_
  refine lv_icmp_ne (tgt := 234) X.x X.b dL_serial_169 (by decide) (fun h => absurd h (by decide)) (fun _ => ?_)
  refine lv_aload_n X.x X.b dL_serial_172 rfl (lv_at hl 0 rfl) ?_
  refine lv_iconst (v := 4) X.x X.b dL_serial_173 ki_4 ?_
  refine lv_bipush (v := 6) X.x X.b dL_serial_174 kb_6 ?_
  refine o_call (wr := []) Y Z hl hw (C_part l hT Δ 4 6 fc_15) wd_584 wd_585 wd_586 wd_19 wd_587 ok_X6_part rfl rfl (rest := []) rfl (Nat.le_of_ble_eq_true rfl) ⟨Nat.le_of_ble_eq_true rfl, Nat.le_of_ble_eq_true rfl⟩ ⟨Nat.le_of_ble_eq_true rfl, Nat.le_of_ble_eq_true rfl⟩ (c1 := 132) (s1 := 1227) rfl rfl dL_serial_176 (fun ws H locs hw Z => ?_)
  refine lv_iconst (v := 4) X.x X.b dL_serial_179 ki_4 ?_
  refine lv_icmp_ne (tgt := 234) X.x X.b dL_serial_180 (by decide) (fun h => absurd h (by decide)) (fun _ => ?_)
  refine lv_aload_n X.x X.b dL_serial_183 rfl (lv_at hl 0 rfl) ?_
  refine lv_iconst (v := 1) X.x X.b dL_serial_184 ki_1 ?_
  refine lv_iconst (v := 4) X.x X.b dL_serial_185 ki_4 ?_
  refine o_call (wr := []) Y Z hl hw (C_part l hT Δ 1 4 fc_16) wd_584 wd_585 wd_586 wd_19 wd_587 ok_X6_part rfl rfl (rest := []) rfl (Nat.le_of_ble_eq_true rfl) ⟨Nat.le_of_ble_eq_true rfl, Nat.le_of_ble_eq_true rfl⟩ ⟨Nat.le_of_ble_eq_true rfl, Nat.le_of_ble_eq_true rfl⟩ (c1 := 134) (s1 := 1239) rfl rfl dL_serial_186 (fun ws H locs hw Z => ?_)
  refine lv_iconst (v := 2) X.x X.b dL_serial_189 ki_2 ?_
  refine lv_icmp_ne (tgt := 234) X.x X.b dL_serial_190 (by decide) (fun h => absurd h (by decide)) (fun _ => ?_)
  refine lv_aload_n X.x X.b dL_serial_193 rfl (lv_at hl 0 rfl) ?_
  refine lv_iconst (v := 0) X.x X.b dL_serial_194 ki_0 ?_
  refine lv_bipush (v := 6) X.x X.b dL_serial_195 kb_6 ?_
  refine o_call (wr := []) Y Z hl hw (C_part l hT Δ 0 6 fc_17) wd_584 wd_585 wd_586 wd_19 wd_587 ok_X6_part rfl rfl (rest := []) rfl (Nat.le_of_ble_eq_true rfl) ⟨Nat.le_of_ble_eq_true rfl, Nat.le_of_ble_eq_true rfl⟩ ⟨Nat.le_of_ble_eq_true rfl, Nat.le_of_ble_eq_true rfl⟩ (c1 := 136) (s1 := 1251) rfl rfl dL_serial_197 (fun ws H locs hw Z => ?_)
  refine lv_if_ne (tgt := 234) X.x X.b dL_serial_200 (by decide) (fun h => absurd h (by decide)) (fun _ => ?_)
  refine lv_aload_n X.x X.b dL_serial_203 rfl (lv_at hl 0 rfl) ?_
  refine lv_iconst (v := 3) X.x X.b dL_serial_204 ki_3 ?_
  refine lv_iconst (v := 1) X.x X.b dL_serial_205 ki_1 ?_
  refine o_call (wr := []) Y Z hl hw (C_part l hT Δ 3 1 fc_18) wd_584 wd_585 wd_586 wd_19 wd_587 ok_X6_part rfl rfl (rest := []) rfl (Nat.le_of_ble_eq_true rfl) ⟨Nat.le_of_ble_eq_true rfl, Nat.le_of_ble_eq_true rfl⟩ ⟨Nat.le_of_ble_eq_true rfl, Nat.le_of_ble_eq_true rfl⟩ (c1 := 138) (s1 := 1263) rfl rfl dL_serial_206 (fun ws H locs hw Z => ?_)
  refine lv_iconst (v := 2) X.x X.b dL_serial_209 ki_2 ?_
  refine lv_icmp_ne (tgt := 234) X.x X.b dL_serial_210 (by decide) (fun h => absurd h (by decide)) (fun _ => ?_)
  refine lv_aload_n X.x X.b dL_serial_213 rfl (lv_at hl 0 rfl) ?_
  refine lv_iconst (v := 4) X.x X.b dL_serial_214 ki_4 ?_
  refine lv_iconst (v := 1) X.x X.b dL_serial_215 ki_1 ?_
  refine o_call (wr := []) Y Z hl hw (C_part l hT Δ 4 1 fc_19) wd_584 wd_585 wd_586 wd_19 wd_587 ok_X6_part rfl rfl (rest := []) rfl (Nat.le_of_ble_eq_true rfl) ⟨Nat.le_of_ble_eq_true rfl, Nat.le_of_ble_eq_true rfl⟩ ⟨Nat.le_of_ble_eq_true rfl, Nat.le_of_ble_eq_true rfl⟩ (c1 := 140) (s1 := 1275) rfl rfl dL_serial_216 (fun ws H locs hw Z => ?_)
  refine lv_iconst (v := (-1)) X.x X.b dL_serial_219 ki_m1 ?_
  refine lv_icmp_ne (tgt := 234) X.x X.b dL_serial_220 (by decide) (fun h => absurd h (by decide)) (fun _ => ?_)
  refine lv_aload_n X.x X.b dL_serial_223 rfl (lv_at hl 0 rfl) ?_
  refine lv_iconst (v := 1) X.x X.b dL_serial_224 ki_1 ?_
  refine o_call (wr := []) Y Z hl hw (C_count l hT Δ 1 fc_20) wd_290 wd_291 wd_292 wd_19 wd_293 ok_X6_count rfl rfl (rest := []) rfl (Nat.le_of_ble_eq_true rfl) ⟨Nat.le_of_ble_eq_true rfl, Nat.le_of_ble_eq_true rfl⟩ ⟨Nat.le_of_ble_eq_true rfl, Nat.le_of_ble_eq_true rfl⟩ (c1 := 141) (s1 := 1281) rfl rfl dL_serial_225 (fun ws H locs hw Z => ?_)
  refine lv_sipush (v := 153) X.x X.b dL_serial_228 kh_153 ?_
  refine lv_icmp_eq (tgt := 236) X.x X.b dL_serial_231 (by decide) (fun _ => ?_) (fun h => absurd h (by decide))
  refine lv_aload_n X.x X.b dL_serial_236 rfl (lv_at hl 0 rfl) ?_
  refine lv_iconst (v := 0) X.x X.b dL_serial_237 ki_0 ?_
  refine lv_iconst (v := 4) X.x X.b dL_serial_238 ki_4 ?_
  refine lv_iconst (v := 0) X.x X.b dL_serial_239 ki_0 ?_
  refine o_call (wr := []) Y Z hl hw (C_recap l hT Δ 0 4 0 fc_21) wd_646 wd_647 wd_648 wd_19 wd_649 ok_X6_recap rfl rfl (rest := []) rfl (Nat.le_of_ble_eq_true rfl) ⟨Nat.le_of_ble_eq_true rfl, Nat.le_of_ble_eq_true rfl⟩ ⟨Nat.le_of_ble_eq_true rfl, Nat.le_of_ble_eq_true rfl⟩ (c1 := 144) (s1 := 1299) rfl rfl dL_serial_240 (fun ws H locs hw Z => ?_)
  refine lv_iconst (v := 4) X.x X.b dL_serial_243 ki_4 ?_
  refine lv_icmp_ne (tgt := 467) X.x X.b dL_serial_244 (by decide) (fun h => absurd h (by decide)) (fun _ => ?_)
  refine lv_aload_n X.x X.b dL_serial_247 rfl (lv_at hl 0 rfl) ?_
  refine lv_iconst (v := 0) X.x X.b dL_serial_248 ki_0 ?_
  refine lv_iconst (v := 4) X.x X.b dL_serial_249 ki_4 ?_
  refine lv_iconst (v := 1) X.x X.b dL_serial_250 ki_1 ?_
  refine o_call (wr := []) Y Z hl hw (C_recap l hT Δ 0 4 1 fc_22) wd_646 wd_647 wd_648 wd_19 wd_649 ok_X6_recap rfl rfl (rest := []) rfl (Nat.le_of_ble_eq_true rfl) ⟨Nat.le_of_ble_eq_true rfl, Nat.le_of_ble_eq_true rfl⟩ ⟨Nat.le_of_ble_eq_true rfl, Nat.le_of_ble_eq_true rfl⟩ (c1 := 147) (s1 := 1317) rfl rfl dL_serial_251 (fun ws H locs hw Z => ?_)
  refine lv_bipush (v := 15) X.x X.b dL_serial_254 kb_15 ?_
  refine lv_icmp_ne (tgt := 467) X.x X.b dL_serial_256 (by decide) (fun h => absurd h (by decide)) (fun _ => ?_)
  refine lv_aload_n X.x X.b dL_serial_259 rfl (lv_at hl 0 rfl) ?_
  refine lv_iconst (v := 0) X.x X.b dL_serial_260 ki_0 ?_
  refine lv_iconst (v := 4) X.x X.b dL_serial_261 ki_4 ?_
  refine lv_iconst (v := 2) X.x X.b dL_serial_262 ki_2 ?_
  refine o_call (wr := []) Y Z hl hw (C_recap l hT Δ 0 4 2 fc_23) wd_646 wd_647 wd_648 wd_19 wd_649 ok_X6_recap rfl rfl (rest := []) rfl (Nat.le_of_ble_eq_true rfl) ⟨Nat.le_of_ble_eq_true rfl, Nat.le_of_ble_eq_true rfl⟩ ⟨Nat.le_of_ble_eq_true rfl, Nat.le_of_ble_eq_true rfl⟩ (c1 := 150) (s1 := 1335) rfl rfl dL_serial_263 (fun ws H locs hw Z => ?_)
  refine lv_bipush (v := 15) X.x X.b dL_serial_266 kb_15 ?_
  refine lv_icmp_ne (tgt := 467) X.x X.b dL_serial_268 (by decide) (fun h => absurd h (by decide)) (fun _ => ?_)
  refine lv_aload_n X.x X.b dL_serial_271 rfl (lv_at hl 0 rfl) ?_
  refine lv_iconst (v := 0) X.x X.b dL_serial_272 ki_0 ?_
  refine lv_iconst (v := 4) X.x X.b dL_serial_273 ki_4 ?_
  refine lv_iconst (v := 3) X.x X.b dL_serial_274 ki_3 ?_
  refine o_call (wr := []) Y Z hl hw (C_recap l hT Δ 0 4 3 fc_24) wd_646 wd_647 wd_648 wd_19 wd_649 ok_X6_recap rfl rfl (rest := []) rfl (Nat.le_of_ble_eq_true rfl) ⟨Nat.le_of_ble_eq_true rfl, Nat.le_of_ble_eq_true rfl⟩ ⟨Nat.le_of_ble_eq_true rfl, Nat.le_of_ble_eq_true rfl⟩ (c1 := 153) (s1 := 1353) rfl rfl dL_serial_275 (fun ws H locs hw Z => ?_)
  refine lv_if_ne (tgt := 467) X.x X.b dL_serial_278 (by decide) (fun h => absurd h (by decide)) (fun _ => ?_)
  refine lv_aload_n X.x X.b dL_serial_281 rfl (lv_at hl 0 rfl) ?_
  refine lv_iconst (v := 0) X.x X.b dL_serial_282 ki_0 ?_
  refine lv_iconst (v := 4) X.x X.b dL_serial_283 ki_4 ?_
  refine lv_iconst (v := 4) X.x X.b dL_serial_284 ki_4 ?_
  refine o_call (wr := []) Y Z hl hw (C_recap l hT Δ 0 4 4 fc_25) wd_646 wd_647 wd_648 wd_19 wd_649 ok_X6_recap rfl rfl (rest := []) rfl (Nat.le_of_ble_eq_true rfl) ⟨Nat.le_of_ble_eq_true rfl, Nat.le_of_ble_eq_true rfl⟩ ⟨Nat.le_of_ble_eq_true rfl, Nat.le_of_ble_eq_true rfl⟩ (c1 := 156) (s1 := 1371) rfl rfl dL_serial_285 (fun ws H locs hw Z => ?_)
  refine lv_bipush (v := 25) X.x X.b dL_serial_288 kb_25 ?_
  refine lv_icmp_ne (tgt := 467) X.x X.b dL_serial_290 (by decide) (fun h => absurd h (by decide)) (fun _ => ?_)
  exact SG_serial_2 l hT Δ Y Z hl hw
set_option maxRecDepth 100000 in
set_option maxHeartbeats 4000000 in
theorem M_serial (l : Launch) (hT : l.stackTraces = false) (Δ : zE) : zMX l Δ yL_serial (.code yL_serial cL_serial 3 (some .boolean)) 12 235 3651 33605 [] [] (fun rv w => rv = some (.int 1) ∧ w = []) (fun _ _ => False) := by
  refine x_start hT (by decide +kernel) (Nat.le_of_ble_eq_true rfl) ?_
  intro p e s m args below meth c A ls Y htab Z hl
  have X := Y.1
  have hl : lv_has ls 3 [] := hl
  refine o_new (rest := []) Y Z hl wd_35 wd_36 wd_19 wd_37 wd_38 wd_39 ok_X6_init (Nat.le_of_ble_eq_true rfl) ⟨Nat.le_of_ble_eq_true rfl, Nat.le_of_ble_eq_true rfl⟩ ⟨Nat.le_of_ble_eq_true rfl, Nat.le_of_ble_eq_true rfl⟩ (c1 := 19) (s1 := 206) rfl rfl dL_serial_0 dL_serial_3 dL_serial_4 (fun a ws H locs hw Z => ?_)
  rw [T_new] at hw
  refine lv_astore_n (lv' := [(0, .ref a)]) X.x X.b dL_serial_7 rfl hl (Nat.le_of_ble_eq_true rfl) rfl (fun ls hl => ?_)
  refine lv_aload_n X.x X.b dL_serial_8 rfl (lv_at hl 0 rfl) ?_
  refine lv_bipush (v := 10) X.x X.b dL_serial_9 kb_10 ?_
  refine lv_iconst (v := 0) X.x X.b dL_serial_11 ki_0 ?_
  refine lv_iconst (v := 0) X.x X.b dL_serial_12 ki_0 ?_
  refine lv_iconst (v := 0) X.x X.b dL_serial_13 ki_0 ?_
  refine o_statX (wr := []) Y Z hl (M_told l hT Δ 10 0 0 0 fc_0 a ws hw) wd_349 wd_350 wd_18 wd_351 ok_L_told rfl (rest := []) rfl (Nat.le_of_ble_eq_true rfl) ⟨Nat.le_of_ble_eq_true rfl, Nat.le_of_ble_eq_true rfl⟩ ⟨Nat.le_of_ble_eq_true rfl, Nat.le_of_ble_eq_true rfl⟩ (c1 := 34) (s1 := 345) rfl rfl dL_serial_14 (fun rv ws H locs hP Z => ?_)
  obtain ⟨rfl, hw⟩ := hP
  refine W.eq (g2 := F0 m 17 ls [.int (-12)]) rfl ?_
  refine lv_bipush (v := (-12)) X.x X.b dL_serial_17 kb_m12 ?_
  refine lv_icmp_ne (tgt := 234) X.x X.b dL_serial_19 (by decide) (fun h => absurd h (by decide)) (fun _ => ?_)
  refine lv_aload_n X.x X.b dL_serial_22 rfl (lv_at hl 0 rfl) ?_
  refine lv_iconst (v := 2) X.x X.b dL_serial_23 ki_2 ?_
  refine lv_iconst (v := 0) X.x X.b dL_serial_24 ki_0 ?_
  refine lv_iconst (v := 0) X.x X.b dL_serial_25 ki_0 ?_
  refine lv_iconst (v := 0) X.x X.b dL_serial_26 ki_0 ?_
  refine o_statX (wr := []) Y Z hl (M_told l hT Δ 2 0 0 0 fc_1 a ws hw) wd_349 wd_350 wd_18 wd_351 ok_L_told rfl (rest := []) rfl (Nat.le_of_ble_eq_true rfl) ⟨Nat.le_of_ble_eq_true rfl, Nat.le_of_ble_eq_true rfl⟩ ⟨Nat.le_of_ble_eq_true rfl, Nat.le_of_ble_eq_true rfl⟩ (c1 := 49) (s1 := 484) rfl rfl dL_serial_27 (fun rv ws H locs hP Z => ?_)
  obtain ⟨rfl, hw⟩ := hP
  refine W.eq (g2 := F0 m 30 ls [.int (-12)]) rfl ?_
  refine lv_bipush (v := (-12)) X.x X.b dL_serial_30 kb_m12 ?_
  refine lv_icmp_ne (tgt := 234) X.x X.b dL_serial_32 (by decide) (fun h => absurd h (by decide)) (fun _ => ?_)
  refine lv_aload_n X.x X.b dL_serial_35 rfl (lv_at hl 0 rfl) ?_
  refine o_callW (v := .double FP.dconst1) (wr := []) Y Z hl hw (C_readShare l hT Δ (b := T_0) fc_2 a ws hw) wd_722 wd_723 wd_724 wd_19 wd_725 ok_X6_readShare rfl (rest := []) rfl (Nat.le_of_ble_eq_true rfl) ⟨Nat.le_of_ble_eq_true rfl, Nat.le_of_ble_eq_true rfl⟩ ⟨Nat.le_of_ble_eq_true rfl, Nat.le_of_ble_eq_true rfl⟩ (c1 := 49) (s1 := 484) rfl rfl dL_serial_36 (fun ws H locs hw Z => ?_)
  refine lv_dconst1 X.x X.b dL_serial_39 ?_
  refine lv_dcmp X.x X.b dL_serial_40 ?_
  rw [show Op.cmpValue (FP.dcmp FP.dconst1 FP.dconst1) CmpOp.l = 0 by decide +kernel]
  refine lv_if_ne (tgt := 234) X.x X.b dL_serial_41 (by decide) (fun h => absurd h (by decide)) (fun _ => ?_)
  refine lv_aload_n X.x X.b dL_serial_44 rfl (lv_at hl 0 rfl) ?_
  refine lv_iconst (v := 5) X.x X.b dL_serial_45 ki_5 ?_
  refine o_call (wr := []) Y Z hl hw (C_count l hT Δ 5 fc_3) wd_290 wd_291 wd_292 wd_19 wd_293 ok_X6_count rfl rfl (rest := []) rfl (Nat.le_of_ble_eq_true rfl) ⟨Nat.le_of_ble_eq_true rfl, Nat.le_of_ble_eq_true rfl⟩ ⟨Nat.le_of_ble_eq_true rfl, Nat.le_of_ble_eq_true rfl⟩ (c1 := 50) (s1 := 490) rfl rfl dL_serial_46 (fun ws H locs hw Z => ?_)
  refine lv_bipush (v := 6) X.x X.b dL_serial_49 kb_6 ?_
  refine lv_icmp_ne (tgt := 234) X.x X.b dL_serial_51 (by decide) (fun h => absurd h (by decide)) (fun _ => ?_)
  refine lv_aload_n X.x X.b dL_serial_54 rfl (lv_at hl 0 rfl) ?_
  refine lv_iconst (v := 0) X.x X.b dL_serial_55 ki_0 ?_
  refine o_call (wr := []) Y Z hl hw (C_easiest l hT Δ 0 fc_4) wd_654 wd_655 wd_656 wd_19 wd_657 ok_X6_easiest rfl rfl (rest := []) rfl (Nat.le_of_ble_eq_true rfl) ⟨Nat.le_of_ble_eq_true rfl, Nat.le_of_ble_eq_true rfl⟩ ⟨Nat.le_of_ble_eq_true rfl, Nat.le_of_ble_eq_true rfl⟩ (c1 := 51) (s1 := 496) rfl rfl dL_serial_56 (fun ws H locs hw Z => ?_)
  refine lv_iconst (v := (-1)) X.x X.b dL_serial_59 ki_m1 ?_
  refine lv_icmp_ne (tgt := 234) X.x X.b dL_serial_60 (by decide) (fun h => absurd h (by decide)) (fun _ => ?_)
  refine lv_aload_n X.x X.b dL_serial_63 rfl (lv_at hl 0 rfl) ?_
  refine lv_iconst (v := 5) X.x X.b dL_serial_64 ki_5 ?_
  refine o_call (wr := []) Y Z hl hw (C_enough l hT Δ 5 fc_5) wd_663 wd_664 wd_665 wd_19 wd_666 ok_X6_enough rfl rfl (rest := []) rfl (Nat.le_of_ble_eq_true rfl) ⟨Nat.le_of_ble_eq_true rfl, Nat.le_of_ble_eq_true rfl⟩ ⟨Nat.le_of_ble_eq_true rfl, Nat.le_of_ble_eq_true rfl⟩ (c1 := 52) (s1 := 502) rfl rfl dL_serial_65 (fun ws H locs hw Z => ?_)
  refine lv_if_ne (tgt := 234) X.x X.b dL_serial_68 (by decide) (fun h => absurd h (by decide)) (fun _ => ?_)
  refine lv_aload_n X.x X.b dL_serial_71 rfl (lv_at hl 0 rfl) ?_
  refine lv_iconst (v := 1) X.x X.b dL_serial_72 ki_1 ?_
  refine lv_iconst (v := (-1)) X.x X.b dL_serial_73 ki_m1 ?_
  refine lv_bipush (v := 20) X.x X.b dL_serial_74 kb_20 ?_
  refine o_call (wr := []) Y Z hl hw (C_add l hT Δ 1 (-1) 20 fc_6) wd_358 wd_359 wd_360 wd_19 wd_361 ok_X6_add rfl rfl (rest := []) rfl (Nat.le_of_ble_eq_true rfl) ⟨Nat.le_of_ble_eq_true rfl, Nat.le_of_ble_eq_true rfl⟩ ⟨Nat.le_of_ble_eq_true rfl, Nat.le_of_ble_eq_true rfl⟩ (c1 := 66) (s1 := 635) rfl rfl dL_serial_76 (fun ws H locs hw Z => ?_)
  refine lv_if_ne (tgt := 234) X.x X.b dL_serial_79 (by decide) (fun h => absurd h (by decide)) (fun _ => ?_)
  refine lv_aload_n X.x X.b dL_serial_82 rfl (lv_at hl 0 rfl) ?_
  refine lv_iconst (v := 3) X.x X.b dL_serial_83 ki_3 ?_
  refine lv_iconst (v := 1) X.x X.b dL_serial_84 ki_1 ?_
  refine lv_bipush (v := 15) X.x X.b dL_serial_85 kb_15 ?_
  refine o_call (wr := []) Y Z hl hw (C_add l hT Δ 3 1 15 fc_7) wd_358 wd_359 wd_360 wd_19 wd_361 ok_X6_add rfl rfl (rest := []) rfl (Nat.le_of_ble_eq_true rfl) ⟨Nat.le_of_ble_eq_true rfl, Nat.le_of_ble_eq_true rfl⟩ ⟨Nat.le_of_ble_eq_true rfl, Nat.le_of_ble_eq_true rfl⟩ (c1 := 80) (s1 := 768) rfl rfl dL_serial_87 (fun ws H locs hw Z => ?_)
  refine lv_iconst (v := 1) X.x X.b dL_serial_90 ki_1 ?_
  refine lv_icmp_ne (tgt := 234) X.x X.b dL_serial_91 (by decide) (fun h => absurd h (by decide)) (fun _ => ?_)
  refine lv_aload_n X.x X.b dL_serial_94 rfl (lv_at hl 0 rfl) ?_
  refine lv_iconst (v := 2) X.x X.b dL_serial_95 ki_2 ?_
  refine lv_iconst (v := (-1)) X.x X.b dL_serial_96 ki_m1 ?_
  refine lv_bipush (v := 9) X.x X.b dL_serial_97 kb_9 ?_
  refine o_call (wr := []) Y Z hl hw (C_add l hT Δ 2 (-1) 9 fc_8) wd_358 wd_359 wd_360 wd_19 wd_361 ok_X6_add rfl rfl (rest := []) rfl (Nat.le_of_ble_eq_true rfl) ⟨Nat.le_of_ble_eq_true rfl, Nat.le_of_ble_eq_true rfl⟩ ⟨Nat.le_of_ble_eq_true rfl, Nat.le_of_ble_eq_true rfl⟩ (c1 := 94) (s1 := 901) rfl rfl dL_serial_99 (fun ws H locs hw Z => ?_)
  refine lv_iconst (v := 2) X.x X.b dL_serial_102 ki_2 ?_
  refine lv_icmp_ne (tgt := 234) X.x X.b dL_serial_103 (by decide) (fun h => absurd h (by decide)) (fun _ => ?_)
  refine lv_aload_n X.x X.b dL_serial_106 rfl (lv_at hl 0 rfl) ?_
  refine lv_iconst (v := 5) X.x X.b dL_serial_107 ki_5 ?_
  refine lv_iconst (v := 2) X.x X.b dL_serial_108 ki_2 ?_
  refine lv_bipush (v := 99) X.x X.b dL_serial_109 kb_99 ?_
  refine o_call (wr := []) Y Z hl hw (C_add l hT Δ 5 2 99 fc_9) wd_358 wd_359 wd_360 wd_19 wd_361 ok_X6_add rfl rfl (rest := []) rfl (Nat.le_of_ble_eq_true rfl) ⟨Nat.le_of_ble_eq_true rfl, Nat.le_of_ble_eq_true rfl⟩ ⟨Nat.le_of_ble_eq_true rfl, Nat.le_of_ble_eq_true rfl⟩ (c1 := 108) (s1 := 1034) rfl rfl dL_serial_111 (fun ws H locs hw Z => ?_)
  refine lv_iconst (v := 3) X.x X.b dL_serial_114 ki_3 ?_
  refine lv_icmp_ne (tgt := 234) X.x X.b dL_serial_115 (by decide) (fun h => absurd h (by decide)) (fun _ => ?_)
  refine lv_aload_n X.x X.b dL_serial_118 rfl (lv_at hl 0 rfl) ?_
  refine lv_bipush (v := 7) X.x X.b dL_serial_119 kb_7 ?_
  refine lv_iconst (v := (-1)) X.x X.b dL_serial_121 ki_m1 ?_
  refine lv_bipush (v := 10) X.x X.b dL_serial_122 kb_10 ?_
  refine o_call (wr := []) Y Z hl hw (C_add l hT Δ 7 (-1) 10 fc_10) wd_358 wd_359 wd_360 wd_19 wd_361 ok_X6_add rfl rfl (rest := []) rfl (Nat.le_of_ble_eq_true rfl) ⟨Nat.le_of_ble_eq_true rfl, Nat.le_of_ble_eq_true rfl⟩ ⟨Nat.le_of_ble_eq_true rfl, Nat.le_of_ble_eq_true rfl⟩ (c1 := 122) (s1 := 1167) rfl rfl dL_serial_124 (fun ws H locs hw Z => ?_)
  refine lv_iconst (v := 4) X.x X.b dL_serial_127 ki_4 ?_
  refine lv_icmp_ne (tgt := 234) X.x X.b dL_serial_128 (by decide) (fun h => absurd h (by decide)) (fun _ => ?_)
  refine lv_aload_n X.x X.b dL_serial_131 rfl (lv_at hl 0 rfl) ?_
  refine lv_iconst (v := 1) X.x X.b dL_serial_132 ki_1 ?_
  refine lv_iconst (v := 3) X.x X.b dL_serial_133 ki_3 ?_
  refine o_call (wr := []) Y Z hl hw (C_part l hT Δ 1 3 fc_11) wd_584 wd_585 wd_586 wd_19 wd_587 ok_X6_part rfl rfl (rest := []) rfl (Nat.le_of_ble_eq_true rfl) ⟨Nat.le_of_ble_eq_true rfl, Nat.le_of_ble_eq_true rfl⟩ ⟨Nat.le_of_ble_eq_true rfl, Nat.le_of_ble_eq_true rfl⟩ (c1 := 124) (s1 := 1179) rfl rfl dL_serial_134 (fun ws H locs hw Z => ?_)
  refine lv_iconst (v := 1) X.x X.b dL_serial_137 ki_1 ?_
  refine lv_icmp_ne (tgt := 234) X.x X.b dL_serial_138 (by decide) (fun h => absurd h (by decide)) (fun _ => ?_)
  exact SG_serial_1 l hT Δ Y Z hl hw
