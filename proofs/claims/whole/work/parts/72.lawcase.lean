set_option maxRecDepth 100000 in
set_option maxHeartbeats 4000000 in
theorem law_plot {p : Program} {l : Launch} {e : Env} {s : State} {m : MethodId} {below : List Frame} {meth : Method} {c : Code} {H : Heap} {locs : List Loc} {cells slots : Nat} {Q : State → Prop} {Δ : zE} {b L : Nat} {xs : Nat → Int32} {ls : Array Slot} (hT : l.stackTraces = false) (Y : zY Δ p l s m #[Value.ref b] meth c ⟨"SerialRecapsLaw", meth.name, ""⟩ code 9 (some .boolean) (fun q => s.heap.size ≤ q)) (hX : va_X b L xs s s.heap) (hbl : b < s.heap.size) {a1 a2 ao : Nat} {i : Int32} (hin1 : vp_in (i + 1) L) (hin2 : vp_in (i + 2) L) (hin3 : vp_in (i + 3) L) (I : zInv Δ s b a1 a2 ao i H locs ls) (hc : cells + 15 ≤ 601024 ∧ slots + 140 ≤ 7293034) (next : ∀ (H1 : Heap) (locs1 : List Loc) (ls1 : Array Slot), zInv Δ s b a1 a2 ao i H1 locs1 ls1 → W p l e room_1 s m #[Value.ref b] below meth c H1 locs1 (cells + 15) (slots + 140) Q (F0 m 1469 ls1 [])) : W p l e room_1 s m #[Value.ref b] below meth c H locs cells slots Q (F0 m 1042 ls []) := by
  have X := Y.1
  obtain ⟨ad, adm, out, ⟨reached, lost, size, plots, cliffs, words, needs, told, rea, wread, ltold, lout, sets⟩, len, codes, gpl, gps, gcl, gwo, o, k, n, α, σ, thr, mlen, spot, reads, hash, ms, mpast, mtext, mread, rfl, rfl, Z, hO0, HS, TX, hl⟩ := I
  obtain ⟨n', L', c', V⟩ := id hO0
  have V : zV n' L' c' reached lost size plots cliffs words needs told rea wread ltold lout sets ms := V
  have Z : zW Δ (fun q => s.heap.size ≤ q) s.heap (wX7 Δ adm thr (nI k) mlen spot reads hash ms mpast mtext mread ++ ([(ao, .inl (Δ.2.2.2.1, 1, .inr (.inl out)))] ++ (wX6 Δ ad reached lost size plots cliffs words needs told rea wread ltold lout sets (nI o) (nI k) (zRows n α) len codes gpl gps gcl gwo ++ zPool Δ n α σ))) H locs := Z
  obtain ⟨x1, hx1⟩ : ∃ z, xs (i + 1).toNatClampNeg = z := ⟨_, rfl⟩
  obtain ⟨x2, hx2⟩ : ∃ z, xs (i + 2).toNatClampNeg = z := ⟨_, rfl⟩
  obtain ⟨res, v1, v2, hf6, hf7, hE, hin, hex⟩ := (V.s_plot  thr x1 x2).go (by decide)
  refine lv_aload_n X.x X.b dE_1042 rfl (lv_at hl 1 rfl) ?_
  refine law_arg Y hX hbl Z hl 0 4 rfl rfl (v := 1) (by decide) hx1 hin1 dE_1043 dE_1044 dE_1046 dE_1047 dE_1048 ?_
  refine law_arg Y hX hbl Z hl 0 4 rfl rfl (v := 2) (by decide) hx2 hin2 dE_1049 dE_1050 dE_1052 dE_1053 dE_1054 ?_
  refine lv_aload_n X.x X.b dE_1055 rfl (lv_at hl 3 rfl) ?_
  refine x_callSX Y Z hl (mL_plot l hT Δ ad ao out reached lost size plots cliffs words needs told rea wread ltold lout sets (nI o) (nI k) (zRows n α) len codes gpl gps gcl gwo x1 x2 hf6 hE) wd_773 wd_774 wd_60 wd_775 ok_L_plot pL1 rfl (rest := []) rfl (Nat.le_of_ble_eq_true rfl) ⟨Nat.le_of_ble_eq_true rfl, Nat.le_of_ble_eq_true rfl⟩ ⟨Nat.le_trans (Nat.add_le_add_left (m := 15) (Nat.le_of_ble_eq_true rfl) cells) hc.1, Nat.le_trans (Nat.add_le_add_left (m := 140) (Nat.le_of_ble_eq_true rfl) slots) hc.2⟩ dE_1056 (fun _ _ h => h) (fun rv w1 H locs hP Z => ?_)
  rcases hP with ⟨r, hr, rfl, rfl⟩ | ⟨E, hr, rfl, rfl⟩
  · have Z := Z.perm pL2
    obtain ⟨rfl, rfl⟩ := hin r hr
    refine W.eq (g2 := F0 m 1059 ls [.int 0]) rfl ?_
    refine lv_istore (lv' := [(5, .int 0), (0, .ref b), (1, .ref (ad 0)), (2, .ref (adm 0)), (3, .ref ao), (4, .int i)]) X.x X.b dE_1059 hl (Nat.le_of_ble_eq_true rfl) rfl (fun ls hl => ?_)
    refine lv_aload_n X.x X.b dE_1061 rfl (lv_at hl 3 rfl) ?_
    refine law_arg Y hX hbl Z hl 1 5 rfl rfl (v := 1) (by decide) hx1 hin1 dE_1062 dE_1063 dE_1065 dE_1066 dE_1067 ?_
    refine law_arg Y hX hbl Z hl 1 5 rfl rfl (v := 2) (by decide) hx2 hin2 dE_1068 dE_1069 dE_1071 dE_1072 dE_1073 ?_
    refine z_callVP X Z hl (mX7_plot l Δ adm thr (nI k) mlen spot reads hash ms mpast mtext mread x1 x2 hf7) wd_1046 wd_1047 wd_1048 wd_68 wd_1049 ok_X7_plot 7 rfl 0 rfl (List.Perm.refl _) rfl rfl (rest := []) rfl (Nat.le_of_ble_eq_true rfl) ⟨Nat.le_of_ble_eq_true rfl, Nat.le_of_ble_eq_true rfl⟩ ⟨Nat.le_trans (Nat.add_le_add_left (m := 15) (Nat.le_of_ble_eq_true rfl) cells) hc.1, Nat.le_trans (Nat.add_le_add_left (m := 140) (Nat.le_of_ble_eq_true rfl) slots) hc.2⟩ (st1 := [.int v1]) rfl dE_1074 (fun H locs Z => ?_)
    refine law_tail Y (kc := 0) Z hl (fun _ => if_pos rfl) ⟨Nat.le_trans (Nat.add_le_add_left (m := 15) (Nat.le_of_ble_eq_true rfl) cells) hc.1, Nat.le_trans (Nat.add_le_add_left (m := 140) (Nat.le_of_ble_eq_true rfl) slots) hc.2⟩ dE_1077 dE_1079 dE_1080 dE_1083 dE_1085 dE_1090 dE_1092 dE_1095 dE_1096 dE_1097 dE_1098 dE_1100 dE_1101 dE_1102 dE_1107 (by decide) (fun H1 locs1 ls1 Z1 hl1 => ?_)
    refine W.widen (k := cells + 15) (n := slots + 140) (Nat.add_le_add_left (Nat.le_of_ble_eq_true rfl) cells) (Nat.add_le_add_left (Nat.le_of_ble_eq_true rfl) slots) ?_
    exact next H1 locs1 ls1 ⟨ad, adm, _, (reached, lost, size, plots, cliffs, words, needs, told, rea, wread, ltold, lout, sets), len, codes, gpl, gps, gcl, gwo, o, k, n, α, σ, 0, mlen, spot, reads, hash, ms, mpast, mtext, mread, rfl, rfl, Z1, hO0, HS, TX, hl1⟩
  · have Z := Z.perm pL2
    obtain rfl := hex E hr
    refine W.eq (g2 := F0 m 1059 ls [.int (if E = "java/lang/IndexOutOfBoundsException" then 1 else 2)]) rfl ?_
    refine lv_istore (lv' := [(5, .int (if E = "java/lang/IndexOutOfBoundsException" then 1 else 2)), (0, .ref b), (1, .ref (ad 0)), (2, .ref (adm 0)), (3, .ref ao), (4, .int i)]) X.x X.b dE_1059 hl (Nat.le_of_ble_eq_true rfl) rfl (fun ls hl => ?_)
    refine lv_aload_n X.x X.b dE_1061 rfl (lv_at hl 3 rfl) ?_
    refine law_arg Y hX hbl Z hl 1 5 rfl rfl (v := 1) (by decide) hx1 hin1 dE_1062 dE_1063 dE_1065 dE_1066 dE_1067 ?_
    refine law_arg Y hX hbl Z hl 1 5 rfl rfl (v := 2) (by decide) hx2 hin2 dE_1068 dE_1069 dE_1071 dE_1072 dE_1073 ?_
    refine z_callVP X Z hl (mX7_plot l Δ adm thr (nI k) mlen spot reads hash ms mpast mtext mread x1 x2 hf7) wd_1046 wd_1047 wd_1048 wd_68 wd_1049 ok_X7_plot 7 rfl 0 rfl (List.Perm.refl _) rfl rfl (rest := []) rfl (Nat.le_of_ble_eq_true rfl) ⟨Nat.le_of_ble_eq_true rfl, Nat.le_of_ble_eq_true rfl⟩ ⟨Nat.le_trans (Nat.add_le_add_left (m := 15) (Nat.le_of_ble_eq_true rfl) cells) hc.1, Nat.le_trans (Nat.add_le_add_left (m := 140) (Nat.le_of_ble_eq_true rfl) slots) hc.2⟩ (st1 := [.int v1]) rfl dE_1074 (fun H locs Z => ?_)
    refine law_tail Y (kc := (if E = "java/lang/IndexOutOfBoundsException" then 1 else 2)) Z hl (fun h => absurd h zif12) ⟨Nat.le_trans (Nat.add_le_add_left (m := 15) (Nat.le_of_ble_eq_true rfl) cells) hc.1, Nat.le_trans (Nat.add_le_add_left (m := 140) (Nat.le_of_ble_eq_true rfl) slots) hc.2⟩ dE_1077 dE_1079 dE_1080 dE_1083 dE_1085 dE_1090 dE_1092 dE_1095 dE_1096 dE_1097 dE_1098 dE_1100 dE_1101 dE_1102 dE_1107 (by decide) (fun H1 locs1 ls1 Z1 hl1 => ?_)
    refine W.widen (k := cells + 15) (n := slots + 140) (Nat.add_le_add_left (Nat.le_of_ble_eq_true rfl) cells) (Nat.add_le_add_left (Nat.le_of_ble_eq_true rfl) slots) ?_
    exact next H1 locs1 ls1 ⟨ad, adm, out, (reached, lost, size, plots, cliffs, words, needs, told, rea, wread, ltold, lout, sets), len, codes, gpl, gps, gcl, gwo, o, k, n, α, σ, _, mlen, spot, reads, hash, ms, mpast, mtext, mread, rfl, rfl, Z1, hO0, HS, TX, hl1⟩
set_option maxRecDepth 100000 in
set_option maxHeartbeats 4000000 in
theorem law_count {p : Program} {l : Launch} {e : Env} {s : State} {m : MethodId} {below : List Frame} {meth : Method} {c : Code} {H : Heap} {locs : List Loc} {cells slots : Nat} {Q : State → Prop} {Δ : zE} {b L : Nat} {xs : Nat → Int32} {ls : Array Slot} (hT : l.stackTraces = false) (Y : zY Δ p l s m #[Value.ref b] meth c ⟨"SerialRecapsLaw", meth.name, ""⟩ code 9 (some .boolean) (fun q => s.heap.size ≤ q)) (hX : va_X b L xs s s.heap) (hbl : b < s.heap.size) {a1 a2 ao : Nat} {i : Int32} (hin1 : vp_in (i + 1) L) (hin2 : vp_in (i + 2) L) (hin3 : vp_in (i + 3) L) (I : zInv Δ s b a1 a2 ao i H locs ls) (hc : cells + 15 ≤ 601024 ∧ slots + 140 ≤ 7293034) (next : ∀ (H1 : Heap) (locs1 : List Loc) (ls1 : Array Slot), zInv Δ s b a1 a2 ao i H1 locs1 ls1 → W p l e room_1 s m #[Value.ref b] below meth c H1 locs1 (cells + 15) (slots + 140) Q (F0 m 1469 ls1 [])) : W p l e room_1 s m #[Value.ref b] below meth c H locs cells slots Q (F0 m 1110 ls []) := by
  have X := Y.1
  obtain ⟨ad, adm, out, ⟨reached, lost, size, plots, cliffs, words, needs, told, rea, wread, ltold, lout, sets⟩, len, codes, gpl, gps, gcl, gwo, o, k, n, α, σ, thr, mlen, spot, reads, hash, ms, mpast, mtext, mread, rfl, rfl, Z, hO0, HS, TX, hl⟩ := I
  obtain ⟨n', L', c', V⟩ := id hO0
  have V : zV n' L' c' reached lost size plots cliffs words needs told rea wread ltold lout sets ms := V
  have Z : zW Δ (fun q => s.heap.size ≤ q) s.heap (wX7 Δ adm thr (nI k) mlen spot reads hash ms mpast mtext mread ++ ([(ao, .inl (Δ.2.2.2.1, 1, .inr (.inl out)))] ++ (wX6 Δ ad reached lost size plots cliffs words needs told rea wread ltold lout sets (nI o) (nI k) (zRows n α) len codes gpl gps gcl gwo ++ zPool Δ n α σ))) H locs := Z
  obtain ⟨x1, hx1⟩ : ∃ z, xs (i + 1).toNatClampNeg = z := ⟨_, rfl⟩
  obtain ⟨res, v1, v2, hf6, hf7, hE, hin, hex⟩ := (V.s_count (nI k) thr x1).go
  refine lv_aload_n X.x X.b dE_1110 rfl (lv_at hl 1 rfl) ?_
  refine law_arg Y hX hbl Z hl 0 4 rfl rfl (v := 1) (by decide) hx1 hin1 dE_1111 dE_1112 dE_1114 dE_1115 dE_1116 ?_
  refine lv_aload_n X.x X.b dE_1117 rfl (lv_at hl 3 rfl) ?_
  refine x_callSX Y Z hl (mL_count l hT Δ ad ao out reached lost size plots cliffs words needs told rea wread ltold lout sets (nI o) (nI k) (zRows n α) len codes gpl gps gcl gwo x1 hf6 hE) wd_781 wd_782 wd_60 wd_783 ok_L_count pL1 rfl (rest := []) rfl (Nat.le_of_ble_eq_true rfl) ⟨Nat.le_of_ble_eq_true rfl, Nat.le_of_ble_eq_true rfl⟩ ⟨Nat.le_trans (Nat.add_le_add_left (m := 15) (Nat.le_of_ble_eq_true rfl) cells) hc.1, Nat.le_trans (Nat.add_le_add_left (m := 140) (Nat.le_of_ble_eq_true rfl) slots) hc.2⟩ dE_1118 (fun _ _ h => h) (fun rv w1 H locs hP Z => ?_)
  rcases hP with ⟨r, hr, rfl, rfl⟩ | ⟨E, hr, rfl, rfl⟩
  · have Z := Z.perm pL2
    obtain ⟨rfl, rfl⟩ := hin r hr
    refine W.eq (g2 := F0 m 1121 ls [.int 0]) rfl ?_
    refine lv_istore (lv' := [(5, .int 0), (0, .ref b), (1, .ref (ad 0)), (2, .ref (adm 0)), (3, .ref ao), (4, .int i)]) X.x X.b dE_1121 hl (Nat.le_of_ble_eq_true rfl) rfl (fun ls hl => ?_)
    refine lv_aload_n X.x X.b dE_1123 rfl (lv_at hl 3 rfl) ?_
    refine law_arg Y hX hbl Z hl 1 5 rfl rfl (v := 1) (by decide) hx1 hin1 dE_1124 dE_1125 dE_1127 dE_1128 dE_1129 ?_
    refine z_callVP X Z hl (mX7_count l Δ adm thr (nI k) mlen spot reads hash ms mpast mtext mread x1 hf7) wd_1066 wd_1067 wd_1068 wd_68 wd_1069 ok_X7_count 7 rfl 0 rfl (List.Perm.refl _) rfl rfl (rest := []) rfl (Nat.le_of_ble_eq_true rfl) ⟨Nat.le_of_ble_eq_true rfl, Nat.le_of_ble_eq_true rfl⟩ ⟨Nat.le_trans (Nat.add_le_add_left (m := 15) (Nat.le_of_ble_eq_true rfl) cells) hc.1, Nat.le_trans (Nat.add_le_add_left (m := 140) (Nat.le_of_ble_eq_true rfl) slots) hc.2⟩ (st1 := [.int v1]) rfl dE_1130 (fun H locs Z => ?_)
    refine law_tail Y (kc := 0) Z hl (fun _ => if_pos rfl) ⟨Nat.le_trans (Nat.add_le_add_left (m := 15) (Nat.le_of_ble_eq_true rfl) cells) hc.1, Nat.le_trans (Nat.add_le_add_left (m := 140) (Nat.le_of_ble_eq_true rfl) slots) hc.2⟩ dE_1133 dE_1135 dE_1136 dE_1139 dE_1141 dE_1146 dE_1148 dE_1151 dE_1152 dE_1153 dE_1154 dE_1156 dE_1157 dE_1158 dE_1163 (by decide) (fun H1 locs1 ls1 Z1 hl1 => ?_)
    refine W.widen (k := cells + 15) (n := slots + 140) (Nat.add_le_add_left (Nat.le_of_ble_eq_true rfl) cells) (Nat.add_le_add_left (Nat.le_of_ble_eq_true rfl) slots) ?_
    exact next H1 locs1 ls1 ⟨ad, adm, _, (reached, lost, size, plots, cliffs, words, needs, told, rea, wread, ltold, lout, sets), len, codes, gpl, gps, gcl, gwo, o, k, n, α, σ, 0, mlen, spot, reads, hash, ms, mpast, mtext, mread, rfl, rfl, Z1, hO0, HS, TX, hl1⟩
  · have Z := Z.perm pL2
    obtain rfl := hex E hr
    refine W.eq (g2 := F0 m 1121 ls [.int 1]) rfl ?_
    refine lv_istore (lv' := [(5, .int 1), (0, .ref b), (1, .ref (ad 0)), (2, .ref (adm 0)), (3, .ref ao), (4, .int i)]) X.x X.b dE_1121 hl (Nat.le_of_ble_eq_true rfl) rfl (fun ls hl => ?_)
    refine lv_aload_n X.x X.b dE_1123 rfl (lv_at hl 3 rfl) ?_
    refine law_arg Y hX hbl Z hl 1 5 rfl rfl (v := 1) (by decide) hx1 hin1 dE_1124 dE_1125 dE_1127 dE_1128 dE_1129 ?_
    refine z_callVP X Z hl (mX7_count l Δ adm thr (nI k) mlen spot reads hash ms mpast mtext mread x1 hf7) wd_1066 wd_1067 wd_1068 wd_68 wd_1069 ok_X7_count 7 rfl 0 rfl (List.Perm.refl _) rfl rfl (rest := []) rfl (Nat.le_of_ble_eq_true rfl) ⟨Nat.le_of_ble_eq_true rfl, Nat.le_of_ble_eq_true rfl⟩ ⟨Nat.le_trans (Nat.add_le_add_left (m := 15) (Nat.le_of_ble_eq_true rfl) cells) hc.1, Nat.le_trans (Nat.add_le_add_left (m := 140) (Nat.le_of_ble_eq_true rfl) slots) hc.2⟩ (st1 := [.int v1]) rfl dE_1130 (fun H locs Z => ?_)
    refine law_tail Y (kc := 1) Z hl (fun h => absurd h (by decide)) ⟨Nat.le_trans (Nat.add_le_add_left (m := 15) (Nat.le_of_ble_eq_true rfl) cells) hc.1, Nat.le_trans (Nat.add_le_add_left (m := 140) (Nat.le_of_ble_eq_true rfl) slots) hc.2⟩ dE_1133 dE_1135 dE_1136 dE_1139 dE_1141 dE_1146 dE_1148 dE_1151 dE_1152 dE_1153 dE_1154 dE_1156 dE_1157 dE_1158 dE_1163 (by decide) (fun H1 locs1 ls1 Z1 hl1 => ?_)
    refine W.widen (k := cells + 15) (n := slots + 140) (Nat.add_le_add_left (Nat.le_of_ble_eq_true rfl) cells) (Nat.add_le_add_left (Nat.le_of_ble_eq_true rfl) slots) ?_
    exact next H1 locs1 ls1 ⟨ad, adm, out, (reached, lost, size, plots, cliffs, words, needs, told, rea, wread, ltold, lout, sets), len, codes, gpl, gps, gcl, gwo, o, k, n, α, σ, _, mlen, spot, reads, hash, ms, mpast, mtext, mread, rfl, rfl, Z1, hO0, HS, TX, hl1⟩
set_option maxRecDepth 100000 in
set_option maxHeartbeats 4000000 in
theorem law_setting {p : Program} {l : Launch} {e : Env} {s : State} {m : MethodId} {below : List Frame} {meth : Method} {c : Code} {H : Heap} {locs : List Loc} {cells slots : Nat} {Q : State → Prop} {Δ : zE} {b L : Nat} {xs : Nat → Int32} {ls : Array Slot} (hT : l.stackTraces = false) (Y : zY Δ p l s m #[Value.ref b] meth c ⟨"SerialRecapsLaw", meth.name, ""⟩ code 9 (some .boolean) (fun q => s.heap.size ≤ q)) (hX : va_X b L xs s s.heap) (hbl : b < s.heap.size) {a1 a2 ao : Nat} {i : Int32} (hin1 : vp_in (i + 1) L) (hin2 : vp_in (i + 2) L) (hin3 : vp_in (i + 3) L) (I : zInv Δ s b a1 a2 ao i H locs ls) (hc : cells + 15 ≤ 601024 ∧ slots + 140 ≤ 7293034) (next : ∀ (H1 : Heap) (locs1 : List Loc) (ls1 : Array Slot), zInv Δ s b a1 a2 ao i H1 locs1 ls1 → W p l e room_1 s m #[Value.ref b] below meth c H1 locs1 (cells + 15) (slots + 140) Q (F0 m 1469 ls1 [])) : W p l e room_1 s m #[Value.ref b] below meth c H locs cells slots Q (F0 m 1166 ls []) := by
  have X := Y.1
  obtain ⟨ad, adm, out, ⟨reached, lost, size, plots, cliffs, words, needs, told, rea, wread, ltold, lout, sets⟩, len, codes, gpl, gps, gcl, gwo, o, k, n, α, σ, thr, mlen, spot, reads, hash, ms, mpast, mtext, mread, rfl, rfl, Z, hO0, HS, TX, hl⟩ := I
  obtain ⟨n', L', c', V⟩ := id hO0
  have V : zV n' L' c' reached lost size plots cliffs words needs told rea wread ltold lout sets ms := V
  have Z : zW Δ (fun q => s.heap.size ≤ q) s.heap (wX7 Δ adm thr (nI k) mlen spot reads hash ms mpast mtext mread ++ ([(ao, .inl (Δ.2.2.2.1, 1, .inr (.inl out)))] ++ (wX6 Δ ad reached lost size plots cliffs words needs told rea wread ltold lout sets (nI o) (nI k) (zRows n α) len codes gpl gps gcl gwo ++ zPool Δ n α σ))) H locs := Z
  obtain ⟨x1, hx1⟩ : ∃ z, xs (i + 1).toNatClampNeg = z := ⟨_, rfl⟩
  obtain ⟨res, v1, v2, hf6, hf7, hE, hin, hex⟩ := (V.s_setting  thr x1).go
  refine lv_aload_n X.x X.b dE_1166 rfl (lv_at hl 1 rfl) ?_
  refine law_arg Y hX hbl Z hl 0 4 rfl rfl (v := 1) (by decide) hx1 hin1 dE_1167 dE_1168 dE_1170 dE_1171 dE_1172 ?_
  refine lv_aload_n X.x X.b dE_1173 rfl (lv_at hl 3 rfl) ?_
  refine x_callSX Y Z hl (mL_setting l hT Δ ad ao out reached lost size plots cliffs words needs told rea wread ltold lout sets (nI o) (nI k) (zRows n α) len codes gpl gps gcl gwo x1 hf6 hE) wd_788 wd_789 wd_60 wd_790 ok_L_setting pL1 rfl (rest := []) rfl (Nat.le_of_ble_eq_true rfl) ⟨Nat.le_of_ble_eq_true rfl, Nat.le_of_ble_eq_true rfl⟩ ⟨Nat.le_trans (Nat.add_le_add_left (m := 15) (Nat.le_of_ble_eq_true rfl) cells) hc.1, Nat.le_trans (Nat.add_le_add_left (m := 140) (Nat.le_of_ble_eq_true rfl) slots) hc.2⟩ dE_1174 (fun _ _ h => h) (fun rv w1 H locs hP Z => ?_)
  rcases hP with ⟨r, hr, rfl, rfl⟩ | ⟨E, hr, rfl, rfl⟩
  · have Z := Z.perm pL2
    obtain ⟨rfl, rfl⟩ := hin r hr
    refine W.eq (g2 := F0 m 1177 ls [.int 0]) rfl ?_
    refine lv_istore (lv' := [(5, .int 0), (0, .ref b), (1, .ref (ad 0)), (2, .ref (adm 0)), (3, .ref ao), (4, .int i)]) X.x X.b dE_1177 hl (Nat.le_of_ble_eq_true rfl) rfl (fun ls hl => ?_)
    refine lv_aload_n X.x X.b dE_1179 rfl (lv_at hl 3 rfl) ?_
    refine law_arg Y hX hbl Z hl 1 5 rfl rfl (v := 1) (by decide) hx1 hin1 dE_1180 dE_1181 dE_1183 dE_1184 dE_1185 ?_
    refine z_callVP X Z hl (mX7_setting l Δ adm thr (nI k) mlen spot reads hash ms mpast mtext mread x1 hf7) wd_1086 wd_1087 wd_1088 wd_68 wd_1089 ok_X7_setting 7 rfl 0 rfl (List.Perm.refl _) rfl rfl (rest := []) rfl (Nat.le_of_ble_eq_true rfl) ⟨Nat.le_of_ble_eq_true rfl, Nat.le_of_ble_eq_true rfl⟩ ⟨Nat.le_trans (Nat.add_le_add_left (m := 15) (Nat.le_of_ble_eq_true rfl) cells) hc.1, Nat.le_trans (Nat.add_le_add_left (m := 140) (Nat.le_of_ble_eq_true rfl) slots) hc.2⟩ (st1 := [.int v1]) rfl dE_1186 (fun H locs Z => ?_)
    refine law_tail Y (kc := 0) Z hl (fun _ => if_pos rfl) ⟨Nat.le_trans (Nat.add_le_add_left (m := 15) (Nat.le_of_ble_eq_true rfl) cells) hc.1, Nat.le_trans (Nat.add_le_add_left (m := 140) (Nat.le_of_ble_eq_true rfl) slots) hc.2⟩ dE_1189 dE_1191 dE_1192 dE_1195 dE_1197 dE_1202 dE_1204 dE_1207 dE_1208 dE_1209 dE_1210 dE_1212 dE_1213 dE_1214 dE_1219 (by decide) (fun H1 locs1 ls1 Z1 hl1 => ?_)
    refine W.widen (k := cells + 15) (n := slots + 140) (Nat.add_le_add_left (Nat.le_of_ble_eq_true rfl) cells) (Nat.add_le_add_left (Nat.le_of_ble_eq_true rfl) slots) ?_
    exact next H1 locs1 ls1 ⟨ad, adm, _, (reached, lost, size, plots, cliffs, words, needs, told, rea, wread, ltold, lout, sets), len, codes, gpl, gps, gcl, gwo, o, k, n, α, σ, 0, mlen, spot, reads, hash, ms, mpast, mtext, mread, rfl, rfl, Z1, hO0, HS, TX, hl1⟩
  · have Z := Z.perm pL2
    obtain rfl := hex E hr
    refine W.eq (g2 := F0 m 1177 ls [.int 1]) rfl ?_
    refine lv_istore (lv' := [(5, .int 1), (0, .ref b), (1, .ref (ad 0)), (2, .ref (adm 0)), (3, .ref ao), (4, .int i)]) X.x X.b dE_1177 hl (Nat.le_of_ble_eq_true rfl) rfl (fun ls hl => ?_)
    refine lv_aload_n X.x X.b dE_1179 rfl (lv_at hl 3 rfl) ?_
    refine law_arg Y hX hbl Z hl 1 5 rfl rfl (v := 1) (by decide) hx1 hin1 dE_1180 dE_1181 dE_1183 dE_1184 dE_1185 ?_
    refine z_callVP X Z hl (mX7_setting l Δ adm thr (nI k) mlen spot reads hash ms mpast mtext mread x1 hf7) wd_1086 wd_1087 wd_1088 wd_68 wd_1089 ok_X7_setting 7 rfl 0 rfl (List.Perm.refl _) rfl rfl (rest := []) rfl (Nat.le_of_ble_eq_true rfl) ⟨Nat.le_of_ble_eq_true rfl, Nat.le_of_ble_eq_true rfl⟩ ⟨Nat.le_trans (Nat.add_le_add_left (m := 15) (Nat.le_of_ble_eq_true rfl) cells) hc.1, Nat.le_trans (Nat.add_le_add_left (m := 140) (Nat.le_of_ble_eq_true rfl) slots) hc.2⟩ (st1 := [.int v1]) rfl dE_1186 (fun H locs Z => ?_)
    refine law_tail Y (kc := 1) Z hl (fun h => absurd h (by decide)) ⟨Nat.le_trans (Nat.add_le_add_left (m := 15) (Nat.le_of_ble_eq_true rfl) cells) hc.1, Nat.le_trans (Nat.add_le_add_left (m := 140) (Nat.le_of_ble_eq_true rfl) slots) hc.2⟩ dE_1189 dE_1191 dE_1192 dE_1195 dE_1197 dE_1202 dE_1204 dE_1207 dE_1208 dE_1209 dE_1210 dE_1212 dE_1213 dE_1214 dE_1219 (by decide) (fun H1 locs1 ls1 Z1 hl1 => ?_)
    refine W.widen (k := cells + 15) (n := slots + 140) (Nat.add_le_add_left (Nat.le_of_ble_eq_true rfl) cells) (Nat.add_le_add_left (Nat.le_of_ble_eq_true rfl) slots) ?_
    exact next H1 locs1 ls1 ⟨ad, adm, out, (reached, lost, size, plots, cliffs, words, needs, told, rea, wread, ltold, lout, sets), len, codes, gpl, gps, gcl, gwo, o, k, n, α, σ, _, mlen, spot, reads, hash, ms, mpast, mtext, mread, rfl, rfl, Z1, hO0, HS, TX, hl1⟩
set_option maxRecDepth 100000 in
set_option maxHeartbeats 4000000 in
theorem law_recap {p : Program} {l : Launch} {e : Env} {s : State} {m : MethodId} {below : List Frame} {meth : Method} {c : Code} {H : Heap} {locs : List Loc} {cells slots : Nat} {Q : State → Prop} {Δ : zE} {b L : Nat} {xs : Nat → Int32} {ls : Array Slot} (hT : l.stackTraces = false) (Y : zY Δ p l s m #[Value.ref b] meth c ⟨"SerialRecapsLaw", meth.name, ""⟩ code 9 (some .boolean) (fun q => s.heap.size ≤ q)) (hX : va_X b L xs s s.heap) (hbl : b < s.heap.size) {a1 a2 ao : Nat} {i : Int32} (hin1 : vp_in (i + 1) L) (hin2 : vp_in (i + 2) L) (hin3 : vp_in (i + 3) L) (I : zInv Δ s b a1 a2 ao i H locs ls) (hc : cells + 15 ≤ 601024 ∧ slots + 140 ≤ 7293034) (next : ∀ (H1 : Heap) (locs1 : List Loc) (ls1 : Array Slot), zInv Δ s b a1 a2 ao i H1 locs1 ls1 → W p l e room_1 s m #[Value.ref b] below meth c H1 locs1 (cells + 15) (slots + 140) Q (F0 m 1469 ls1 [])) : W p l e room_1 s m #[Value.ref b] below meth c H locs cells slots Q (F0 m 1222 ls []) := by
  have X := Y.1
  obtain ⟨ad, adm, out, ⟨reached, lost, size, plots, cliffs, words, needs, told, rea, wread, ltold, lout, sets⟩, len, codes, gpl, gps, gcl, gwo, o, k, n, α, σ, thr, mlen, spot, reads, hash, ms, mpast, mtext, mread, rfl, rfl, Z, hO0, HS, TX, hl⟩ := I
  obtain ⟨n', L', c', V⟩ := id hO0
  have V : zV n' L' c' reached lost size plots cliffs words needs told rea wread ltold lout sets ms := V
  have Z : zW Δ (fun q => s.heap.size ≤ q) s.heap (wX7 Δ adm thr (nI k) mlen spot reads hash ms mpast mtext mread ++ ([(ao, .inl (Δ.2.2.2.1, 1, .inr (.inl out)))] ++ (wX6 Δ ad reached lost size plots cliffs words needs told rea wread ltold lout sets (nI o) (nI k) (zRows n α) len codes gpl gps gcl gwo ++ zPool Δ n α σ))) H locs := Z
  obtain ⟨x1, hx1⟩ : ∃ z, xs (i + 1).toNatClampNeg = z := ⟨_, rfl⟩
  obtain ⟨x2, hx2⟩ : ∃ z, xs (i + 2).toNatClampNeg = z := ⟨_, rfl⟩
  obtain ⟨x3, hx3⟩ : ∃ z, xs (i + 3).toNatClampNeg = z := ⟨_, rfl⟩
  obtain ⟨res, v1, v2, hf6, hf7, hE, hin, hex⟩ := (V.s_recap  thr x1 x2 x3).go (by decide)
  refine lv_aload_n X.x X.b dE_1222 rfl (lv_at hl 1 rfl) ?_
  refine law_arg Y hX hbl Z hl 0 4 rfl rfl (v := 1) (by decide) hx1 hin1 dE_1223 dE_1224 dE_1226 dE_1227 dE_1228 ?_
  refine law_arg Y hX hbl Z hl 0 4 rfl rfl (v := 2) (by decide) hx2 hin2 dE_1229 dE_1230 dE_1232 dE_1233 dE_1234 ?_
  refine law_arg Y hX hbl Z hl 0 4 rfl rfl (v := 3) (by decide) hx3 hin3 dE_1235 dE_1236 dE_1238 dE_1239 dE_1240 ?_
  refine lv_aload_n X.x X.b dE_1241 rfl (lv_at hl 3 rfl) ?_
  refine x_callSX Y Z hl (mL_recap l hT Δ ad ao out reached lost size plots cliffs words needs told rea wread ltold lout sets (nI o) (nI k) (zRows n α) len codes gpl gps gcl gwo x1 x2 x3 hf6 hE) wd_795 wd_796 wd_60 wd_797 ok_L_recap pL1 rfl (rest := []) rfl (Nat.le_of_ble_eq_true rfl) ⟨Nat.le_of_ble_eq_true rfl, Nat.le_of_ble_eq_true rfl⟩ ⟨Nat.le_trans (Nat.add_le_add_left (m := 15) (Nat.le_of_ble_eq_true rfl) cells) hc.1, Nat.le_trans (Nat.add_le_add_left (m := 140) (Nat.le_of_ble_eq_true rfl) slots) hc.2⟩ dE_1242 (fun _ _ h => h) (fun rv w1 H locs hP Z => ?_)
  rcases hP with ⟨r, hr, rfl, rfl⟩ | ⟨E, hr, rfl, rfl⟩
  · have Z := Z.perm pL2
    obtain ⟨rfl, rfl⟩ := hin r hr
    refine W.eq (g2 := F0 m 1245 ls [.int 0]) rfl ?_
    refine lv_istore (lv' := [(5, .int 0), (0, .ref b), (1, .ref (ad 0)), (2, .ref (adm 0)), (3, .ref ao), (4, .int i)]) X.x X.b dE_1245 hl (Nat.le_of_ble_eq_true rfl) rfl (fun ls hl => ?_)
    refine lv_aload_n X.x X.b dE_1247 rfl (lv_at hl 3 rfl) ?_
    refine law_arg Y hX hbl Z hl 1 5 rfl rfl (v := 1) (by decide) hx1 hin1 dE_1248 dE_1249 dE_1251 dE_1252 dE_1253 ?_
    refine law_arg Y hX hbl Z hl 1 5 rfl rfl (v := 2) (by decide) hx2 hin2 dE_1254 dE_1255 dE_1257 dE_1258 dE_1259 ?_
    refine law_arg Y hX hbl Z hl 1 5 rfl rfl (v := 3) (by decide) hx3 hin3 dE_1260 dE_1261 dE_1263 dE_1264 dE_1265 ?_
    refine z_callVP X Z hl (mX7_recap l Δ adm thr (nI k) mlen spot reads hash ms mpast mtext mread x1 x2 x3 hf7) wd_1090 wd_1091 wd_1092 wd_68 wd_1093 ok_X7_recap 7 rfl 0 rfl (List.Perm.refl _) rfl rfl (rest := []) rfl (Nat.le_of_ble_eq_true rfl) ⟨Nat.le_of_ble_eq_true rfl, Nat.le_of_ble_eq_true rfl⟩ ⟨Nat.le_trans (Nat.add_le_add_left (m := 15) (Nat.le_of_ble_eq_true rfl) cells) hc.1, Nat.le_trans (Nat.add_le_add_left (m := 140) (Nat.le_of_ble_eq_true rfl) slots) hc.2⟩ (st1 := [.int v1]) rfl dE_1266 (fun H locs Z => ?_)
    refine law_tail Y (kc := 0) Z hl (fun _ => if_pos rfl) ⟨Nat.le_trans (Nat.add_le_add_left (m := 15) (Nat.le_of_ble_eq_true rfl) cells) hc.1, Nat.le_trans (Nat.add_le_add_left (m := 140) (Nat.le_of_ble_eq_true rfl) slots) hc.2⟩ dE_1269 dE_1271 dE_1272 dE_1275 dE_1277 dE_1282 dE_1284 dE_1287 dE_1288 dE_1289 dE_1290 dE_1292 dE_1293 dE_1294 dE_1299 (by decide) (fun H1 locs1 ls1 Z1 hl1 => ?_)
    refine W.widen (k := cells + 15) (n := slots + 140) (Nat.add_le_add_left (Nat.le_of_ble_eq_true rfl) cells) (Nat.add_le_add_left (Nat.le_of_ble_eq_true rfl) slots) ?_
    exact next H1 locs1 ls1 ⟨ad, adm, _, (reached, lost, size, plots, cliffs, words, needs, told, rea, wread, ltold, lout, sets), len, codes, gpl, gps, gcl, gwo, o, k, n, α, σ, 0, mlen, spot, reads, hash, ms, mpast, mtext, mread, rfl, rfl, Z1, hO0, HS, TX, hl1⟩
  · have Z := Z.perm pL2
    obtain rfl := hex E hr
    refine W.eq (g2 := F0 m 1245 ls [.int (if E = "java/lang/IndexOutOfBoundsException" then 1 else 2)]) rfl ?_
    refine lv_istore (lv' := [(5, .int (if E = "java/lang/IndexOutOfBoundsException" then 1 else 2)), (0, .ref b), (1, .ref (ad 0)), (2, .ref (adm 0)), (3, .ref ao), (4, .int i)]) X.x X.b dE_1245 hl (Nat.le_of_ble_eq_true rfl) rfl (fun ls hl => ?_)
    refine lv_aload_n X.x X.b dE_1247 rfl (lv_at hl 3 rfl) ?_
    refine law_arg Y hX hbl Z hl 1 5 rfl rfl (v := 1) (by decide) hx1 hin1 dE_1248 dE_1249 dE_1251 dE_1252 dE_1253 ?_
    refine law_arg Y hX hbl Z hl 1 5 rfl rfl (v := 2) (by decide) hx2 hin2 dE_1254 dE_1255 dE_1257 dE_1258 dE_1259 ?_
    refine law_arg Y hX hbl Z hl 1 5 rfl rfl (v := 3) (by decide) hx3 hin3 dE_1260 dE_1261 dE_1263 dE_1264 dE_1265 ?_
    refine z_callVP X Z hl (mX7_recap l Δ adm thr (nI k) mlen spot reads hash ms mpast mtext mread x1 x2 x3 hf7) wd_1090 wd_1091 wd_1092 wd_68 wd_1093 ok_X7_recap 7 rfl 0 rfl (List.Perm.refl _) rfl rfl (rest := []) rfl (Nat.le_of_ble_eq_true rfl) ⟨Nat.le_of_ble_eq_true rfl, Nat.le_of_ble_eq_true rfl⟩ ⟨Nat.le_trans (Nat.add_le_add_left (m := 15) (Nat.le_of_ble_eq_true rfl) cells) hc.1, Nat.le_trans (Nat.add_le_add_left (m := 140) (Nat.le_of_ble_eq_true rfl) slots) hc.2⟩ (st1 := [.int v1]) rfl dE_1266 (fun H locs Z => ?_)
    refine law_tail Y (kc := (if E = "java/lang/IndexOutOfBoundsException" then 1 else 2)) Z hl (fun h => absurd h zif12) ⟨Nat.le_trans (Nat.add_le_add_left (m := 15) (Nat.le_of_ble_eq_true rfl) cells) hc.1, Nat.le_trans (Nat.add_le_add_left (m := 140) (Nat.le_of_ble_eq_true rfl) slots) hc.2⟩ dE_1269 dE_1271 dE_1272 dE_1275 dE_1277 dE_1282 dE_1284 dE_1287 dE_1288 dE_1289 dE_1290 dE_1292 dE_1293 dE_1294 dE_1299 (by decide) (fun H1 locs1 ls1 Z1 hl1 => ?_)
    refine W.widen (k := cells + 15) (n := slots + 140) (Nat.add_le_add_left (Nat.le_of_ble_eq_true rfl) cells) (Nat.add_le_add_left (Nat.le_of_ble_eq_true rfl) slots) ?_
    exact next H1 locs1 ls1 ⟨ad, adm, out, (reached, lost, size, plots, cliffs, words, needs, told, rea, wread, ltold, lout, sets), len, codes, gpl, gps, gcl, gwo, o, k, n, α, σ, _, mlen, spot, reads, hash, ms, mpast, mtext, mread, rfl, rfl, Z1, hO0, HS, TX, hl1⟩
set_option maxRecDepth 100000 in
set_option maxHeartbeats 4000000 in
theorem law_easiest {p : Program} {l : Launch} {e : Env} {s : State} {m : MethodId} {below : List Frame} {meth : Method} {c : Code} {H : Heap} {locs : List Loc} {cells slots : Nat} {Q : State → Prop} {Δ : zE} {b L : Nat} {xs : Nat → Int32} {ls : Array Slot} (hT : l.stackTraces = false) (Y : zY Δ p l s m #[Value.ref b] meth c ⟨"SerialRecapsLaw", meth.name, ""⟩ code 9 (some .boolean) (fun q => s.heap.size ≤ q)) (hX : va_X b L xs s s.heap) (hbl : b < s.heap.size) {a1 a2 ao : Nat} {i : Int32} (hin1 : vp_in (i + 1) L) (hin2 : vp_in (i + 2) L) (hin3 : vp_in (i + 3) L) (I : zInv Δ s b a1 a2 ao i H locs ls) (hc : cells + 15 ≤ 601024 ∧ slots + 140 ≤ 7293034) (next : ∀ (H1 : Heap) (locs1 : List Loc) (ls1 : Array Slot), zInv Δ s b a1 a2 ao i H1 locs1 ls1 → W p l e room_1 s m #[Value.ref b] below meth c H1 locs1 (cells + 15) (slots + 140) Q (F0 m 1469 ls1 [])) : W p l e room_1 s m #[Value.ref b] below meth c H locs cells slots Q (F0 m 1302 ls []) := by
  have X := Y.1
  obtain ⟨ad, adm, out, ⟨reached, lost, size, plots, cliffs, words, needs, told, rea, wread, ltold, lout, sets⟩, len, codes, gpl, gps, gcl, gwo, o, k, n, α, σ, thr, mlen, spot, reads, hash, ms, mpast, mtext, mread, rfl, rfl, Z, hO0, HS, TX, hl⟩ := I
  obtain ⟨n', L', c', V⟩ := id hO0
  have V : zV n' L' c' reached lost size plots cliffs words needs told rea wread ltold lout sets ms := V
  have Z : zW Δ (fun q => s.heap.size ≤ q) s.heap (wX7 Δ adm thr (nI k) mlen spot reads hash ms mpast mtext mread ++ ([(ao, .inl (Δ.2.2.2.1, 1, .inr (.inl out)))] ++ (wX6 Δ ad reached lost size plots cliffs words needs told rea wread ltold lout sets (nI o) (nI k) (zRows n α) len codes gpl gps gcl gwo ++ zPool Δ n α σ))) H locs := Z
  obtain ⟨x1, hx1⟩ : ∃ z, xs (i + 1).toNatClampNeg = z := ⟨_, rfl⟩
  obtain ⟨res, v1, v2, hf6, hf7, hE, hin, hex⟩ := (V.s_easiest  thr x1).go
  refine lv_aload_n X.x X.b dE_1302 rfl (lv_at hl 1 rfl) ?_
  refine law_arg Y hX hbl Z hl 0 4 rfl rfl (v := 1) (by decide) hx1 hin1 dE_1303 dE_1304 dE_1306 dE_1307 dE_1308 ?_
  refine lv_aload_n X.x X.b dE_1309 rfl (lv_at hl 3 rfl) ?_
  refine x_callSX Y Z hl (mL_easiest l hT Δ ad ao out reached lost size plots cliffs words needs told rea wread ltold lout sets (nI o) (nI k) (zRows n α) len codes gpl gps gcl gwo x1 hf6 hE) wd_802 wd_803 wd_60 wd_804 ok_L_easiest pL1 rfl (rest := []) rfl (Nat.le_of_ble_eq_true rfl) ⟨Nat.le_of_ble_eq_true rfl, Nat.le_of_ble_eq_true rfl⟩ ⟨Nat.le_trans (Nat.add_le_add_left (m := 15) (Nat.le_of_ble_eq_true rfl) cells) hc.1, Nat.le_trans (Nat.add_le_add_left (m := 140) (Nat.le_of_ble_eq_true rfl) slots) hc.2⟩ dE_1310 (fun _ _ h => h) (fun rv w1 H locs hP Z => ?_)
  rcases hP with ⟨r, hr, rfl, rfl⟩ | ⟨E, hr, rfl, rfl⟩
  · have Z := Z.perm pL2
    obtain ⟨rfl, rfl⟩ := hin r hr
    refine W.eq (g2 := F0 m 1313 ls [.int 0]) rfl ?_
    refine lv_istore (lv' := [(5, .int 0), (0, .ref b), (1, .ref (ad 0)), (2, .ref (adm 0)), (3, .ref ao), (4, .int i)]) X.x X.b dE_1313 hl (Nat.le_of_ble_eq_true rfl) rfl (fun ls hl => ?_)
    refine lv_aload_n X.x X.b dE_1315 rfl (lv_at hl 3 rfl) ?_
    refine law_arg Y hX hbl Z hl 1 5 rfl rfl (v := 1) (by decide) hx1 hin1 dE_1316 dE_1317 dE_1319 dE_1320 dE_1321 ?_
    refine z_callVP X Z hl (mX7_easiest l Δ adm thr (nI k) mlen spot reads hash ms mpast mtext mread x1 hf7) wd_1098 wd_1099 wd_1100 wd_68 wd_1101 ok_X7_easiest 7 rfl 0 rfl (List.Perm.refl _) rfl rfl (rest := []) rfl (Nat.le_of_ble_eq_true rfl) ⟨Nat.le_of_ble_eq_true rfl, Nat.le_of_ble_eq_true rfl⟩ ⟨Nat.le_trans (Nat.add_le_add_left (m := 15) (Nat.le_of_ble_eq_true rfl) cells) hc.1, Nat.le_trans (Nat.add_le_add_left (m := 140) (Nat.le_of_ble_eq_true rfl) slots) hc.2⟩ (st1 := [.int v1]) rfl dE_1322 (fun H locs Z => ?_)
    refine law_tail Y (kc := 0) Z hl (fun _ => if_pos rfl) ⟨Nat.le_trans (Nat.add_le_add_left (m := 15) (Nat.le_of_ble_eq_true rfl) cells) hc.1, Nat.le_trans (Nat.add_le_add_left (m := 140) (Nat.le_of_ble_eq_true rfl) slots) hc.2⟩ dE_1325 dE_1327 dE_1328 dE_1331 dE_1333 dE_1338 dE_1340 dE_1343 dE_1344 dE_1345 dE_1346 dE_1348 dE_1349 dE_1350 dE_1355 (by decide) (fun H1 locs1 ls1 Z1 hl1 => ?_)
    refine W.widen (k := cells + 15) (n := slots + 140) (Nat.add_le_add_left (Nat.le_of_ble_eq_true rfl) cells) (Nat.add_le_add_left (Nat.le_of_ble_eq_true rfl) slots) ?_
    exact next H1 locs1 ls1 ⟨ad, adm, _, (reached, lost, size, plots, cliffs, words, needs, told, rea, wread, ltold, lout, sets), len, codes, gpl, gps, gcl, gwo, o, k, n, α, σ, 0, mlen, spot, reads, hash, ms, mpast, mtext, mread, rfl, rfl, Z1, hO0, HS, TX, hl1⟩
  · have Z := Z.perm pL2
    obtain rfl := hex E hr
    refine W.eq (g2 := F0 m 1313 ls [.int 1]) rfl ?_
    refine lv_istore (lv' := [(5, .int 1), (0, .ref b), (1, .ref (ad 0)), (2, .ref (adm 0)), (3, .ref ao), (4, .int i)]) X.x X.b dE_1313 hl (Nat.le_of_ble_eq_true rfl) rfl (fun ls hl => ?_)
    refine lv_aload_n X.x X.b dE_1315 rfl (lv_at hl 3 rfl) ?_
    refine law_arg Y hX hbl Z hl 1 5 rfl rfl (v := 1) (by decide) hx1 hin1 dE_1316 dE_1317 dE_1319 dE_1320 dE_1321 ?_
    refine z_callVP X Z hl (mX7_easiest l Δ adm thr (nI k) mlen spot reads hash ms mpast mtext mread x1 hf7) wd_1098 wd_1099 wd_1100 wd_68 wd_1101 ok_X7_easiest 7 rfl 0 rfl (List.Perm.refl _) rfl rfl (rest := []) rfl (Nat.le_of_ble_eq_true rfl) ⟨Nat.le_of_ble_eq_true rfl, Nat.le_of_ble_eq_true rfl⟩ ⟨Nat.le_trans (Nat.add_le_add_left (m := 15) (Nat.le_of_ble_eq_true rfl) cells) hc.1, Nat.le_trans (Nat.add_le_add_left (m := 140) (Nat.le_of_ble_eq_true rfl) slots) hc.2⟩ (st1 := [.int v1]) rfl dE_1322 (fun H locs Z => ?_)
    refine law_tail Y (kc := 1) Z hl (fun h => absurd h (by decide)) ⟨Nat.le_trans (Nat.add_le_add_left (m := 15) (Nat.le_of_ble_eq_true rfl) cells) hc.1, Nat.le_trans (Nat.add_le_add_left (m := 140) (Nat.le_of_ble_eq_true rfl) slots) hc.2⟩ dE_1325 dE_1327 dE_1328 dE_1331 dE_1333 dE_1338 dE_1340 dE_1343 dE_1344 dE_1345 dE_1346 dE_1348 dE_1349 dE_1350 dE_1355 (by decide) (fun H1 locs1 ls1 Z1 hl1 => ?_)
    refine W.widen (k := cells + 15) (n := slots + 140) (Nat.add_le_add_left (Nat.le_of_ble_eq_true rfl) cells) (Nat.add_le_add_left (Nat.le_of_ble_eq_true rfl) slots) ?_
    exact next H1 locs1 ls1 ⟨ad, adm, out, (reached, lost, size, plots, cliffs, words, needs, told, rea, wread, ltold, lout, sets), len, codes, gpl, gps, gcl, gwo, o, k, n, α, σ, _, mlen, spot, reads, hash, ms, mpast, mtext, mread, rfl, rfl, Z1, hO0, HS, TX, hl1⟩
set_option maxRecDepth 100000 in
set_option maxHeartbeats 4000000 in
theorem law_enough {p : Program} {l : Launch} {e : Env} {s : State} {m : MethodId} {below : List Frame} {meth : Method} {c : Code} {H : Heap} {locs : List Loc} {cells slots : Nat} {Q : State → Prop} {Δ : zE} {b L : Nat} {xs : Nat → Int32} {ls : Array Slot} (hT : l.stackTraces = false) (Y : zY Δ p l s m #[Value.ref b] meth c ⟨"SerialRecapsLaw", meth.name, ""⟩ code 9 (some .boolean) (fun q => s.heap.size ≤ q)) (hX : va_X b L xs s s.heap) (hbl : b < s.heap.size) {a1 a2 ao : Nat} {i : Int32} (hin1 : vp_in (i + 1) L) (hin2 : vp_in (i + 2) L) (hin3 : vp_in (i + 3) L) (I : zInv Δ s b a1 a2 ao i H locs ls) (hc : cells + 15 ≤ 601024 ∧ slots + 140 ≤ 7293034) (next : ∀ (H1 : Heap) (locs1 : List Loc) (ls1 : Array Slot), zInv Δ s b a1 a2 ao i H1 locs1 ls1 → W p l e room_1 s m #[Value.ref b] below meth c H1 locs1 (cells + 15) (slots + 140) Q (F0 m 1469 ls1 [])) : W p l e room_1 s m #[Value.ref b] below meth c H locs cells slots Q (F0 m 1358 ls []) := by
  have X := Y.1
  obtain ⟨ad, adm, out, ⟨reached, lost, size, plots, cliffs, words, needs, told, rea, wread, ltold, lout, sets⟩, len, codes, gpl, gps, gcl, gwo, o, k, n, α, σ, thr, mlen, spot, reads, hash, ms, mpast, mtext, mread, rfl, rfl, Z, hO0, HS, TX, hl⟩ := I
  obtain ⟨n', L', c', V⟩ := id hO0
  have V : zV n' L' c' reached lost size plots cliffs words needs told rea wread ltold lout sets ms := V
  have Z : zW Δ (fun q => s.heap.size ≤ q) s.heap (wX7 Δ adm thr (nI k) mlen spot reads hash ms mpast mtext mread ++ ([(ao, .inl (Δ.2.2.2.1, 1, .inr (.inl out)))] ++ (wX6 Δ ad reached lost size plots cliffs words needs told rea wread ltold lout sets (nI o) (nI k) (zRows n α) len codes gpl gps gcl gwo ++ zPool Δ n α σ))) H locs := Z
  obtain ⟨x1, hx1⟩ : ∃ z, xs (i + 1).toNatClampNeg = z := ⟨_, rfl⟩
  obtain ⟨res, v1, v2, hf6, hf7, hE, hin, hex⟩ := (V.s_enough  thr x1).go
  refine lv_aload_n X.x X.b dE_1358 rfl (lv_at hl 1 rfl) ?_
  refine law_arg Y hX hbl Z hl 0 4 rfl rfl (v := 1) (by decide) hx1 hin1 dE_1359 dE_1360 dE_1362 dE_1363 dE_1364 ?_
  refine lv_aload_n X.x X.b dE_1365 rfl (lv_at hl 3 rfl) ?_
  refine x_callSX Y Z hl (mL_enough l hT Δ ad ao out reached lost size plots cliffs words needs told rea wread ltold lout sets (nI o) (nI k) (zRows n α) len codes gpl gps gcl gwo x1 hf6 hE) wd_809 wd_810 wd_60 wd_811 ok_L_enough pL1 rfl (rest := []) rfl (Nat.le_of_ble_eq_true rfl) ⟨Nat.le_of_ble_eq_true rfl, Nat.le_of_ble_eq_true rfl⟩ ⟨Nat.le_trans (Nat.add_le_add_left (m := 15) (Nat.le_of_ble_eq_true rfl) cells) hc.1, Nat.le_trans (Nat.add_le_add_left (m := 140) (Nat.le_of_ble_eq_true rfl) slots) hc.2⟩ dE_1366 (fun _ _ h => h) (fun rv w1 H locs hP Z => ?_)
  rcases hP with ⟨r, hr, rfl, rfl⟩ | ⟨E, hr, rfl, rfl⟩
  · have Z := Z.perm pL2
    obtain ⟨rfl, rfl⟩ := hin r hr
    refine W.eq (g2 := F0 m 1369 ls [.int 0]) rfl ?_
    refine lv_istore (lv' := [(5, .int 0), (0, .ref b), (1, .ref (ad 0)), (2, .ref (adm 0)), (3, .ref ao), (4, .int i)]) X.x X.b dE_1369 hl (Nat.le_of_ble_eq_true rfl) rfl (fun ls hl => ?_)
    refine lv_aload_n X.x X.b dE_1371 rfl (lv_at hl 3 rfl) ?_
    refine law_arg Y hX hbl Z hl 1 5 rfl rfl (v := 1) (by decide) hx1 hin1 dE_1372 dE_1373 dE_1375 dE_1376 dE_1377 ?_
    refine z_callVP X Z hl (mX7_enough l Δ adm thr (nI k) mlen spot reads hash ms mpast mtext mread x1 hf7) wd_1106 wd_1107 wd_1108 wd_68 wd_1109 ok_X7_enough 7 rfl 0 rfl (List.Perm.refl _) rfl rfl (rest := []) rfl (Nat.le_of_ble_eq_true rfl) ⟨Nat.le_of_ble_eq_true rfl, Nat.le_of_ble_eq_true rfl⟩ ⟨Nat.le_trans (Nat.add_le_add_left (m := 15) (Nat.le_of_ble_eq_true rfl) cells) hc.1, Nat.le_trans (Nat.add_le_add_left (m := 140) (Nat.le_of_ble_eq_true rfl) slots) hc.2⟩ (st1 := [.int v1]) rfl dE_1378 (fun H locs Z => ?_)
    refine law_tail Y (kc := 0) Z hl (fun _ => if_pos rfl) ⟨Nat.le_trans (Nat.add_le_add_left (m := 15) (Nat.le_of_ble_eq_true rfl) cells) hc.1, Nat.le_trans (Nat.add_le_add_left (m := 140) (Nat.le_of_ble_eq_true rfl) slots) hc.2⟩ dE_1381 dE_1383 dE_1384 dE_1387 dE_1389 dE_1394 dE_1396 dE_1399 dE_1400 dE_1401 dE_1402 dE_1404 dE_1405 dE_1406 dE_1411 (by decide) (fun H1 locs1 ls1 Z1 hl1 => ?_)
    refine W.widen (k := cells + 15) (n := slots + 140) (Nat.add_le_add_left (Nat.le_of_ble_eq_true rfl) cells) (Nat.add_le_add_left (Nat.le_of_ble_eq_true rfl) slots) ?_
    exact next H1 locs1 ls1 ⟨ad, adm, _, (reached, lost, size, plots, cliffs, words, needs, told, rea, wread, ltold, lout, sets), len, codes, gpl, gps, gcl, gwo, o, k, n, α, σ, 0, mlen, spot, reads, hash, ms, mpast, mtext, mread, rfl, rfl, Z1, hO0, HS, TX, hl1⟩
  · have Z := Z.perm pL2
    obtain rfl := hex E hr
    refine W.eq (g2 := F0 m 1369 ls [.int 1]) rfl ?_
    refine lv_istore (lv' := [(5, .int 1), (0, .ref b), (1, .ref (ad 0)), (2, .ref (adm 0)), (3, .ref ao), (4, .int i)]) X.x X.b dE_1369 hl (Nat.le_of_ble_eq_true rfl) rfl (fun ls hl => ?_)
    refine lv_aload_n X.x X.b dE_1371 rfl (lv_at hl 3 rfl) ?_
    refine law_arg Y hX hbl Z hl 1 5 rfl rfl (v := 1) (by decide) hx1 hin1 dE_1372 dE_1373 dE_1375 dE_1376 dE_1377 ?_
    refine z_callVP X Z hl (mX7_enough l Δ adm thr (nI k) mlen spot reads hash ms mpast mtext mread x1 hf7) wd_1106 wd_1107 wd_1108 wd_68 wd_1109 ok_X7_enough 7 rfl 0 rfl (List.Perm.refl _) rfl rfl (rest := []) rfl (Nat.le_of_ble_eq_true rfl) ⟨Nat.le_of_ble_eq_true rfl, Nat.le_of_ble_eq_true rfl⟩ ⟨Nat.le_trans (Nat.add_le_add_left (m := 15) (Nat.le_of_ble_eq_true rfl) cells) hc.1, Nat.le_trans (Nat.add_le_add_left (m := 140) (Nat.le_of_ble_eq_true rfl) slots) hc.2⟩ (st1 := [.int v1]) rfl dE_1378 (fun H locs Z => ?_)
    refine law_tail Y (kc := 1) Z hl (fun h => absurd h (by decide)) ⟨Nat.le_trans (Nat.add_le_add_left (m := 15) (Nat.le_of_ble_eq_true rfl) cells) hc.1, Nat.le_trans (Nat.add_le_add_left (m := 140) (Nat.le_of_ble_eq_true rfl) slots) hc.2⟩ dE_1381 dE_1383 dE_1384 dE_1387 dE_1389 dE_1394 dE_1396 dE_1399 dE_1400 dE_1401 dE_1402 dE_1404 dE_1405 dE_1406 dE_1411 (by decide) (fun H1 locs1 ls1 Z1 hl1 => ?_)
    refine W.widen (k := cells + 15) (n := slots + 140) (Nat.add_le_add_left (Nat.le_of_ble_eq_true rfl) cells) (Nat.add_le_add_left (Nat.le_of_ble_eq_true rfl) slots) ?_
    exact next H1 locs1 ls1 ⟨ad, adm, out, (reached, lost, size, plots, cliffs, words, needs, told, rea, wread, ltold, lout, sets), len, codes, gpl, gps, gcl, gwo, o, k, n, α, σ, _, mlen, spot, reads, hash, ms, mpast, mtext, mread, rfl, rfl, Z1, hO0, HS, TX, hl1⟩
set_option maxRecDepth 100000 in
set_option maxHeartbeats 4000000 in
theorem law_readShare {p : Program} {l : Launch} {e : Env} {s : State} {m : MethodId} {below : List Frame} {meth : Method} {c : Code} {H : Heap} {locs : List Loc} {cells slots : Nat} {Q : State → Prop} {Δ : zE} {b L : Nat} {xs : Nat → Int32} {ls : Array Slot} (hT : l.stackTraces = false) (Y : zY Δ p l s m #[Value.ref b] meth c ⟨"SerialRecapsLaw", meth.name, ""⟩ code 9 (some .boolean) (fun q => s.heap.size ≤ q)) (hX : va_X b L xs s s.heap) (hbl : b < s.heap.size) {a1 a2 ao : Nat} {i : Int32} (hin1 : vp_in (i + 1) L) (hin2 : vp_in (i + 2) L) (hin3 : vp_in (i + 3) L) (I : zInv Δ s b a1 a2 ao i H locs ls) (hc : cells + 15 ≤ 601024 ∧ slots + 140 ≤ 7293034) (next : ∀ (H1 : Heap) (locs1 : List Loc) (ls1 : Array Slot), zInv Δ s b a1 a2 ao i H1 locs1 ls1 → W p l e room_1 s m #[Value.ref b] below meth c H1 locs1 (cells + 15) (slots + 140) Q (F0 m 1469 ls1 [])) : W p l e room_1 s m #[Value.ref b] below meth c H locs cells slots Q (F0 m 1414 ls []) := by
  have X := Y.1
  obtain ⟨ad, adm, out, ⟨reached, lost, size, plots, cliffs, words, needs, told, rea, wread, ltold, lout, sets⟩, len, codes, gpl, gps, gcl, gwo, o, k, n, α, σ, thr, mlen, spot, reads, hash, ms, mpast, mtext, mread, rfl, rfl, Z, hO0, HS, TX, hl⟩ := I
  obtain ⟨n', L', c', V⟩ := id hO0
  have V : zV n' L' c' reached lost size plots cliffs words needs told rea wread ltold lout sets ms := V
  have Z : zW Δ (fun q => s.heap.size ≤ q) s.heap (wX7 Δ adm thr (nI k) mlen spot reads hash ms mpast mtext mread ++ ([(ao, .inl (Δ.2.2.2.1, 1, .inr (.inl out)))] ++ (wX6 Δ ad reached lost size plots cliffs words needs told rea wread ltold lout sets (nI o) (nI k) (zRows n α) len codes gpl gps gcl gwo ++ zPool Δ n α σ))) H locs := Z
  refine lv_aload_n X.x X.b dE_1414 rfl (lv_at hl 1 rfl) ?_
  obtain ⟨v, h1, h2, -, h4, h5⟩ := V.v_share
  have hcm := share_cmp h4 h5
  have hf6 : fX6_readShare size rea = some v := by unfold fX6_readShare; rw [h1, Option.bind_some]
  have hf7 : fX7_readShare thr ms = some (v, 0) := by unfold fX7_readShare; rw [h2, Option.bind_some]
  refine z_callVP X Z hl (mX6_readShare l Δ ad reached lost size plots cliffs words needs told rea wread ltold lout sets (nI o) (nI k) (zRows n α) len codes gpl gps gcl gwo hf6) wd_281 wd_282 wd_283 wd_61 wd_284 ok_X6_readShare 6 rfl 6 rfl pL3 rfl rfl (rest := []) rfl (Nat.le_of_ble_eq_true rfl) ⟨Nat.le_of_ble_eq_true rfl, Nat.le_of_ble_eq_true rfl⟩ ⟨Nat.le_trans (Nat.le_add_right cells 15) hc.1, Nat.le_trans (Nat.le_add_right slots 140) hc.2⟩ (st1 := [.double v]) rfl dE_1415 (fun H locs Z => ?_)
  have Z := Z.perm pL4
  refine lv_dstore (lv' := [(5, .double v), (0, .ref b), (1, .ref (ad 0)), (2, .ref (adm 0)), (3, .ref ao), (4, .int i)]) X.x X.b dE_1418 hl (Nat.le_of_ble_eq_true rfl) rfl (fun ls hl => ?_)
  refine lv_aload_n X.x X.b dE_1420 rfl (lv_at hl 3 rfl) ?_
  refine z_callVP X Z hl (mX7_readShare l Δ adm thr (nI k) mlen spot reads hash ms mpast mtext mread hf7) wd_1114 wd_1115 wd_1116 wd_68 wd_1117 ok_X7_readShare 7 rfl 0 rfl (List.Perm.refl _) rfl rfl (rest := []) rfl (Nat.le_of_ble_eq_true rfl) ⟨Nat.le_of_ble_eq_true rfl, Nat.le_of_ble_eq_true rfl⟩ ⟨Nat.le_trans (Nat.le_add_right cells 15) hc.1, Nat.le_trans (Nat.le_add_right slots 140) hc.2⟩ (st1 := [.double v]) rfl dE_1421 (fun H locs Z => ?_)
  refine lv_dstore (lv' := [(7, .double v), (5, .double v), (0, .ref b), (1, .ref (ad 0)), (2, .ref (adm 0)), (3, .ref ao), (4, .int i)]) X.x X.b dE_1424 hl (Nat.le_of_ble_eq_true rfl) rfl (fun ls hl => ?_)
  refine lv_dload X.x X.b dE_1426 (lv_at hl 1 rfl) ?_
  refine lv_dload X.x X.b dE_1428 (lv_at hl 0 rfl) ?_
  refine lv_dcmp X.x X.b dE_1430 ?_
  refine lv_if_eq (tgt := 1452) X.x X.b dE_1431 (by decide) (fun _ => ?_) (fun g => absurd hcm g)
  refine lv_goto (tgt := 1469) X.x X.b dE_1452 (by decide) ?_
  refine W.widen (k := cells + 15) (n := slots + 140) (Nat.le_add_right cells 15) (Nat.le_add_right slots 140) ?_
  exact next _ _ ls ⟨ad, adm, out, (reached, lost, size, plots, cliffs, words, needs, told, rea, wread, ltold, lout, sets), len, codes, gpl, gps, gcl, gwo, o, k, n, α, σ, 0, mlen, spot, reads, hash, ms, mpast, mtext, mread, rfl, rfl, Z, hO0, HS, TX, (lv_sub hl [2, 3, 4, 5, 6] rfl)⟩
set_option maxRecDepth 100000 in
set_option maxHeartbeats 4000000 in
theorem law_digest {p : Program} {l : Launch} {e : Env} {s : State} {m : MethodId} {below : List Frame} {meth : Method} {c : Code} {H : Heap} {locs : List Loc} {cells slots : Nat} {Q : State → Prop} {Δ : zE} {b L : Nat} {xs : Nat → Int32} {ls : Array Slot} (hT : l.stackTraces = false) (Y : zY Δ p l s m #[Value.ref b] meth c ⟨"SerialRecapsLaw", meth.name, ""⟩ code 9 (some .boolean) (fun q => s.heap.size ≤ q)) (hX : va_X b L xs s s.heap) (hbl : b < s.heap.size) {a1 a2 ao : Nat} {i : Int32} (hin1 : vp_in (i + 1) L) (hin2 : vp_in (i + 2) L) (hin3 : vp_in (i + 3) L) (I : zInv Δ s b a1 a2 ao i H locs ls) (hc : cells + 15 ≤ 601024 ∧ slots + 140 ≤ 7293034) (next : ∀ (H1 : Heap) (locs1 : List Loc) (ls1 : Array Slot), zInv Δ s b a1 a2 ao i H1 locs1 ls1 → W p l e room_1 s m #[Value.ref b] below meth c H1 locs1 (cells + 15) (slots + 140) Q (F0 m 1469 ls1 [])) : W p l e room_1 s m #[Value.ref b] below meth c H locs cells slots Q (F0 m 1455 ls []) := by
  have X := Y.1
  obtain ⟨ad, adm, out, ⟨reached, lost, size, plots, cliffs, words, needs, told, rea, wread, ltold, lout, sets⟩, len, codes, gpl, gps, gcl, gwo, o, k, n, α, σ, thr, mlen, spot, reads, hash, ms, mpast, mtext, mread, rfl, rfl, Z, hO0, HS, TX, hl⟩ := I
  obtain ⟨n', L', c', V⟩ := id hO0
  have V : zV n' L' c' reached lost size plots cliffs words needs told rea wread ltold lout sets ms := V
  have Z : zW Δ (fun q => s.heap.size ≤ q) s.heap (wX7 Δ adm thr (nI k) mlen spot reads hash ms mpast mtext mread ++ ([(ao, .inl (Δ.2.2.2.1, 1, .inr (.inl out)))] ++ (wX6 Δ ad reached lost size plots cliffs words needs told rea wread ltold lout sets (nI o) (nI k) (zRows n α) len codes gpl gps gcl gwo ++ zPool Δ n α σ))) H locs := Z
  refine lv_aload_n X.x X.b dE_1455 rfl (lv_at hl 1 rfl) ?_
  obtain ⟨t9, X9, tx1, tx2, tx3, tx4⟩ := id TX
  obtain ⟨v, hf6, hf7⟩ := V.s_digest (kept := nI k) tx3.1 tx1 tx2 (fun j hj => (tx4 j hj).trans (tx3.2 j hj).2.symm) thr hash
  refine z_callVP X Z hl (mX6_digest l Δ ad reached lost size plots cliffs words needs told rea wread ltold lout sets (nI o) (nI k) (zRows n α) len codes gpl gps gcl gwo hf6) wd_299 wd_300 wd_301 wd_61 wd_302 ok_X6_digest 6 rfl 6 rfl pL3 rfl rfl (rest := []) rfl (Nat.le_of_ble_eq_true rfl) ⟨Nat.le_of_ble_eq_true rfl, Nat.le_of_ble_eq_true rfl⟩ ⟨Nat.le_trans (Nat.le_add_right cells 15) hc.1, Nat.le_trans (Nat.le_add_right slots 140) hc.2⟩ (st1 := [.long v]) rfl dE_1456 (fun H locs Z => ?_)
  have Z := Z.perm pL4
  refine lv_aload_n X.x X.b dE_1459 rfl (lv_at hl 2 rfl) ?_
  refine z_callVP X Z hl (mX7_digest l Δ adm thr (nI k) mlen spot reads hash ms mpast mtext mread hf7) wd_1122 wd_1123 wd_1124 wd_68 wd_1125 ok_X7_digest 7 rfl 0 rfl (List.Perm.refl _) rfl rfl (rest := [.long v]) rfl (Nat.le_of_ble_eq_true rfl) ⟨Nat.le_of_ble_eq_true rfl, Nat.le_of_ble_eq_true rfl⟩ ⟨Nat.le_trans (Nat.le_add_right cells 15) hc.1, Nat.le_trans (Nat.le_add_right slots 140) hc.2⟩ (st1 := [.long v, .long v]) rfl dE_1460 (fun H locs Z => ?_)
  refine W.lcmp X.x X.b dE_1463 ?_
  refine lv_if_eq (tgt := 1469) X.x X.b dE_1464 (by decide) (fun _ => ?_) (fun g => absurd ((lg_cmp_eq _ _).mpr rfl) g)
  refine W.widen (k := cells + 15) (n := slots + 140) (Nat.le_add_right cells 15) (Nat.le_add_right slots 140) ?_
  exact next _ _ ls ⟨ad, adm, out, (reached, lost, size, plots, cliffs, words, needs, told, rea, wread, ltold, lout, sets), len, codes, gpl, gps, gcl, gwo, o, k, n, α, σ, 0, mlen, spot, reads, v, ms, mpast, mtext, mread, rfl, rfl, Z, hO0, HS, TX, hl⟩
