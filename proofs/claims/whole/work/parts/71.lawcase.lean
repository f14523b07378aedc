set_option maxRecDepth 100000 in
set_option maxHeartbeats 4000000 in
theorem law_append {p : Program} {l : Launch} {e : Env} {s : State} {m : MethodId} {below : List Frame} {meth : Method} {c : Code} {H : Heap} {locs : List Loc} {cells slots : Nat} {Q : State → Prop} {Δ : zE} {b L : Nat} {xs : Nat → Int32} {ls : Array Slot} (hT : l.stackTraces = false) (Y : zY Δ p l s m #[Value.ref b] meth c ⟨"SerialRecapsLaw", meth.name, ""⟩ code 9 (some .boolean) (fun q => s.heap.size ≤ q)) (hX : va_X b L xs s s.heap) (hbl : b < s.heap.size) {a1 a2 ao : Nat} {i : Int32} (hin1 : vp_in (i + 1) L) (hin2 : vp_in (i + 2) L) (hin3 : vp_in (i + 3) L) (I : zInv Δ s b a1 a2 ao i H locs ls) (hc : cells + 15 ≤ 601024 ∧ slots + 140 ≤ 7293034) (next : ∀ (H1 : Heap) (locs1 : List Loc) (ls1 : Array Slot), zInv Δ s b a1 a2 ao i H1 locs1 ls1 → W p l e room_1 s m #[Value.ref b] below meth c H1 locs1 (cells + 15) (slots + 140) Q (F0 m 1469 ls1 [])) : W p l e room_1 s m #[Value.ref b] below meth c H locs cells slots Q (F0 m 668 ls []) := by
  have X := Y.1
  obtain ⟨ad, adm, out, ⟨reached, lost, size, plots, cliffs, words, needs, told, rea, wread, ltold, lout, sets⟩, len, codes, gpl, gps, gcl, gwo, o, k, n, α, σ, thr, mlen, spot, reads, hash, ms, mpast, mtext, mread, rfl, rfl, Z, hO0, HS, TX, hl⟩ := I
  obtain ⟨n', L', c', V⟩ := id hO0
  have V : zV n' L' c' reached lost size plots cliffs words needs told rea wread ltold lout sets ms := V
  have Z : zW Δ (fun q => s.heap.size ≤ q) s.heap (wX7 Δ adm thr (nI k) mlen spot reads hash ms mpast mtext mread ++ ([(ao, .inl (Δ.2.2.2.1, 1, .inr (.inl out)))] ++ (wX6 Δ ad reached lost size plots cliffs words needs told rea wread ltold lout sets (nI o) (nI k) (zRows n α) len codes gpl gps gcl gwo ++ zPool Δ n α σ))) H locs := Z
  obtain ⟨x1, hx1⟩ : ∃ z, xs (i + 1).toNatClampNeg = z := ⟨_, rfl⟩
  obtain ⟨res, v1, v2, v3, v4, hf6, hf7, hE, hin, hex⟩ := (TX.s_append thr x1) |> appGo
  refine lv_aload_n X.x X.b dE_668 rfl (lv_at hl 1 rfl) ?_
  refine law_arg Y hX hbl Z hl 0 4 rfl rfl (v := 1) (by decide) hx1 hin1 dE_669 dE_670 dE_672 dE_673 dE_674 ?_
  refine lv_aload_n X.x X.b dE_675 rfl (lv_at hl 3 rfl) ?_
  refine x_callSX Y Z hl (mL_append l hT Δ ad ao out reached lost size plots cliffs words needs told rea wread ltold lout sets (nI o) (nI k) (zRows n α) len codes gpl gps gcl gwo x1 hf6 hE) wd_691 wd_692 wd_60 wd_693 ok_L_append pL1 rfl (rest := []) rfl (Nat.le_of_ble_eq_true rfl) ⟨Nat.le_of_ble_eq_true rfl, Nat.le_of_ble_eq_true rfl⟩ ⟨Nat.le_trans (Nat.add_le_add_left (m := 15) (Nat.le_of_ble_eq_true rfl) cells) hc.1, Nat.le_trans (Nat.add_le_add_left (m := 140) (Nat.le_of_ble_eq_true rfl) slots) hc.2⟩ dE_676 (fun _ _ h => h) (fun rv w1 H locs hP Z => ?_)
  rcases hP with ⟨r, hr, rfl, rfl⟩ | ⟨E, hr, rfl, rfl⟩
  · have Z := Z.perm pL2
    obtain ⟨rfl, rfl, hTX⟩ := hin r hr
    refine W.eq (g2 := F0 m 679 ls [.int 0]) rfl ?_
    refine lv_istore (lv' := [(5, .int 0), (0, .ref b), (1, .ref (ad 0)), (2, .ref (adm 0)), (3, .ref ao), (4, .int i)]) X.x X.b dE_679 hl (Nat.le_of_ble_eq_true rfl) rfl (fun ls hl => ?_)
    refine lv_aload_n X.x X.b dE_681 rfl (lv_at hl 3 rfl) ?_
    refine law_arg Y hX hbl Z hl 1 5 rfl rfl (v := 1) (by decide) hx1 hin1 dE_682 dE_683 dE_685 dE_686 dE_687 ?_
    refine z_callVP X Z hl (mX7_append l Δ adm thr (nI k) mlen spot reads hash ms mpast mtext mread x1 hf7) wd_970 wd_971 wd_972 wd_68 wd_973 ok_X7_append 7 rfl 0 rfl (List.Perm.refl _) rfl rfl (rest := []) rfl (Nat.le_of_ble_eq_true rfl) ⟨Nat.le_of_ble_eq_true rfl, Nat.le_of_ble_eq_true rfl⟩ ⟨Nat.le_trans (Nat.add_le_add_left (m := 15) (Nat.le_of_ble_eq_true rfl) cells) hc.1, Nat.le_trans (Nat.add_le_add_left (m := 140) (Nat.le_of_ble_eq_true rfl) slots) hc.2⟩ (st1 := [.int r.1]) rfl dE_688 (fun H locs Z => ?_)
    refine law_tail Y (kc := 0) Z hl (fun _ => if_pos rfl) ⟨Nat.le_trans (Nat.add_le_add_left (m := 15) (Nat.le_of_ble_eq_true rfl) cells) hc.1, Nat.le_trans (Nat.add_le_add_left (m := 140) (Nat.le_of_ble_eq_true rfl) slots) hc.2⟩ dE_691 dE_693 dE_694 dE_697 dE_699 dE_704 dE_706 dE_709 dE_710 dE_711 dE_712 dE_714 dE_715 dE_716 dE_721 (by decide) (fun H1 locs1 ls1 Z1 hl1 => ?_)
    refine W.widen (k := cells + 15) (n := slots + 140) (Nat.add_le_add_left (Nat.le_of_ble_eq_true rfl) cells) (Nat.add_le_add_left (Nat.le_of_ble_eq_true rfl) slots) ?_
    exact next H1 locs1 ls1 ⟨ad, adm, _, (reached, lost, size, plots, cliffs, words, needs, told, rea, wread, ltold, lout, sets), r.2.1, r.2.2, gpl, gps, gcl, gwo, o, k, n, α, σ, 0, v3, spot, reads, hash, ms, mpast, v4, mread, rfl, rfl, Z1, hO0, HS, hTX, hl1⟩
  · have Z := Z.perm pL2
    obtain ⟨rfl, rfl, rfl⟩ := hex E hr
    refine W.eq (g2 := F0 m 679 ls [.int (if E = "java/lang/IllegalArgumentException" then 1 else 2)]) rfl ?_
    refine lv_istore (lv' := [(5, .int (if E = "java/lang/IllegalArgumentException" then 1 else 2)), (0, .ref b), (1, .ref (ad 0)), (2, .ref (adm 0)), (3, .ref ao), (4, .int i)]) X.x X.b dE_679 hl (Nat.le_of_ble_eq_true rfl) rfl (fun ls hl => ?_)
    refine lv_aload_n X.x X.b dE_681 rfl (lv_at hl 3 rfl) ?_
    refine law_arg Y hX hbl Z hl 1 5 rfl rfl (v := 1) (by decide) hx1 hin1 dE_682 dE_683 dE_685 dE_686 dE_687 ?_
    refine z_callVP X Z hl (mX7_append l Δ adm thr (nI k) mlen spot reads hash ms mpast mtext mread x1 hf7) wd_970 wd_971 wd_972 wd_68 wd_973 ok_X7_append 7 rfl 0 rfl (List.Perm.refl _) rfl rfl (rest := []) rfl (Nat.le_of_ble_eq_true rfl) ⟨Nat.le_of_ble_eq_true rfl, Nat.le_of_ble_eq_true rfl⟩ ⟨Nat.le_trans (Nat.add_le_add_left (m := 15) (Nat.le_of_ble_eq_true rfl) cells) hc.1, Nat.le_trans (Nat.add_le_add_left (m := 140) (Nat.le_of_ble_eq_true rfl) slots) hc.2⟩ (st1 := [.int v1]) rfl dE_688 (fun H locs Z => ?_)
    refine law_tail Y (kc := (if E = "java/lang/IllegalArgumentException" then 1 else 2)) Z hl (fun h => absurd h zif12) ⟨Nat.le_trans (Nat.add_le_add_left (m := 15) (Nat.le_of_ble_eq_true rfl) cells) hc.1, Nat.le_trans (Nat.add_le_add_left (m := 140) (Nat.le_of_ble_eq_true rfl) slots) hc.2⟩ dE_691 dE_693 dE_694 dE_697 dE_699 dE_704 dE_706 dE_709 dE_710 dE_711 dE_712 dE_714 dE_715 dE_716 dE_721 (by decide) (fun H1 locs1 ls1 Z1 hl1 => ?_)
    refine W.widen (k := cells + 15) (n := slots + 140) (Nat.add_le_add_left (Nat.le_of_ble_eq_true rfl) cells) (Nat.add_le_add_left (Nat.le_of_ble_eq_true rfl) slots) ?_
    exact next H1 locs1 ls1 ⟨ad, adm, out, (reached, lost, size, plots, cliffs, words, needs, told, rea, wread, ltold, lout, sets), len, codes, gpl, gps, gcl, gwo, o, k, n, α, σ, _, _, spot, reads, hash, ms, mpast, _, mread, rfl, rfl, Z1, hO0, HS, TX, hl1⟩
set_option maxRecDepth 100000 in
set_option maxHeartbeats 4000000 in
theorem law_clearBuffer {p : Program} {l : Launch} {e : Env} {s : State} {m : MethodId} {below : List Frame} {meth : Method} {c : Code} {H : Heap} {locs : List Loc} {cells slots : Nat} {Q : State → Prop} {Δ : zE} {b L : Nat} {xs : Nat → Int32} {ls : Array Slot} (hT : l.stackTraces = false) (Y : zY Δ p l s m #[Value.ref b] meth c ⟨"SerialRecapsLaw", meth.name, ""⟩ code 9 (some .boolean) (fun q => s.heap.size ≤ q)) (hX : va_X b L xs s s.heap) (hbl : b < s.heap.size) {a1 a2 ao : Nat} {i : Int32} (hin1 : vp_in (i + 1) L) (hin2 : vp_in (i + 2) L) (hin3 : vp_in (i + 3) L) (I : zInv Δ s b a1 a2 ao i H locs ls) (hc : cells + 15 ≤ 601024 ∧ slots + 140 ≤ 7293034) (next : ∀ (H1 : Heap) (locs1 : List Loc) (ls1 : Array Slot), zInv Δ s b a1 a2 ao i H1 locs1 ls1 → W p l e room_1 s m #[Value.ref b] below meth c H1 locs1 (cells + 15) (slots + 140) Q (F0 m 1469 ls1 [])) : W p l e room_1 s m #[Value.ref b] below meth c H locs cells slots Q (F0 m 724 ls []) := by
  have X := Y.1
  obtain ⟨ad, adm, out, ⟨reached, lost, size, plots, cliffs, words, needs, told, rea, wread, ltold, lout, sets⟩, len, codes, gpl, gps, gcl, gwo, o, k, n, α, σ, thr, mlen, spot, reads, hash, ms, mpast, mtext, mread, rfl, rfl, Z, hO0, HS, TX, hl⟩ := I
  obtain ⟨n', L', c', V⟩ := id hO0
  have V : zV n' L' c' reached lost size plots cliffs words needs told rea wread ltold lout sets ms := V
  have Z : zW Δ (fun q => s.heap.size ≤ q) s.heap (wX7 Δ adm thr (nI k) mlen spot reads hash ms mpast mtext mread ++ ([(ao, .inl (Δ.2.2.2.1, 1, .inr (.inl out)))] ++ (wX6 Δ ad reached lost size plots cliffs words needs told rea wread ltold lout sets (nI o) (nI k) (zRows n α) len codes gpl gps gcl gwo ++ zPool Δ n α σ))) H locs := Z
  refine lv_aload_n X.x X.b dE_724 rfl (lv_at hl 1 rfl) ?_
  have hlm : mlen = len := by
    obtain ⟨t, X9, h1, h2, -⟩ := TX
    rw [h1, h2]
  refine z_callVP X Z hl (mX6_clearBuffer l Δ ad reached lost size plots cliffs words needs told rea wread ltold lout sets (nI o) (nI k) (zRows n α) len codes gpl gps gcl gwo rfl) wd_237 wd_238 wd_239 wd_61 wd_240 ok_X6_clearBuffer 6 rfl 6 rfl pL3 rfl rfl (rest := []) rfl (Nat.le_of_ble_eq_true rfl) ⟨Nat.le_of_ble_eq_true rfl, Nat.le_of_ble_eq_true rfl⟩ ⟨Nat.le_trans (Nat.le_add_right cells 15) hc.1, Nat.le_trans (Nat.le_add_right slots 140) hc.2⟩ (st1 := [.int len]) rfl dE_725 (fun H locs Z => ?_)
  have Z := Z.perm pL4
  refine lv_aload_n X.x X.b dE_728 rfl (lv_at hl 2 rfl) ?_
  refine z_callVP X Z hl (mX7_clearBuffer l Δ adm thr (nI k) mlen spot reads hash ms mpast mtext mread rfl) wd_974 wd_975 wd_976 wd_68 wd_977 ok_X7_clearBuffer 7 rfl 0 rfl (List.Perm.refl _) rfl rfl (rest := [.int len]) rfl (Nat.le_of_ble_eq_true rfl) ⟨Nat.le_of_ble_eq_true rfl, Nat.le_of_ble_eq_true rfl⟩ ⟨Nat.le_trans (Nat.le_add_right cells 15) hc.1, Nat.le_trans (Nat.le_add_right slots 140) hc.2⟩ (st1 := [.int mlen, .int len]) rfl dE_729 (fun H locs Z => ?_)
  refine lv_icmp_eq (tgt := 1469) X.x X.b dE_732 (by decide) (fun _ => ?_) (fun h => absurd hlm.symm h)
  refine W.widen (k := cells + 15) (n := slots + 140) (Nat.le_add_right cells 15) (Nat.le_add_right slots 140) ?_
  exact next _ _ ls ⟨ad, adm, out, (reached, lost, size, plots, cliffs, words, needs, told, rea, wread, ltold, lout, sets), 0, codes, gpl, gps, gcl, gwo, o, k, n, α, σ, 0, 0, spot, reads, hash, ms, mpast, mtext, mread, rfl, rfl, Z, hO0, HS, (zTx.empty codes mtext), hl⟩
set_option maxRecDepth 100000 in
set_option maxHeartbeats 4000000 in
theorem law_firstError {p : Program} {l : Launch} {e : Env} {s : State} {m : MethodId} {below : List Frame} {meth : Method} {c : Code} {H : Heap} {locs : List Loc} {cells slots : Nat} {Q : State → Prop} {Δ : zE} {b L : Nat} {xs : Nat → Int32} {ls : Array Slot} (hT : l.stackTraces = false) (Y : zY Δ p l s m #[Value.ref b] meth c ⟨"SerialRecapsLaw", meth.name, ""⟩ code 9 (some .boolean) (fun q => s.heap.size ≤ q)) (hX : va_X b L xs s s.heap) (hbl : b < s.heap.size) {a1 a2 ao : Nat} {i : Int32} (hin1 : vp_in (i + 1) L) (hin2 : vp_in (i + 2) L) (hin3 : vp_in (i + 3) L) (I : zInv Δ s b a1 a2 ao i H locs ls) (hc : cells + 15 ≤ 601024 ∧ slots + 140 ≤ 7293034) (next : ∀ (H1 : Heap) (locs1 : List Loc) (ls1 : Array Slot), zInv Δ s b a1 a2 ao i H1 locs1 ls1 → W p l e room_1 s m #[Value.ref b] below meth c H1 locs1 (cells + 15) (slots + 140) Q (F0 m 1469 ls1 [])) : W p l e room_1 s m #[Value.ref b] below meth c H locs cells slots Q (F0 m 737 ls []) := by
  have X := Y.1
  obtain ⟨ad, adm, out, ⟨reached, lost, size, plots, cliffs, words, needs, told, rea, wread, ltold, lout, sets⟩, len, codes, gpl, gps, gcl, gwo, o, k, n, α, σ, thr, mlen, spot, reads, hash, ms, mpast, mtext, mread, rfl, rfl, Z, hO0, HS, TX, hl⟩ := I
  obtain ⟨n', L', c', V⟩ := id hO0
  have V : zV n' L' c' reached lost size plots cliffs words needs told rea wread ltold lout sets ms := V
  have Z : zW Δ (fun q => s.heap.size ≤ q) s.heap (wX7 Δ adm thr (nI k) mlen spot reads hash ms mpast mtext mread ++ ([(ao, .inl (Δ.2.2.2.1, 1, .inr (.inl out)))] ++ (wX6 Δ ad reached lost size plots cliffs words needs told rea wread ltold lout sets (nI o) (nI k) (zRows n α) len codes gpl gps gcl gwo ++ zPool Δ n α σ))) H locs := Z
  refine lv_aload_n X.x X.b dE_737 rfl (lv_at hl 1 rfl) ?_
  obtain ⟨⟨r1, r2, r3, r4, r5⟩, ⟨v1, v2, v3, v4, v5⟩, hf6, hf7, he⟩ := TX.s_firstError gpl gps gcl gwo thr spot reads mread
  refine z_callVP X Z hl (mX6_firstError l Δ ad reached lost size plots cliffs words needs told rea wread ltold lout sets (nI o) (nI k) (zRows n α) len codes gpl gps gcl gwo hf6) wd_241 wd_242 wd_243 wd_61 wd_244 ok_X6_firstError 6 rfl 6 rfl pL3 rfl rfl (rest := []) rfl (Nat.le_of_ble_eq_true rfl) ⟨Nat.le_of_ble_eq_true rfl, Nat.le_of_ble_eq_true rfl⟩ ⟨Nat.le_trans (Nat.le_add_right cells 15) hc.1, Nat.le_trans (Nat.le_add_right slots 140) hc.2⟩ (st1 := [.int r1]) rfl dE_738 (fun H locs Z => ?_)
  have Z := Z.perm pL4
  refine lv_aload_n X.x X.b dE_741 rfl (lv_at hl 2 rfl) ?_
  refine z_callVP X Z hl (mX7_firstError l Δ adm thr (nI k) mlen spot reads hash ms mpast mtext mread hf7) wd_978 wd_979 wd_980 wd_68 wd_981 ok_X7_firstError 7 rfl 0 rfl (List.Perm.refl _) rfl rfl (rest := [.int r1]) rfl (Nat.le_of_ble_eq_true rfl) ⟨Nat.le_of_ble_eq_true rfl, Nat.le_of_ble_eq_true rfl⟩ ⟨Nat.le_trans (Nat.le_add_right cells 15) hc.1, Nat.le_trans (Nat.le_add_right slots 140) hc.2⟩ (st1 := [.int v1, .int r1]) rfl dE_742 (fun H locs Z => ?_)
  refine lv_icmp_eq (tgt := 1469) X.x X.b dE_745 (by decide) (fun _ => ?_) (fun h => absurd he.symm h)
  refine W.widen (k := cells + 15) (n := slots + 140) (Nat.le_add_right cells 15) (Nat.le_add_right slots 140) ?_
  exact next _ _ ls ⟨ad, adm, out, (reached, lost, size, plots, cliffs, words, needs, told, rea, wread, ltold, lout, sets), len, codes, r2, r3, r4, r5, o, k, n, α, σ, v2, mlen, v3, v4, hash, ms, mpast, mtext, v5, rfl, rfl, Z, hO0, HS, TX, hl⟩
set_option maxRecDepth 100000 in
set_option maxHeartbeats 4000000 in
theorem law_addAll {p : Program} {l : Launch} {e : Env} {s : State} {m : MethodId} {below : List Frame} {meth : Method} {c : Code} {H : Heap} {locs : List Loc} {cells slots : Nat} {Q : State → Prop} {Δ : zE} {b L : Nat} {xs : Nat → Int32} {ls : Array Slot} (hT : l.stackTraces = false) (Y : zY Δ p l s m #[Value.ref b] meth c ⟨"SerialRecapsLaw", meth.name, ""⟩ code 9 (some .boolean) (fun q => s.heap.size ≤ q)) (hX : va_X b L xs s s.heap) (hbl : b < s.heap.size) {a1 a2 ao : Nat} {i : Int32} (hin1 : vp_in (i + 1) L) (hin2 : vp_in (i + 2) L) (hin3 : vp_in (i + 3) L) (I : zInv Δ s b a1 a2 ao i H locs ls) (hc : cells + 15 ≤ 601024 ∧ slots + 140 ≤ 7293034) (next : ∀ (H1 : Heap) (locs1 : List Loc) (ls1 : Array Slot), zInv Δ s b a1 a2 ao i H1 locs1 ls1 → W p l e room_1 s m #[Value.ref b] below meth c H1 locs1 (cells + 15) (slots + 140) Q (F0 m 1469 ls1 [])) : W p l e room_1 s m #[Value.ref b] below meth c H locs cells slots Q (F0 m 750 ls []) := by
  have X := Y.1
  obtain ⟨ad, adm, out, ⟨reached, lost, size, plots, cliffs, words, needs, told, rea, wread, ltold, lout, sets⟩, len, codes, gpl, gps, gcl, gwo, o, k, n, α, σ, thr, mlen, spot, reads, hash, ms, mpast, mtext, mread, rfl, rfl, Z, hO0, HS, TX, hl⟩ := I
  obtain ⟨n', L', c', V⟩ := id hO0
  have V : zV n' L' c' reached lost size plots cliffs words needs told rea wread ltold lout sets ms := V
  have Z : zW Δ (fun q => s.heap.size ≤ q) s.heap (wX7 Δ adm thr (nI k) mlen spot reads hash ms mpast mtext mread ++ ([(ao, .inl (Δ.2.2.2.1, 1, .inr (.inl out)))] ++ (wX6 Δ ad reached lost size plots cliffs words needs told rea wread ltold lout sets (nI o) (nI k) (zRows n α) len codes gpl gps gcl gwo ++ zPool Δ n α σ))) H locs := Z
  obtain ⟨mp', hs, HS'⟩ := HS.keep (c0 := (reached, lost, size, plots, cliffs, words, needs, told, rea, wread, ltold, lout, sets)) (ms := ms) hO0
  obtain ⟨res, v1, v2, v3, v4, v5, v6, v7, v8, v9, hf6, hf7, hE, hin, hex⟩ := (V.s_addAll TX (thr := thr) hs gpl gps gcl gwo spot reads mread) |> aaGo
  refine lv_aload_n X.x X.b dE_750 rfl (lv_at hl 1 rfl) ?_
  refine lv_aload_n X.x X.b dE_751 rfl (lv_at hl 3 rfl) ?_
  refine x_callSX Y Z hl (mL_addAll l hT Δ ad ao out reached lost size plots cliffs words needs told rea wread ltold lout sets len codes gpl gps gcl gwo o k n α σ HS.1  hf6 hE) wd_704 wd_705 wd_60 wd_706 ok_L_addAll List.perm_append_comm rfl (rest := []) rfl (Nat.le_of_ble_eq_true rfl) ⟨Nat.le_of_ble_eq_true rfl, Nat.le_of_ble_eq_true rfl⟩ ⟨Nat.le_trans (Nat.add_le_add_left (m := 15) (Nat.le_of_ble_eq_true rfl) cells) hc.1, Nat.le_trans (Nat.add_le_add_left (m := 140) (Nat.le_of_ble_eq_true rfl) slots) hc.2⟩ dE_752 (fun _ _ h => h) (fun rv w1 H locs hP Z => ?_)
  have Z := Z.perm List.perm_append_comm
  rcases hP with ⟨r, hr, rfl, α1, rfl⟩ | ⟨E, hr, rfl, g1, g2, g3, g4, rfl⟩
  · obtain ⟨rfl, rfl, rfl, rfl, hr0, rfl, hO⟩ := hin r hr
    rw [hr0] at Z
    refine W.eq (g2 := F0 m 755 ls [.int 0]) rfl ?_
    refine lv_istore (lv' := [(5, .int 0), (0, .ref b), (1, .ref (ad 0)), (2, .ref (adm 0)), (3, .ref ao), (4, .int i)]) X.x X.b dE_755 hl (Nat.le_of_ble_eq_true rfl) rfl (fun ls hl => ?_)
    refine lv_aload_n X.x X.b dE_757 rfl (lv_at hl 3 rfl) ?_
    refine z_callVP X Z hl (mX7_addAll l Δ adm thr (nI k) mlen spot reads hash ms mpast mtext mread  hf7) wd_1010 wd_1011 wd_1012 wd_68 wd_1013 ok_X7_addAll 7 rfl 0 rfl (List.Perm.refl _) rfl rfl (rest := []) rfl (Nat.le_of_ble_eq_true rfl) ⟨Nat.le_of_ble_eq_true rfl, Nat.le_of_ble_eq_true rfl⟩ ⟨Nat.le_trans (Nat.add_le_add_left (m := 15) (Nat.le_of_ble_eq_true rfl) cells) hc.1, Nat.le_trans (Nat.add_le_add_left (m := 140) (Nat.le_of_ble_eq_true rfl) slots) hc.2⟩ (st1 := [.int r.1]) rfl dE_758 (fun H locs Z => ?_)
    refine law_tail Y (kc := 0) Z hl (fun _ => if_pos rfl) ⟨Nat.le_trans (Nat.add_le_add_left (m := 15) (Nat.le_of_ble_eq_true rfl) cells) hc.1, Nat.le_trans (Nat.add_le_add_left (m := 140) (Nat.le_of_ble_eq_true rfl) slots) hc.2⟩ dE_761 dE_763 dE_764 dE_767 dE_769 dE_774 dE_776 dE_779 dE_780 dE_781 dE_782 dE_784 dE_785 dE_786 dE_791 (by decide) (fun H1 locs1 ls1 Z1 hl1 => ?_)
    refine W.widen (k := cells + 15) (n := slots + 140) (Nat.add_le_add_left (Nat.le_of_ble_eq_true rfl) cells) (Nat.add_le_add_left (Nat.le_of_ble_eq_true rfl) slots) ?_
    exact next H1 locs1 ls1 ⟨ad, adm, _, _, 0, codes, _, _, _, _, (zo o k), (zk k + 1), _, α1, _, 0, 0, v5, v6, hash, v7, _, mtext, v9, rfl, rfl, Z1, hO, HS', (zTx.empty codes mtext), hl1⟩
  · obtain ⟨rfl, rfl, rfl, rfl, rfl⟩ := hex E hr
    refine W.eq (g2 := F0 m 755 ls [.int (if E = "java/lang/IllegalArgumentException" then 1 else 2)]) rfl ?_
    refine lv_istore (lv' := [(5, .int (if E = "java/lang/IllegalArgumentException" then 1 else 2)), (0, .ref b), (1, .ref (ad 0)), (2, .ref (adm 0)), (3, .ref ao), (4, .int i)]) X.x X.b dE_755 hl (Nat.le_of_ble_eq_true rfl) rfl (fun ls hl => ?_)
    refine lv_aload_n X.x X.b dE_757 rfl (lv_at hl 3 rfl) ?_
    refine z_callVP X Z hl (mX7_addAll l Δ adm thr (nI k) mlen spot reads hash ms mpast mtext mread  hf7) wd_1010 wd_1011 wd_1012 wd_68 wd_1013 ok_X7_addAll 7 rfl 0 rfl (List.Perm.refl _) rfl rfl (rest := []) rfl (Nat.le_of_ble_eq_true rfl) ⟨Nat.le_of_ble_eq_true rfl, Nat.le_of_ble_eq_true rfl⟩ ⟨Nat.le_trans (Nat.add_le_add_left (m := 15) (Nat.le_of_ble_eq_true rfl) cells) hc.1, Nat.le_trans (Nat.add_le_add_left (m := 140) (Nat.le_of_ble_eq_true rfl) slots) hc.2⟩ (st1 := [.int v1]) rfl dE_758 (fun H locs Z => ?_)
    refine law_tail Y (kc := (if E = "java/lang/IllegalArgumentException" then 1 else 2)) Z hl (fun h => absurd h zif12) ⟨Nat.le_trans (Nat.add_le_add_left (m := 15) (Nat.le_of_ble_eq_true rfl) cells) hc.1, Nat.le_trans (Nat.add_le_add_left (m := 140) (Nat.le_of_ble_eq_true rfl) slots) hc.2⟩ dE_761 dE_763 dE_764 dE_767 dE_769 dE_774 dE_776 dE_779 dE_780 dE_781 dE_782 dE_784 dE_785 dE_786 dE_791 (by decide) (fun H1 locs1 ls1 Z1 hl1 => ?_)
    refine W.widen (k := cells + 15) (n := slots + 140) (Nat.add_le_add_left (Nat.le_of_ble_eq_true rfl) cells) (Nat.add_le_add_left (Nat.le_of_ble_eq_true rfl) slots) ?_
    exact next H1 locs1 ls1 ⟨ad, adm, out, (reached, lost, size, plots, cliffs, words, needs, told, rea, wread, ltold, lout, sets), len, codes, g1, g2, g3, g4, o, k, n, α, σ, _, _, v5, v6, hash, _, _, mtext, v9, rfl, rfl, Z1, hO0, HS, TX, hl1⟩
set_option maxRecDepth 100000 in
set_option maxHeartbeats 4000000 in
theorem law_undo {p : Program} {l : Launch} {e : Env} {s : State} {m : MethodId} {below : List Frame} {meth : Method} {c : Code} {H : Heap} {locs : List Loc} {cells slots : Nat} {Q : State → Prop} {Δ : zE} {b L : Nat} {xs : Nat → Int32} {ls : Array Slot} (hT : l.stackTraces = false) (Y : zY Δ p l s m #[Value.ref b] meth c ⟨"SerialRecapsLaw", meth.name, ""⟩ code 9 (some .boolean) (fun q => s.heap.size ≤ q)) (hX : va_X b L xs s s.heap) (hbl : b < s.heap.size) {a1 a2 ao : Nat} {i : Int32} (hin1 : vp_in (i + 1) L) (hin2 : vp_in (i + 2) L) (hin3 : vp_in (i + 3) L) (I : zInv Δ s b a1 a2 ao i H locs ls) (hc : cells + 15 ≤ 601024 ∧ slots + 140 ≤ 7293034) (next : ∀ (H1 : Heap) (locs1 : List Loc) (ls1 : Array Slot), zInv Δ s b a1 a2 ao i H1 locs1 ls1 → W p l e room_1 s m #[Value.ref b] below meth c H1 locs1 (cells + 15) (slots + 140) Q (F0 m 1469 ls1 [])) : W p l e room_1 s m #[Value.ref b] below meth c H locs cells slots Q (F0 m 794 ls []) := by
  have X := Y.1
  obtain ⟨ad, adm, out, ⟨reached, lost, size, plots, cliffs, words, needs, told, rea, wread, ltold, lout, sets⟩, len, codes, gpl, gps, gcl, gwo, o, k, n, α, σ, thr, mlen, spot, reads, hash, ms, mpast, mtext, mread, rfl, rfl, Z, hO0, HS, TX, hl⟩ := I
  obtain ⟨n', L', c', V⟩ := id hO0
  have V : zV n' L' c' reached lost size plots cliffs words needs told rea wread ltold lout sets ms := V
  have Z : zW Δ (fun q => s.heap.size ≤ q) s.heap (wX7 Δ adm thr (nI k) mlen spot reads hash ms mpast mtext mread ++ ([(ao, .inl (Δ.2.2.2.1, 1, .inr (.inl out)))] ++ (wX6 Δ ad reached lost size plots cliffs words needs told rea wread ltold lout sets (nI o) (nI k) (zRows n α) len codes gpl gps gcl gwo ++ zPool Δ n α σ))) H locs := Z
  refine lv_aload_n X.x X.b dE_794 rfl (lv_at hl 1 rfl) ?_
  refine lv_aload_n X.x X.b dE_795 rfl (lv_at hl 3 rfl) ?_
  refine x_callSX Y Z hl (mL_undo l hT Δ ad ao out reached lost size plots cliffs words needs told rea wread ltold lout sets len codes gpl gps gcl gwo o k n α σ HS.1 ) wd_731 wd_732 wd_60 wd_733 ok_L_undo List.perm_append_comm rfl (rest := []) rfl (Nat.le_of_ble_eq_true rfl) ⟨Nat.le_of_ble_eq_true rfl, Nat.le_of_ble_eq_true rfl⟩ ⟨Nat.le_trans (Nat.add_le_add_left (m := 15) (Nat.le_of_ble_eq_true rfl) cells) hc.1, Nat.le_trans (Nat.add_le_add_left (m := 140) (Nat.le_of_ble_eq_true rfl) slots) hc.2⟩ dE_796 (fun _ _ h => h) (fun rv w1 H locs hP Z => ?_)
  have Z := Z.perm List.perm_append_comm
  rcases hP with ⟨hk0, rfl, rfl⟩ | ⟨hk0, rfl, rfl⟩
  · obtain ⟨mm, hf7, hO, HS'⟩ := HS.undo (ms := ms) (reached, lost, size, plots, cliffs, words, needs, told, rea, wread, ltold, lout, sets) thr hk0
    refine W.eq (g2 := F0 m 799 ls [.int 0]) rfl ?_
    refine lv_istore (lv' := [(5, .int 0), (0, .ref b), (1, .ref (ad 0)), (2, .ref (adm 0)), (3, .ref ao), (4, .int i)]) X.x X.b dE_799 hl (Nat.le_of_ble_eq_true rfl) rfl (fun ls hl => ?_)
    refine lv_aload_n X.x X.b dE_801 rfl (lv_at hl 3 rfl) ?_
    refine z_callVP X Z hl (mX7_undo l Δ adm thr (nI k) mlen spot reads hash ms mpast mtext mread  hf7) wd_858 wd_859 wd_860 wd_68 wd_861 ok_X7_undo 7 rfl 0 rfl (List.Perm.refl _) rfl rfl (rest := []) rfl (Nat.le_of_ble_eq_true rfl) ⟨Nat.le_of_ble_eq_true rfl, Nat.le_of_ble_eq_true rfl⟩ ⟨Nat.le_trans (Nat.add_le_add_left (m := 15) (Nat.le_of_ble_eq_true rfl) cells) hc.1, Nat.le_trans (Nat.add_le_add_left (m := 140) (Nat.le_of_ble_eq_true rfl) slots) hc.2⟩ (st1 := [.int (nI (k - 1))]) rfl dE_802 (fun H locs Z => ?_)
    refine law_tail Y (kc := 0) Z hl (fun _ => if_pos rfl) ⟨Nat.le_trans (Nat.add_le_add_left (m := 15) (Nat.le_of_ble_eq_true rfl) cells) hc.1, Nat.le_trans (Nat.add_le_add_left (m := 140) (Nat.le_of_ble_eq_true rfl) slots) hc.2⟩ dE_805 dE_807 dE_808 dE_811 dE_813 dE_818 dE_820 dE_823 dE_824 dE_825 dE_826 dE_828 dE_829 dE_830 dE_835 (by decide) (fun H1 locs1 ls1 Z1 hl1 => ?_)
    refine W.widen (k := cells + 15) (n := slots + 140) (Nat.add_le_add_left (Nat.le_of_ble_eq_true rfl) cells) (Nat.add_le_add_left (Nat.le_of_ble_eq_true rfl) slots) ?_
    exact next H1 locs1 ls1 ⟨ad, adm, _, _, len, codes, gpl, gps, gcl, gwo, o, (k - 1), n, α, σ, 0, mlen, spot, reads, hash, mm, mpast, mtext, mread, rfl, rfl, Z1, hO, HS', TX, hl1⟩
  · have hf7 : fX7_undo thr (nI k) ms mpast = some (0, 1, nI k, ms) := by rw [hk0]; exact zHS.undo0 o n thr ms mpast
    refine W.eq (g2 := F0 m 799 ls [.int 1]) rfl ?_
    refine lv_istore (lv' := [(5, .int 1), (0, .ref b), (1, .ref (ad 0)), (2, .ref (adm 0)), (3, .ref ao), (4, .int i)]) X.x X.b dE_799 hl (Nat.le_of_ble_eq_true rfl) rfl (fun ls hl => ?_)
    refine lv_aload_n X.x X.b dE_801 rfl (lv_at hl 3 rfl) ?_
    refine z_callVP X Z hl (mX7_undo l Δ adm thr (nI k) mlen spot reads hash ms mpast mtext mread  hf7) wd_858 wd_859 wd_860 wd_68 wd_861 ok_X7_undo 7 rfl 0 rfl (List.Perm.refl _) rfl rfl (rest := []) rfl (Nat.le_of_ble_eq_true rfl) ⟨Nat.le_of_ble_eq_true rfl, Nat.le_of_ble_eq_true rfl⟩ ⟨Nat.le_trans (Nat.add_le_add_left (m := 15) (Nat.le_of_ble_eq_true rfl) cells) hc.1, Nat.le_trans (Nat.add_le_add_left (m := 140) (Nat.le_of_ble_eq_true rfl) slots) hc.2⟩ (st1 := [.int 0]) rfl dE_802 (fun H locs Z => ?_)
    refine law_tail Y (kc := 1) Z hl (fun h => absurd h (by decide)) ⟨Nat.le_trans (Nat.add_le_add_left (m := 15) (Nat.le_of_ble_eq_true rfl) cells) hc.1, Nat.le_trans (Nat.add_le_add_left (m := 140) (Nat.le_of_ble_eq_true rfl) slots) hc.2⟩ dE_805 dE_807 dE_808 dE_811 dE_813 dE_818 dE_820 dE_823 dE_824 dE_825 dE_826 dE_828 dE_829 dE_830 dE_835 (by decide) (fun H1 locs1 ls1 Z1 hl1 => ?_)
    refine W.widen (k := cells + 15) (n := slots + 140) (Nat.add_le_add_left (Nat.le_of_ble_eq_true rfl) cells) (Nat.add_le_add_left (Nat.le_of_ble_eq_true rfl) slots) ?_
    exact next H1 locs1 ls1 ⟨ad, adm, out, (reached, lost, size, plots, cliffs, words, needs, told, rea, wread, ltold, lout, sets), len, codes, gpl, gps, gcl, gwo, o, k, n, α, σ, 1, mlen, spot, reads, hash, ms, mpast, mtext, mread, rfl, rfl, Z1, hO0, HS, TX, hl1⟩
set_option maxRecDepth 100000 in
set_option maxHeartbeats 4000000 in
theorem law_part {p : Program} {l : Launch} {e : Env} {s : State} {m : MethodId} {below : List Frame} {meth : Method} {c : Code} {H : Heap} {locs : List Loc} {cells slots : Nat} {Q : State → Prop} {Δ : zE} {b L : Nat} {xs : Nat → Int32} {ls : Array Slot} (hT : l.stackTraces = false) (Y : zY Δ p l s m #[Value.ref b] meth c ⟨"SerialRecapsLaw", meth.name, ""⟩ code 9 (some .boolean) (fun q => s.heap.size ≤ q)) (hX : va_X b L xs s s.heap) (hbl : b < s.heap.size) {a1 a2 ao : Nat} {i : Int32} (hin1 : vp_in (i + 1) L) (hin2 : vp_in (i + 2) L) (hin3 : vp_in (i + 3) L) (I : zInv Δ s b a1 a2 ao i H locs ls) (hc : cells + 15 ≤ 601024 ∧ slots + 140 ≤ 7293034) (next : ∀ (H1 : Heap) (locs1 : List Loc) (ls1 : Array Slot), zInv Δ s b a1 a2 ao i H1 locs1 ls1 → W p l e room_1 s m #[Value.ref b] below meth c H1 locs1 (cells + 15) (slots + 140) Q (F0 m 1469 ls1 [])) : W p l e room_1 s m #[Value.ref b] below meth c H locs cells slots Q (F0 m 838 ls []) := by
  have X := Y.1
  obtain ⟨ad, adm, out, ⟨reached, lost, size, plots, cliffs, words, needs, told, rea, wread, ltold, lout, sets⟩, len, codes, gpl, gps, gcl, gwo, o, k, n, α, σ, thr, mlen, spot, reads, hash, ms, mpast, mtext, mread, rfl, rfl, Z, hO0, HS, TX, hl⟩ := I
  obtain ⟨n', L', c', V⟩ := id hO0
  have V : zV n' L' c' reached lost size plots cliffs words needs told rea wread ltold lout sets ms := V
  have Z : zW Δ (fun q => s.heap.size ≤ q) s.heap (wX7 Δ adm thr (nI k) mlen spot reads hash ms mpast mtext mread ++ ([(ao, .inl (Δ.2.2.2.1, 1, .inr (.inl out)))] ++ (wX6 Δ ad reached lost size plots cliffs words needs told rea wread ltold lout sets (nI o) (nI k) (zRows n α) len codes gpl gps gcl gwo ++ zPool Δ n α σ))) H locs := Z
  obtain ⟨x1, hx1⟩ : ∃ z, xs (i + 1).toNatClampNeg = z := ⟨_, rfl⟩
  obtain ⟨x2, hx2⟩ : ∃ z, xs (i + 2).toNatClampNeg = z := ⟨_, rfl⟩
  obtain ⟨res, v1, v2, hf6, hf7, hE, hin, hex⟩ := (V.s_part  thr x1 x2).go (by decide)
  refine lv_aload_n X.x X.b dE_838 rfl (lv_at hl 1 rfl) ?_
  refine law_arg Y hX hbl Z hl 0 4 rfl rfl (v := 1) (by decide) hx1 hin1 dE_839 dE_840 dE_842 dE_843 dE_844 ?_
  refine law_arg Y hX hbl Z hl 0 4 rfl rfl (v := 2) (by decide) hx2 hin2 dE_845 dE_846 dE_848 dE_849 dE_850 ?_
  refine lv_aload_n X.x X.b dE_851 rfl (lv_at hl 3 rfl) ?_
  refine x_callSX Y Z hl (mL_part l hT Δ ad ao out reached lost size plots cliffs words needs told rea wread ltold lout sets (nI o) (nI k) (zRows n α) len codes gpl gps gcl gwo x1 x2 hf6 hE) wd_748 wd_749 wd_60 wd_750 ok_L_part pL1 rfl (rest := []) rfl (Nat.le_of_ble_eq_true rfl) ⟨Nat.le_of_ble_eq_true rfl, Nat.le_of_ble_eq_true rfl⟩ ⟨Nat.le_trans (Nat.add_le_add_left (m := 15) (Nat.le_of_ble_eq_true rfl) cells) hc.1, Nat.le_trans (Nat.add_le_add_left (m := 140) (Nat.le_of_ble_eq_true rfl) slots) hc.2⟩ dE_852 (fun _ _ h => h) (fun rv w1 H locs hP Z => ?_)
  rcases hP with ⟨r, hr, rfl, rfl⟩ | ⟨E, hr, rfl, rfl⟩
  · have Z := Z.perm pL2
    obtain ⟨rfl, rfl⟩ := hin r hr
    refine W.eq (g2 := F0 m 855 ls [.int 0]) rfl ?_
    refine lv_istore (lv' := [(5, .int 0), (0, .ref b), (1, .ref (ad 0)), (2, .ref (adm 0)), (3, .ref ao), (4, .int i)]) X.x X.b dE_855 hl (Nat.le_of_ble_eq_true rfl) rfl (fun ls hl => ?_)
    refine lv_aload_n X.x X.b dE_857 rfl (lv_at hl 3 rfl) ?_
    refine law_arg Y hX hbl Z hl 1 5 rfl rfl (v := 1) (by decide) hx1 hin1 dE_858 dE_859 dE_861 dE_862 dE_863 ?_
    refine law_arg Y hX hbl Z hl 1 5 rfl rfl (v := 2) (by decide) hx2 hin2 dE_864 dE_865 dE_867 dE_868 dE_869 ?_
    refine z_callVP X Z hl (mX7_part l Δ adm thr (nI k) mlen spot reads hash ms mpast mtext mread x1 x2 hf7) wd_1014 wd_1015 wd_1016 wd_68 wd_1017 ok_X7_part 7 rfl 0 rfl (List.Perm.refl _) rfl rfl (rest := []) rfl (Nat.le_of_ble_eq_true rfl) ⟨Nat.le_of_ble_eq_true rfl, Nat.le_of_ble_eq_true rfl⟩ ⟨Nat.le_trans (Nat.add_le_add_left (m := 15) (Nat.le_of_ble_eq_true rfl) cells) hc.1, Nat.le_trans (Nat.add_le_add_left (m := 140) (Nat.le_of_ble_eq_true rfl) slots) hc.2⟩ (st1 := [.int v1]) rfl dE_870 (fun H locs Z => ?_)
    refine law_tail Y (kc := 0) Z hl (fun _ => if_pos rfl) ⟨Nat.le_trans (Nat.add_le_add_left (m := 15) (Nat.le_of_ble_eq_true rfl) cells) hc.1, Nat.le_trans (Nat.add_le_add_left (m := 140) (Nat.le_of_ble_eq_true rfl) slots) hc.2⟩ dE_873 dE_875 dE_876 dE_879 dE_881 dE_886 dE_888 dE_891 dE_892 dE_893 dE_894 dE_896 dE_897 dE_898 dE_903 (by decide) (fun H1 locs1 ls1 Z1 hl1 => ?_)
    refine W.widen (k := cells + 15) (n := slots + 140) (Nat.add_le_add_left (Nat.le_of_ble_eq_true rfl) cells) (Nat.add_le_add_left (Nat.le_of_ble_eq_true rfl) slots) ?_
    exact next H1 locs1 ls1 ⟨ad, adm, _, (reached, lost, size, plots, cliffs, words, needs, told, rea, wread, ltold, lout, sets), len, codes, gpl, gps, gcl, gwo, o, k, n, α, σ, 0, mlen, spot, reads, hash, ms, mpast, mtext, mread, rfl, rfl, Z1, hO0, HS, TX, hl1⟩
  · have Z := Z.perm pL2
    obtain rfl := hex E hr
    refine W.eq (g2 := F0 m 855 ls [.int (if E = "java/lang/IndexOutOfBoundsException" then 1 else 2)]) rfl ?_
    refine lv_istore (lv' := [(5, .int (if E = "java/lang/IndexOutOfBoundsException" then 1 else 2)), (0, .ref b), (1, .ref (ad 0)), (2, .ref (adm 0)), (3, .ref ao), (4, .int i)]) X.x X.b dE_855 hl (Nat.le_of_ble_eq_true rfl) rfl (fun ls hl => ?_)
    refine lv_aload_n X.x X.b dE_857 rfl (lv_at hl 3 rfl) ?_
    refine law_arg Y hX hbl Z hl 1 5 rfl rfl (v := 1) (by decide) hx1 hin1 dE_858 dE_859 dE_861 dE_862 dE_863 ?_
    refine law_arg Y hX hbl Z hl 1 5 rfl rfl (v := 2) (by decide) hx2 hin2 dE_864 dE_865 dE_867 dE_868 dE_869 ?_
    refine z_callVP X Z hl (mX7_part l Δ adm thr (nI k) mlen spot reads hash ms mpast mtext mread x1 x2 hf7) wd_1014 wd_1015 wd_1016 wd_68 wd_1017 ok_X7_part 7 rfl 0 rfl (List.Perm.refl _) rfl rfl (rest := []) rfl (Nat.le_of_ble_eq_true rfl) ⟨Nat.le_of_ble_eq_true rfl, Nat.le_of_ble_eq_true rfl⟩ ⟨Nat.le_trans (Nat.add_le_add_left (m := 15) (Nat.le_of_ble_eq_true rfl) cells) hc.1, Nat.le_trans (Nat.add_le_add_left (m := 140) (Nat.le_of_ble_eq_true rfl) slots) hc.2⟩ (st1 := [.int v1]) rfl dE_870 (fun H locs Z => ?_)
    refine law_tail Y (kc := (if E = "java/lang/IndexOutOfBoundsException" then 1 else 2)) Z hl (fun h => absurd h zif12) ⟨Nat.le_trans (Nat.add_le_add_left (m := 15) (Nat.le_of_ble_eq_true rfl) cells) hc.1, Nat.le_trans (Nat.add_le_add_left (m := 140) (Nat.le_of_ble_eq_true rfl) slots) hc.2⟩ dE_873 dE_875 dE_876 dE_879 dE_881 dE_886 dE_888 dE_891 dE_892 dE_893 dE_894 dE_896 dE_897 dE_898 dE_903 (by decide) (fun H1 locs1 ls1 Z1 hl1 => ?_)
    refine W.widen (k := cells + 15) (n := slots + 140) (Nat.add_le_add_left (Nat.le_of_ble_eq_true rfl) cells) (Nat.add_le_add_left (Nat.le_of_ble_eq_true rfl) slots) ?_
    exact next H1 locs1 ls1 ⟨ad, adm, out, (reached, lost, size, plots, cliffs, words, needs, told, rea, wread, ltold, lout, sets), len, codes, gpl, gps, gcl, gwo, o, k, n, α, σ, _, mlen, spot, reads, hash, ms, mpast, mtext, mread, rfl, rfl, Z1, hO0, HS, TX, hl1⟩
set_option maxRecDepth 100000 in
set_option maxHeartbeats 4000000 in
theorem law_knows {p : Program} {l : Launch} {e : Env} {s : State} {m : MethodId} {below : List Frame} {meth : Method} {c : Code} {H : Heap} {locs : List Loc} {cells slots : Nat} {Q : State → Prop} {Δ : zE} {b L : Nat} {xs : Nat → Int32} {ls : Array Slot} (hT : l.stackTraces = false) (Y : zY Δ p l s m #[Value.ref b] meth c ⟨"SerialRecapsLaw", meth.name, ""⟩ code 9 (some .boolean) (fun q => s.heap.size ≤ q)) (hX : va_X b L xs s s.heap) (hbl : b < s.heap.size) {a1 a2 ao : Nat} {i : Int32} (hin1 : vp_in (i + 1) L) (hin2 : vp_in (i + 2) L) (hin3 : vp_in (i + 3) L) (I : zInv Δ s b a1 a2 ao i H locs ls) (hc : cells + 15 ≤ 601024 ∧ slots + 140 ≤ 7293034) (next : ∀ (H1 : Heap) (locs1 : List Loc) (ls1 : Array Slot), zInv Δ s b a1 a2 ao i H1 locs1 ls1 → W p l e room_1 s m #[Value.ref b] below meth c H1 locs1 (cells + 15) (slots + 140) Q (F0 m 1469 ls1 [])) : W p l e room_1 s m #[Value.ref b] below meth c H locs cells slots Q (F0 m 906 ls []) := by
  have X := Y.1
  obtain ⟨ad, adm, out, ⟨reached, lost, size, plots, cliffs, words, needs, told, rea, wread, ltold, lout, sets⟩, len, codes, gpl, gps, gcl, gwo, o, k, n, α, σ, thr, mlen, spot, reads, hash, ms, mpast, mtext, mread, rfl, rfl, Z, hO0, HS, TX, hl⟩ := I
  obtain ⟨n', L', c', V⟩ := id hO0
  have V : zV n' L' c' reached lost size plots cliffs words needs told rea wread ltold lout sets ms := V
  have Z : zW Δ (fun q => s.heap.size ≤ q) s.heap (wX7 Δ adm thr (nI k) mlen spot reads hash ms mpast mtext mread ++ ([(ao, .inl (Δ.2.2.2.1, 1, .inr (.inl out)))] ++ (wX6 Δ ad reached lost size plots cliffs words needs told rea wread ltold lout sets (nI o) (nI k) (zRows n α) len codes gpl gps gcl gwo ++ zPool Δ n α σ))) H locs := Z
  obtain ⟨x1, hx1⟩ : ∃ z, xs (i + 1).toNatClampNeg = z := ⟨_, rfl⟩
  obtain ⟨x2, hx2⟩ : ∃ z, xs (i + 2).toNatClampNeg = z := ⟨_, rfl⟩
  obtain ⟨res, v1, v2, hf6, hf7, hE, hin, hex⟩ := (V.s_knows  thr x1 x2).go
  refine lv_aload_n X.x X.b dE_906 rfl (lv_at hl 1 rfl) ?_
  refine law_arg Y hX hbl Z hl 0 4 rfl rfl (v := 1) (by decide) hx1 hin1 dE_907 dE_908 dE_910 dE_911 dE_912 ?_
  refine law_arg Y hX hbl Z hl 0 4 rfl rfl (v := 2) (by decide) hx2 hin2 dE_913 dE_914 dE_916 dE_917 dE_918 ?_
  refine lv_aload_n X.x X.b dE_919 rfl (lv_at hl 3 rfl) ?_
  refine x_callSX Y Z hl (mL_knows l hT Δ ad ao out reached lost size plots cliffs words needs told rea wread ltold lout sets (nI o) (nI k) (zRows n α) len codes gpl gps gcl gwo x1 x2 hf6 hE) wd_759 wd_760 wd_60 wd_761 ok_L_knows pL1 rfl (rest := []) rfl (Nat.le_of_ble_eq_true rfl) ⟨Nat.le_of_ble_eq_true rfl, Nat.le_of_ble_eq_true rfl⟩ ⟨Nat.le_trans (Nat.add_le_add_left (m := 15) (Nat.le_of_ble_eq_true rfl) cells) hc.1, Nat.le_trans (Nat.add_le_add_left (m := 140) (Nat.le_of_ble_eq_true rfl) slots) hc.2⟩ dE_920 (fun _ _ h => h) (fun rv w1 H locs hP Z => ?_)
  rcases hP with ⟨r, hr, rfl, rfl⟩ | ⟨E, hr, rfl, rfl⟩
  · have Z := Z.perm pL2
    obtain ⟨rfl, rfl⟩ := hin r hr
    refine W.eq (g2 := F0 m 923 ls [.int 0]) rfl ?_
    refine lv_istore (lv' := [(5, .int 0), (0, .ref b), (1, .ref (ad 0)), (2, .ref (adm 0)), (3, .ref ao), (4, .int i)]) X.x X.b dE_923 hl (Nat.le_of_ble_eq_true rfl) rfl (fun ls hl => ?_)
    refine lv_aload_n X.x X.b dE_925 rfl (lv_at hl 3 rfl) ?_
    refine law_arg Y hX hbl Z hl 1 5 rfl rfl (v := 1) (by decide) hx1 hin1 dE_926 dE_927 dE_929 dE_930 dE_931 ?_
    refine law_arg Y hX hbl Z hl 1 5 rfl rfl (v := 2) (by decide) hx2 hin2 dE_932 dE_933 dE_935 dE_936 dE_937 ?_
    refine z_callVP X Z hl (mX7_knows l Δ adm thr (nI k) mlen spot reads hash ms mpast mtext mread x1 x2 hf7) wd_1026 wd_1027 wd_1028 wd_68 wd_1029 ok_X7_knows 7 rfl 0 rfl (List.Perm.refl _) rfl rfl (rest := []) rfl (Nat.le_of_ble_eq_true rfl) ⟨Nat.le_of_ble_eq_true rfl, Nat.le_of_ble_eq_true rfl⟩ ⟨Nat.le_trans (Nat.add_le_add_left (m := 15) (Nat.le_of_ble_eq_true rfl) cells) hc.1, Nat.le_trans (Nat.add_le_add_left (m := 140) (Nat.le_of_ble_eq_true rfl) slots) hc.2⟩ (st1 := [.int v1]) rfl dE_938 (fun H locs Z => ?_)
    refine law_tail Y (kc := 0) Z hl (fun _ => if_pos rfl) ⟨Nat.le_trans (Nat.add_le_add_left (m := 15) (Nat.le_of_ble_eq_true rfl) cells) hc.1, Nat.le_trans (Nat.add_le_add_left (m := 140) (Nat.le_of_ble_eq_true rfl) slots) hc.2⟩ dE_941 dE_943 dE_944 dE_947 dE_949 dE_954 dE_956 dE_959 dE_960 dE_961 dE_962 dE_964 dE_965 dE_966 dE_971 (by decide) (fun H1 locs1 ls1 Z1 hl1 => ?_)
    refine W.widen (k := cells + 15) (n := slots + 140) (Nat.add_le_add_left (Nat.le_of_ble_eq_true rfl) cells) (Nat.add_le_add_left (Nat.le_of_ble_eq_true rfl) slots) ?_
    exact next H1 locs1 ls1 ⟨ad, adm, _, (reached, lost, size, plots, cliffs, words, needs, told, rea, wread, ltold, lout, sets), len, codes, gpl, gps, gcl, gwo, o, k, n, α, σ, 0, mlen, spot, reads, hash, ms, mpast, mtext, mread, rfl, rfl, Z1, hO0, HS, TX, hl1⟩
  · have Z := Z.perm pL2
    obtain rfl := hex E hr
    refine W.eq (g2 := F0 m 923 ls [.int 1]) rfl ?_
    refine lv_istore (lv' := [(5, .int 1), (0, .ref b), (1, .ref (ad 0)), (2, .ref (adm 0)), (3, .ref ao), (4, .int i)]) X.x X.b dE_923 hl (Nat.le_of_ble_eq_true rfl) rfl (fun ls hl => ?_)
    refine lv_aload_n X.x X.b dE_925 rfl (lv_at hl 3 rfl) ?_
    refine law_arg Y hX hbl Z hl 1 5 rfl rfl (v := 1) (by decide) hx1 hin1 dE_926 dE_927 dE_929 dE_930 dE_931 ?_
    refine law_arg Y hX hbl Z hl 1 5 rfl rfl (v := 2) (by decide) hx2 hin2 dE_932 dE_933 dE_935 dE_936 dE_937 ?_
    refine z_callVP X Z hl (mX7_knows l Δ adm thr (nI k) mlen spot reads hash ms mpast mtext mread x1 x2 hf7) wd_1026 wd_1027 wd_1028 wd_68 wd_1029 ok_X7_knows 7 rfl 0 rfl (List.Perm.refl _) rfl rfl (rest := []) rfl (Nat.le_of_ble_eq_true rfl) ⟨Nat.le_of_ble_eq_true rfl, Nat.le_of_ble_eq_true rfl⟩ ⟨Nat.le_trans (Nat.add_le_add_left (m := 15) (Nat.le_of_ble_eq_true rfl) cells) hc.1, Nat.le_trans (Nat.add_le_add_left (m := 140) (Nat.le_of_ble_eq_true rfl) slots) hc.2⟩ (st1 := [.int v1]) rfl dE_938 (fun H locs Z => ?_)
    refine law_tail Y (kc := 1) Z hl (fun h => absurd h (by decide)) ⟨Nat.le_trans (Nat.add_le_add_left (m := 15) (Nat.le_of_ble_eq_true rfl) cells) hc.1, Nat.le_trans (Nat.add_le_add_left (m := 140) (Nat.le_of_ble_eq_true rfl) slots) hc.2⟩ dE_941 dE_943 dE_944 dE_947 dE_949 dE_954 dE_956 dE_959 dE_960 dE_961 dE_962 dE_964 dE_965 dE_966 dE_971 (by decide) (fun H1 locs1 ls1 Z1 hl1 => ?_)
    refine W.widen (k := cells + 15) (n := slots + 140) (Nat.add_le_add_left (Nat.le_of_ble_eq_true rfl) cells) (Nat.add_le_add_left (Nat.le_of_ble_eq_true rfl) slots) ?_
    exact next H1 locs1 ls1 ⟨ad, adm, out, (reached, lost, size, plots, cliffs, words, needs, told, rea, wread, ltold, lout, sets), len, codes, gpl, gps, gcl, gwo, o, k, n, α, σ, _, mlen, spot, reads, hash, ms, mpast, mtext, mread, rfl, rfl, Z1, hO0, HS, TX, hl1⟩
set_option maxRecDepth 100000 in
set_option maxHeartbeats 4000000 in
theorem law_reader {p : Program} {l : Launch} {e : Env} {s : State} {m : MethodId} {below : List Frame} {meth : Method} {c : Code} {H : Heap} {locs : List Loc} {cells slots : Nat} {Q : State → Prop} {Δ : zE} {b L : Nat} {xs : Nat → Int32} {ls : Array Slot} (hT : l.stackTraces = false) (Y : zY Δ p l s m #[Value.ref b] meth c ⟨"SerialRecapsLaw", meth.name, ""⟩ code 9 (some .boolean) (fun q => s.heap.size ≤ q)) (hX : va_X b L xs s s.heap) (hbl : b < s.heap.size) {a1 a2 ao : Nat} {i : Int32} (hin1 : vp_in (i + 1) L) (hin2 : vp_in (i + 2) L) (hin3 : vp_in (i + 3) L) (I : zInv Δ s b a1 a2 ao i H locs ls) (hc : cells + 15 ≤ 601024 ∧ slots + 140 ≤ 7293034) (next : ∀ (H1 : Heap) (locs1 : List Loc) (ls1 : Array Slot), zInv Δ s b a1 a2 ao i H1 locs1 ls1 → W p l e room_1 s m #[Value.ref b] below meth c H1 locs1 (cells + 15) (slots + 140) Q (F0 m 1469 ls1 [])) : W p l e room_1 s m #[Value.ref b] below meth c H locs cells slots Q (F0 m 974 ls []) := by
  have X := Y.1
  obtain ⟨ad, adm, out, ⟨reached, lost, size, plots, cliffs, words, needs, told, rea, wread, ltold, lout, sets⟩, len, codes, gpl, gps, gcl, gwo, o, k, n, α, σ, thr, mlen, spot, reads, hash, ms, mpast, mtext, mread, rfl, rfl, Z, hO0, HS, TX, hl⟩ := I
  obtain ⟨n', L', c', V⟩ := id hO0
  have V : zV n' L' c' reached lost size plots cliffs words needs told rea wread ltold lout sets ms := V
  have Z : zW Δ (fun q => s.heap.size ≤ q) s.heap (wX7 Δ adm thr (nI k) mlen spot reads hash ms mpast mtext mread ++ ([(ao, .inl (Δ.2.2.2.1, 1, .inr (.inl out)))] ++ (wX6 Δ ad reached lost size plots cliffs words needs told rea wread ltold lout sets (nI o) (nI k) (zRows n α) len codes gpl gps gcl gwo ++ zPool Δ n α σ))) H locs := Z
  obtain ⟨x1, hx1⟩ : ∃ z, xs (i + 1).toNatClampNeg = z := ⟨_, rfl⟩
  obtain ⟨x2, hx2⟩ : ∃ z, xs (i + 2).toNatClampNeg = z := ⟨_, rfl⟩
  obtain ⟨res, v1, v2, hf6, hf7, hE, hin, hex⟩ := (V.s_reader  thr x1 x2).go (by decide)
  refine lv_aload_n X.x X.b dE_974 rfl (lv_at hl 1 rfl) ?_
  refine law_arg Y hX hbl Z hl 0 4 rfl rfl (v := 1) (by decide) hx1 hin1 dE_975 dE_976 dE_978 dE_979 dE_980 ?_
  refine law_arg Y hX hbl Z hl 0 4 rfl rfl (v := 2) (by decide) hx2 hin2 dE_981 dE_982 dE_984 dE_985 dE_986 ?_
  refine lv_aload_n X.x X.b dE_987 rfl (lv_at hl 3 rfl) ?_
  refine x_callSX Y Z hl (mL_reader l hT Δ ad ao out reached lost size plots cliffs words needs told rea wread ltold lout sets (nI o) (nI k) (zRows n α) len codes gpl gps gcl gwo x1 x2 hf6 hE) wd_766 wd_767 wd_60 wd_768 ok_L_reader pL1 rfl (rest := []) rfl (Nat.le_of_ble_eq_true rfl) ⟨Nat.le_of_ble_eq_true rfl, Nat.le_of_ble_eq_true rfl⟩ ⟨Nat.le_trans (Nat.add_le_add_left (m := 15) (Nat.le_of_ble_eq_true rfl) cells) hc.1, Nat.le_trans (Nat.add_le_add_left (m := 140) (Nat.le_of_ble_eq_true rfl) slots) hc.2⟩ dE_988 (fun _ _ h => h) (fun rv w1 H locs hP Z => ?_)
  rcases hP with ⟨r, hr, rfl, rfl⟩ | ⟨E, hr, rfl, rfl⟩
  · have Z := Z.perm pL2
    obtain ⟨rfl, rfl⟩ := hin r hr
    refine W.eq (g2 := F0 m 991 ls [.int 0]) rfl ?_
    refine lv_istore (lv' := [(5, .int 0), (0, .ref b), (1, .ref (ad 0)), (2, .ref (adm 0)), (3, .ref ao), (4, .int i)]) X.x X.b dE_991 hl (Nat.le_of_ble_eq_true rfl) rfl (fun ls hl => ?_)
    refine lv_aload_n X.x X.b dE_993 rfl (lv_at hl 3 rfl) ?_
    refine law_arg Y hX hbl Z hl 1 5 rfl rfl (v := 1) (by decide) hx1 hin1 dE_994 dE_995 dE_997 dE_998 dE_999 ?_
    refine law_arg Y hX hbl Z hl 1 5 rfl rfl (v := 2) (by decide) hx2 hin2 dE_1000 dE_1001 dE_1003 dE_1004 dE_1005 ?_
    refine z_callVP X Z hl (mX7_reader l Δ adm thr (nI k) mlen spot reads hash ms mpast mtext mread x1 x2 hf7) wd_1030 wd_1031 wd_1032 wd_68 wd_1033 ok_X7_reader 7 rfl 0 rfl (List.Perm.refl _) rfl rfl (rest := []) rfl (Nat.le_of_ble_eq_true rfl) ⟨Nat.le_of_ble_eq_true rfl, Nat.le_of_ble_eq_true rfl⟩ ⟨Nat.le_trans (Nat.add_le_add_left (m := 15) (Nat.le_of_ble_eq_true rfl) cells) hc.1, Nat.le_trans (Nat.add_le_add_left (m := 140) (Nat.le_of_ble_eq_true rfl) slots) hc.2⟩ (st1 := [.int v1]) rfl dE_1006 (fun H locs Z => ?_)
    refine law_tail Y (kc := 0) Z hl (fun _ => if_pos rfl) ⟨Nat.le_trans (Nat.add_le_add_left (m := 15) (Nat.le_of_ble_eq_true rfl) cells) hc.1, Nat.le_trans (Nat.add_le_add_left (m := 140) (Nat.le_of_ble_eq_true rfl) slots) hc.2⟩ dE_1009 dE_1011 dE_1012 dE_1015 dE_1017 dE_1022 dE_1024 dE_1027 dE_1028 dE_1029 dE_1030 dE_1032 dE_1033 dE_1034 dE_1039 (by decide) (fun H1 locs1 ls1 Z1 hl1 => ?_)
    refine W.widen (k := cells + 15) (n := slots + 140) (Nat.add_le_add_left (Nat.le_of_ble_eq_true rfl) cells) (Nat.add_le_add_left (Nat.le_of_ble_eq_true rfl) slots) ?_
    exact next H1 locs1 ls1 ⟨ad, adm, _, (reached, lost, size, plots, cliffs, words, needs, told, rea, wread, ltold, lout, sets), len, codes, gpl, gps, gcl, gwo, o, k, n, α, σ, 0, mlen, spot, reads, hash, ms, mpast, mtext, mread, rfl, rfl, Z1, hO0, HS, TX, hl1⟩
  · have Z := Z.perm pL2
    obtain rfl := hex E hr
    refine W.eq (g2 := F0 m 991 ls [.int (if E = "java/lang/IndexOutOfBoundsException" then 1 else 2)]) rfl ?_
    refine lv_istore (lv' := [(5, .int (if E = "java/lang/IndexOutOfBoundsException" then 1 else 2)), (0, .ref b), (1, .ref (ad 0)), (2, .ref (adm 0)), (3, .ref ao), (4, .int i)]) X.x X.b dE_991 hl (Nat.le_of_ble_eq_true rfl) rfl (fun ls hl => ?_)
    refine lv_aload_n X.x X.b dE_993 rfl (lv_at hl 3 rfl) ?_
    refine law_arg Y hX hbl Z hl 1 5 rfl rfl (v := 1) (by decide) hx1 hin1 dE_994 dE_995 dE_997 dE_998 dE_999 ?_
    refine law_arg Y hX hbl Z hl 1 5 rfl rfl (v := 2) (by decide) hx2 hin2 dE_1000 dE_1001 dE_1003 dE_1004 dE_1005 ?_
    refine z_callVP X Z hl (mX7_reader l Δ adm thr (nI k) mlen spot reads hash ms mpast mtext mread x1 x2 hf7) wd_1030 wd_1031 wd_1032 wd_68 wd_1033 ok_X7_reader 7 rfl 0 rfl (List.Perm.refl _) rfl rfl (rest := []) rfl (Nat.le_of_ble_eq_true rfl) ⟨Nat.le_of_ble_eq_true rfl, Nat.le_of_ble_eq_true rfl⟩ ⟨Nat.le_trans (Nat.add_le_add_left (m := 15) (Nat.le_of_ble_eq_true rfl) cells) hc.1, Nat.le_trans (Nat.add_le_add_left (m := 140) (Nat.le_of_ble_eq_true rfl) slots) hc.2⟩ (st1 := [.int v1]) rfl dE_1006 (fun H locs Z => ?_)
    refine law_tail Y (kc := (if E = "java/lang/IndexOutOfBoundsException" then 1 else 2)) Z hl (fun h => absurd h zif12) ⟨Nat.le_trans (Nat.add_le_add_left (m := 15) (Nat.le_of_ble_eq_true rfl) cells) hc.1, Nat.le_trans (Nat.add_le_add_left (m := 140) (Nat.le_of_ble_eq_true rfl) slots) hc.2⟩ dE_1009 dE_1011 dE_1012 dE_1015 dE_1017 dE_1022 dE_1024 dE_1027 dE_1028 dE_1029 dE_1030 dE_1032 dE_1033 dE_1034 dE_1039 (by decide) (fun H1 locs1 ls1 Z1 hl1 => ?_)
    refine W.widen (k := cells + 15) (n := slots + 140) (Nat.add_le_add_left (Nat.le_of_ble_eq_true rfl) cells) (Nat.add_le_add_left (Nat.le_of_ble_eq_true rfl) slots) ?_
    exact next H1 locs1 ls1 ⟨ad, adm, out, (reached, lost, size, plots, cliffs, words, needs, told, rea, wread, ltold, lout, sets), len, codes, gpl, gps, gcl, gwo, o, k, n, α, σ, _, mlen, spot, reads, hash, ms, mpast, mtext, mread, rfl, rfl, Z1, hO0, HS, TX, hl1⟩
