/-! THE LAW: its loop -/
theorem z_and31 (x : Int32) : ∃ q, q < 32 ∧ x &&& 31 = nI q := by
  have h : zu (x &&& 31) ≤ 31 := by
    rw [zu_and]
    exact Nat.and_le_right
  exact ⟨zu (x &&& 31), by omega, zu_inj (by rw [zu_nI (zu_lt _)])⟩
theorem lw_more {L i : Nat} (hL : L ≤ 2048) (hi : i ≤ 2052) : (nI L - 4 < nI i ↔ ¬ i + 4 ≤ L) := by
  by_cases h4 : L < 4
  · have hneg : nI L - 4 < 0 := by
      have : L = 0 ∨ L = 1 ∨ L = 2 ∨ L = 3 := by omega
      rcases this with h | h | h | h <;> rw [h] <;> decide
    exact ⟨fun _ => by omega, fun _ => Int32.lt_of_lt_of_le hneg (nI_pos' (by omega))⟩
  · obtain ⟨K, rfl⟩ : ∃ K, L = K + 4 := ⟨L - 4, by omega⟩
    have e : nI (K + 4) - 4 = nI K := by
      have h1 : nI (K + 4) = nI K + 4 := (nI_add K 4).symm
      rw [h1, Int32.add_sub_cancel]
    rw [e, nI_ltI (by omega) (by omega)]
    omega
set_option maxRecDepth 100000 in
set_option maxHeartbeats 4000000 in
theorem law_loop {p : Program} {l : Launch} {e : Env} {s : State} {m : MethodId} {below : List Frame} {meth : Method} {c : Code} {Q : State → Prop} {Δ : zE} {b L : Nat} {xs : Nat → Int32} (hT : l.stackTraces = false) (Y : zY Δ p l s m #[Value.ref b] meth c ⟨"SerialRecapsLaw", meth.name, ""⟩ code 9 (some .boolean) (fun q => s.heap.size ≤ q)) (hX : va_X b L xs s s.heap) (hbl : b < s.heap.size) (hL : L ≤ 2048) (hend : ∀ (H : Heap) (ls : Array Slot), W p l e room_1 s m #[Value.ref b] below meth c H [] 601024 7293034 Q (F0 m 1476 ls [.int 1])) : ∀ (d j cells slots : Nat) (H : Heap) (locs : List Loc) (ls : Array Slot) (a1 a2 ao : Nat), j + d = 513 → cells + 15 * d ≤ 601024 → slots + 140 * d ≤ 7293034 → zInv Δ s b a1 a2 ao (nI (4 * j)) H locs ls → W p l e room_1 s m #[Value.ref b] below meth c H locs cells slots Q (F0 m 23 ls []) := by
  intro d
  induction d with
  | zero =>
    intro j cells slots H locs ls a1 a2 ao hj hc hs I
    have X := Y.1
    obtain ⟨ad, adm, out, x, len, codes, gpl, gps, gcl, gwo, o, k, n, α, σ, thr, mlen, spot, reads, hash, ms, mpast, mtext, mread, -, -, Z, -, -, -, hl⟩ := id I
    refine lv_iload X.x X.b dE_23 (lv_at hl 4 rfl) ?_
    refine lv_aload_n X.x X.b dE_25 rfl (lv_at hl 0 rfl) ?_
    refine va_slen X.x X.b hX hbl (Nat.not_le.mpr hbl) Z.2.2 dE_26 ?_
    refine lv_iconst (v := 4) X.x X.b dE_27 (by decide) ?_
    refine lv_isub X.x X.b dE_28 ?_
    refine lv_icmp_gt (tgt := 1475) X.x X.b dE_29 (by decide) (fun _ => ?_) (fun h => absurd ((lw_more (L := L) (i := 4 * j) hL (by omega)).mpr (by omega)) h)
    refine lv_iconst (v := 1) X.x X.b dE_1475 (by decide) ?_
    refine va_forget (fun q hq => Z.2.2.2.2 q hq) ?_
    refine W.widen (k := 601024) (n := 7293034) (by omega) (by omega) ?_
    exact hend H ls
  | succ d ih =>
    intro j cells slots H locs ls a1 a2 ao hj hc hs I
    have X := Y.1
    obtain ⟨ad, adm, out, x, len, codes, gpl, gps, gcl, gwo, o, k, n, α, σ, thr, mlen, spot, reads, hash, ms, mpast, mtext, mread, -, -, Z, -, -, -, hl⟩ := id I
    refine lv_iload X.x X.b dE_23 (lv_at hl 4 rfl) ?_
    refine lv_aload_n X.x X.b dE_25 rfl (lv_at hl 0 rfl) ?_
    refine va_slen X.x X.b hX hbl (Nat.not_le.mpr hbl) Z.2.2 dE_26 ?_
    refine lv_iconst (v := 4) X.x X.b dE_27 (by decide) ?_
    refine lv_isub X.x X.b dE_28 ?_
    refine lv_icmp_gt (tgt := 1475) X.x X.b dE_29 (by decide) (fun _ => ?_) (fun hm => ?_)
    · refine lv_iconst (v := 1) X.x X.b dE_1475 (by decide) ?_
      refine va_forget (fun q hq => Z.2.2.2.2 q hq) ?_
      refine W.widen (k := 601024) (n := 7293034) (by omega) (by omega) ?_
      exact hend H ls
    · have hmore : 4 * j + 4 ≤ L := by
        rcases Nat.lt_or_ge (4 * j + 3) L with h | h
        · omega
        · exact absurd ((lw_more (L := L) (i := 4 * j) hL (by omega)).mpr (by omega)) hm
      have hin0 : vp_in (nI (4 * j)) L := vp_in_nI (by omega) (by omega)
      have hin1 : vp_in (nI (4 * j) + 1) L := by
        rw [nI_1]
        exact vp_in_nI (by omega) (by omega)
      have hin2 : vp_in (nI (4 * j) + 2) L := by
        rw [show nI (4 * j) + 2 = nI (4 * j + 2) from nI_add (4 * j) 2]
        exact vp_in_nI (by omega) (by omega)
      have hin3 : vp_in (nI (4 * j) + 3) L := by
        rw [show nI (4 * j) + 3 = nI (4 * j + 3) from nI_add (4 * j) 3]
        exact vp_in_nI (by omega) (by omega)
      have hc15 : cells + 15 ≤ 601024 ∧ slots + 140 ≤ 7293034 := ⟨by omega, by omega⟩
      have next : ∀ (H1 : Heap) (locs1 : List Loc) (ls1 : Array Slot), zInv Δ s b a1 a2 ao (nI (4 * j)) H1 locs1 ls1 → W p l e room_1 s m #[Value.ref b] below meth c H1 locs1 (cells + 15) (slots + 140) Q (F0 m 1469 ls1 []) := by
        intro H1 locs1 ls1 I1
        obtain ⟨ad, adm, out, x, len, codes, gpl, gps, gcl, gwo, o, k, n, α, σ, thr, mlen, spot, reads, hash, ms, mpast, mtext, mread, g1, g2, Z1, g3, g4, g5, hl1⟩ := I1
        refine lv_iinc (v := nI (4 * (j + 1))) (lv' := [(4, .int (nI (4 * (j + 1)))), (0, .ref b), (1, .ref a1), (2, .ref a2), (3, .ref ao)]) X.x X.b dE_1469 hl1 (k := 4) rfl (nI_add (4 * j) 4) (Nat.le_of_ble_eq_true rfl) rfl (fun ls2 hl2 => ?_)
        refine lv_goto (tgt := 23) X.x X.b dE_1472 (by decide) ?_
        exact ih (j + 1) (cells + 15) (slots + 140) H1 locs1 ls2 a1 a2 ao (by omega) (by omega) (by omega) ⟨ad, adm, out, x, len, codes, gpl, gps, gcl, gwo, o, k, n, α, σ, thr, mlen, spot, reads, hash, ms, mpast, mtext, mread, g1, g2, Z1, g3, g4, g5, lv_sub hl2 [1, 2, 3, 4, 0] rfl⟩
      refine lv_aload_n X.x X.b dE_32 rfl (lv_at hl 0 rfl) ?_
      refine lv_iload X.x X.b dE_33 (lv_at hl 4 rfl) ?_
      refine va_sld X.x X.b hX hbl (Nat.not_le.mpr hbl) Z.2.2 hin0 dE_35 ?_
      refine lv_bipush (v := 31) X.x X.b dE_36 (by decide) ?_
      refine lv_iand X.x X.b dE_38 ?_
      obtain ⟨q, hq, hqe⟩ := z_and31 (xs (nI (4 * j)).toNatClampNeg)
      rw [hqe]
      by_cases h0 : q = 0
      · subst h0
        refine lv_tableIn (off := 109) (tgt := 148) X.x X.b dE_39 (by decide) (by decide) (by decide) (by decide) ?_
        exact law_add hT Y hX hbl hin1 hin2 hin3 I hc15 next
      by_cases h1 : q = 1
      · subst h1
        refine lv_tableIn (off := 189) (tgt := 228) X.x X.b dE_39 (by decide) (by decide) (by decide) (by decide) ?_
        exact law_change hT Y hX hbl hin1 hin2 hin3 I hc15 next
      by_cases h2 : q = 2
      · subst h2
        refine lv_tableIn (off := 269) (tgt := 308) X.x X.b dE_39 (by decide) (by decide) (by decide) (by decide) ?_
        exact law_removeLast hT Y hX hbl hin1 hin2 hin3 I hc15 next
      by_cases h3 : q = 3
      · subst h3
        refine lv_tableIn (off := 313) (tgt := 352) X.x X.b dE_39 (by decide) (by decide) (by decide) (by decide) ?_
        exact law_set hT Y hX hbl hin1 hin2 hin3 I hc15 next
      by_cases h4 : q = 4
      · subst h4
        refine lv_tableIn (off := 381) (tgt := 420) X.x X.b dE_39 (by decide) (by decide) (by decide) (by decide) ?_
        exact law_mail hT Y hX hbl hin1 hin2 hin3 I hc15 next
      by_cases h5 : q = 5
      · subst h5
        refine lv_tableIn (off := 449) (tgt := 488) X.x X.b dE_39 (by decide) (by decide) (by decide) (by decide) ?_
        exact law_mailAll hT Y hX hbl hin1 hin2 hin3 I hc15 next
      by_cases h6 : q = 6
      · subst h6
        refine lv_tableIn (off := 517) (tgt := 556) X.x X.b dE_39 (by decide) (by decide) (by decide) (by decide) ?_
        exact law_forget hT Y hX hbl hin1 hin2 hin3 I hc15 next
      by_cases h7 : q = 7
      · subst h7
        refine lv_tableIn (off := 573) (tgt := 612) X.x X.b dE_39 (by decide) (by decide) (by decide) (by decide) ?_
        exact law_catchUp hT Y hX hbl hin1 hin2 hin3 I hc15 next
      by_cases h8 : q = 8
      · subst h8
        refine lv_tableIn (off := 629) (tgt := 668) X.x X.b dE_39 (by decide) (by decide) (by decide) (by decide) ?_
        exact law_append hT Y hX hbl hin1 hin2 hin3 I hc15 next
      by_cases h9 : q = 9
      · subst h9
        refine lv_tableIn (off := 685) (tgt := 724) X.x X.b dE_39 (by decide) (by decide) (by decide) (by decide) ?_
        exact law_clearBuffer hT Y hX hbl hin1 hin2 hin3 I hc15 next
      by_cases h10 : q = 10
      · subst h10
        refine lv_tableIn (off := 698) (tgt := 737) X.x X.b dE_39 (by decide) (by decide) (by decide) (by decide) ?_
        exact law_firstError hT Y hX hbl hin1 hin2 hin3 I hc15 next
      by_cases h11 : q = 11
      · subst h11
        refine lv_tableIn (off := 711) (tgt := 750) X.x X.b dE_39 (by decide) (by decide) (by decide) (by decide) ?_
        exact law_addAll hT Y hX hbl hin1 hin2 hin3 I hc15 next
      by_cases h12 : q = 12
      · subst h12
        refine lv_tableIn (off := 755) (tgt := 794) X.x X.b dE_39 (by decide) (by decide) (by decide) (by decide) ?_
        exact law_undo hT Y hX hbl hin1 hin2 hin3 I hc15 next
      by_cases h13 : q = 13
      · subst h13
        refine lv_tableIn (off := 799) (tgt := 838) X.x X.b dE_39 (by decide) (by decide) (by decide) (by decide) ?_
        exact law_part hT Y hX hbl hin1 hin2 hin3 I hc15 next
      by_cases h14 : q = 14
      · subst h14
        refine lv_tableIn (off := 867) (tgt := 906) X.x X.b dE_39 (by decide) (by decide) (by decide) (by decide) ?_
        exact law_knows hT Y hX hbl hin1 hin2 hin3 I hc15 next
      by_cases h15 : q = 15
      · subst h15
        refine lv_tableIn (off := 935) (tgt := 974) X.x X.b dE_39 (by decide) (by decide) (by decide) (by decide) ?_
        exact law_reader hT Y hX hbl hin1 hin2 hin3 I hc15 next
      by_cases h16 : q = 16
      · subst h16
        refine lv_tableIn (off := 1003) (tgt := 1042) X.x X.b dE_39 (by decide) (by decide) (by decide) (by decide) ?_
        exact law_plot hT Y hX hbl hin1 hin2 hin3 I hc15 next
      by_cases h17 : q = 17
      · subst h17
        refine lv_tableIn (off := 1071) (tgt := 1110) X.x X.b dE_39 (by decide) (by decide) (by decide) (by decide) ?_
        exact law_count hT Y hX hbl hin1 hin2 hin3 I hc15 next
      by_cases h18 : q = 18
      · subst h18
        refine lv_tableIn (off := 1127) (tgt := 1166) X.x X.b dE_39 (by decide) (by decide) (by decide) (by decide) ?_
        exact law_setting hT Y hX hbl hin1 hin2 hin3 I hc15 next
      by_cases h19 : q = 19
      · subst h19
        refine lv_tableIn (off := 1183) (tgt := 1222) X.x X.b dE_39 (by decide) (by decide) (by decide) (by decide) ?_
        exact law_recap hT Y hX hbl hin1 hin2 hin3 I hc15 next
      by_cases h20 : q = 20
      · subst h20
        refine lv_tableIn (off := 1263) (tgt := 1302) X.x X.b dE_39 (by decide) (by decide) (by decide) (by decide) ?_
        exact law_easiest hT Y hX hbl hin1 hin2 hin3 I hc15 next
      by_cases h21 : q = 21
      · subst h21
        refine lv_tableIn (off := 1319) (tgt := 1358) X.x X.b dE_39 (by decide) (by decide) (by decide) (by decide) ?_
        exact law_enough hT Y hX hbl hin1 hin2 hin3 I hc15 next
      by_cases h22 : q = 22
      · subst h22
        refine lv_tableIn (off := 1375) (tgt := 1414) X.x X.b dE_39 (by decide) (by decide) (by decide) (by decide) ?_
        exact law_readShare hT Y hX hbl hin1 hin2 hin3 I hc15 next
      by_cases h23 : q = 23
      · subst h23
        refine lv_tableIn (off := 1416) (tgt := 1455) X.x X.b dE_39 (by decide) (by decide) (by decide) (by decide) ?_
        exact law_digest hT Y hX hbl hin1 hin2 hin3 I hc15 next
      have hq24 : (23 : Int) < (nI q).toInt := by
        rw [nI_toInt (by omega)]
        omega
      refine lv_tableOut (tgt := 1469) X.x X.b dE_39 (Or.inr hq24) (by decide) ?_
      refine W.widen (k := cells + 15) (n := slots + 140) (Nat.le_add_right cells 15) (Nat.le_add_right slots 140) ?_
      exact next H locs ls I
