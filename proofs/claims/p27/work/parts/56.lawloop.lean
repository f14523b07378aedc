/-! THE LAW: its acts -/
theorem one_nI (x : Nat) : (1 : Int32) + nI x = nI (x + 1) := by
  rw [Int32.add_comm]
  exact nI_1 x
/-- the object, its saved states seen before -/
def zHk (b : zOb) (acts : Nat) (f : Nat → Int64) : Prop := zI b.1 ∧ b.2.2.1 = nI 0 ∧ b.2.1.length = min acts 6 ∧ ∀ i u, b.2.1[i]? = some u → zI u ∧ pseen u = f (acts - 1 - i)
theorem zHk.sz {b : zOb} {acts : Nat} {f : Nat → Int64} (h : zHk b acts f) : ∃ n, n ≤ 20 ∧ (tF b.1).2.2.1 = nI n := by
  obtain ⟨⟨n, h1, h2, -⟩, -⟩ := h
  exact ⟨n, h1, h2⟩
/-- where the law's loop stands -/
def lwI (Δ : zE) (s : State) (sb a aw k : Nat) (H : Heap) (locs : List Loc) (ls : Array Slot) : Prop :=
  ∃ (acts : Nat) (f : Nat → Int64) (b : zOb) (ws : va_W), acts ≤ k ∧ zHk b acts f ∧ wOb Δ a b ws ∧ zW Δ (fun q => s.heap.size ≤ q) s.heap (ws ++ [(aw, .inl (Δ.2.2.2.1, 64, .inr (.inl f)))]) H locs ∧ lv_has ls 11 [(4, .int (nI k)), (3, .int (nI acts)), (2, .ref aw), (1, .ref a), (0, .ref sb)]
theorem c_count6 (b : zOb) : s_count b 6 = some (.inr (nI b.2.1.length), b) := rfl
theorem zHk.next {b b' : zOb} {acts : Nat} {f : Nat → Int64} {t : tSC} (h : zHk b acts f) (hf : f acts = pseen b.1) (ht : zI t) (hb : b' = zPush b t) : zHk b' (acts + 1) f := by
  obtain ⟨h1, h2, h3, h4⟩ := h
  subst hb
  refine ⟨ht, h2, ?_, fun i u hu => ?_⟩
  · show ((b.1 :: b.2.1).take 6).length = _
    rw [List.length_take, List.length_cons, h3]
    omega
  · have hu : ((b.1 :: b.2.1).take 6)[i]? = some u := hu
    rw [List.getElem?_take] at hu
    by_cases hi : i < 6
    · rw [if_pos hi] at hu
      match i, hu with
      | 0, hu =>
        obtain rfl := Option.some.inj hu
        exact ⟨h1, hf.symm⟩
      | i + 1, hu =>
        obtain ⟨g1, g2⟩ := h4 i u hu
        refine ⟨g1, g2.trans (congrArg f ?_)⟩
        omega
    · rw [if_neg hi] at hu
      cases hu
theorem zHk.set {b : zOb} {acts : Nat} {f : Nat → Int64} (h : zHk b acts f) (hk : acts < 64) (v : Int64) : zHk b acts (vp_updL f (nI acts).toNatClampNeg v) := by
  obtain ⟨h1, h2, h3, h4⟩ := h
  refine ⟨h1, h2, h3, fun i u hu => ?_⟩
  obtain ⟨g1, g2⟩ := h4 i u hu
  have hi := (List.getElem?_eq_some_iff.mp hu).1
  refine ⟨g1, g2.trans ?_⟩
  rw [nI_clamp (by omega)]
  unfold vp_updL
  rw [if_neg (by omega)]
theorem updL_at (f : Nat → Int64) {acts : Nat} (hk : acts < 64) (v : Int64) : vp_updL f (nI acts).toNatClampNeg v acts = v := by
  rw [nI_clamp (by omega)]
  unfold vp_updL
  exact if_pos rfl
set_option maxRecDepth 100000 in
set_option maxHeartbeats 4000000 in
theorem law_drawn {p : Program} {l : Launch} {e : Env} {s : State} {m : MethodId} {below : List Frame} {meth : Method} {c : Code} {Q : State → Prop} {Δ : zE} {sb : Nat} (hT : l.stackTraces = false) (Y : zY Δ p l s m #[Value.ref sb] meth c ⟨"SerialRecapsLaw", meth.name, ""⟩ code 11 (some .boolean) (fun q => s.heap.size ≤ q)) {L : Nat} {xs : Nat → Int32} (hX : va_X sb L xs s s.heap) (hbl : sb < s.heap.size) (hL : L ≤ 260) {ws : va_W} {H : Heap} {locs : List Loc} {ls : Array Slot} {lvs : List (Nat × Value)} {cells slots k : Nat} (Z : zW Δ (fun q => s.heap.size ≤ q) s.heap ws H locs) (hl : lv_has ls 11 lvs) (hk : k < 64) (hc : cells ≤ 641046) (hs : slots ≤ 7178331)
    (kk : ∀ (x : Int32) (H : Heap) (locs : List Loc), zW Δ (fun q => s.heap.size ≤ q) s.heap ws H locs → W p l e room_1 s m #[Value.ref sb] below meth c H locs cells slots Q (F0 m 45 ls [.int x])) : W p l e room_1 s m #[Value.ref sb] below meth c H locs cells slots Q (F0 m 42 ls [.int (nI k), .ref sb]) := by
  have X := Y.1
  refine c_goes (wc := []) (wr := ws) (mc1 := 0) (ms1 := 0) X Z (List.Perm.refl _) (va_runS (As := [.ref sb, .int (nI k)]) (rest := []) (n := 2) X.1 (M_drawn l Δ (xs := xs) hL hk H.size) (va_cwS 2 X.ts (x_gS wd_345 wd_346 wd_18 wd_347) rfl rfl rfl ⟨ok_L_drawn.1, ok_L_drawn.2.1, ok_L_drawn.2.2⟩ ⟨Nat.le_of_ble_eq_true rfl, Nat.le_of_ble_eq_true rfl⟩) ⟨zPD_blind, fun U hU hW => ⟨rfl, by rw [hU], X.K.warm hW, ?_, ?_⟩⟩ rfl rfl hl.1 rfl (lv_room (Nat.le_of_ble_eq_true rfl)) dL_law_42 ⟨by show cells + 0 ≤ 641046; omega, by show slots + 0 ≤ 7178331; omega⟩) (fun rv w1 H1 locs1 hP Z1 => ?_)
  · rw [hU]
    exact (hX.moved hW.alike).kept (Z.2.2.2.1 sb hbl (by omega))
  · rw [hU]
    exact Nat.lt_of_lt_of_le hbl Z.2.2.1
  · obtain ⟨⟨x, rfl⟩, rfl⟩ := hP
    exact kk x H1 locs1 Z1
set_option maxRecDepth 100000 in
set_option maxHeartbeats 4000000 in
theorem law_tail {p : Program} {l : Launch} {e : Env} {s : State} {m : MethodId} {below : List Frame} {meth : Method} {c : Code} {Q : State → Prop} {Δ : zE} {sb : Nat} (hT : l.stackTraces = false) (Y : zY Δ p l s m #[Value.ref sb] meth c ⟨"SerialRecapsLaw", meth.name, ""⟩ code 11 (some .boolean) (fun q => s.heap.size ≤ q)) {a aw k d acts : Nat} {f : Nat → Int64} {b : zOb} {ws : va_W} {H : Heap} {locs : List Loc} {ls : Array Slot} {cells slots : Nat} (hk : k < 34) (ha : acts ≤ k) (hI : zHk b acts f) (hf : f acts = pseen b.1) (next : ∀ (cells slots : Nat) (H : Heap) (locs : List Loc) (ls : Array Slot), cells + 2000 * d ≤ 100000 → slots + 12000 * d ≤ 600000 → lwI Δ s sb a aw (k + 1) H locs ls → W p l e room_1 s m #[Value.ref sb] below meth c H locs cells slots Q (F0 m 32 ls [])) {v : Int32} {b' : zOb} (hR : zR b v b') (hw : wOb Δ a b' ws) (Z : zW Δ (fun q => s.heap.size ≤ q) s.heap (ws ++ [(aw, .inl (Δ.2.2.2.1, 64, .inr (.inl f)))]) H locs) (hl : lv_has ls 11 [(7, .int (nI b.2.1.length)), (4, .int (nI k)), (3, .int (nI acts)), (2, .ref aw), (1, .ref a), (0, .ref sb)]) (hc : cells + 1000 + 2000 * d ≤ 100000) (hs : slots + 6000 + 12000 * d ≤ 600000) : W p l e room_1 s m #[Value.ref sb] below meth c H locs cells slots Q (F0 m 278 ls [.int v]) := by
  have X := Y.1
  refine lv_istore (lv' := [(10, .int v), (7, .int (nI b.2.1.length)), (4, .int (nI k)), (3, .int (nI acts)), (2, .ref aw), (1, .ref a), (0, .ref sb)]) X.x X.b dL_law_278 hl (Nat.le_of_ble_eq_true rfl) rfl (fun ls hl => ?_)
  refine lv_iload X.x X.b dL_law_280 (lv_at hl 0 rfl) ?_
  refine lv_iconst (v := (-1)) X.x X.b dL_law_282 ki_m1 ?_
  rcases hR with ⟨hv, hb0⟩ | ⟨hv, t, ht, htt, hb⟩
  · obtain rfl := hb0.symm
    have hge : ¬ (-1 : Int32) ≤ v := fun g => Int32.lt_irrefl (Int32.lt_of_lt_of_le hv g)
    obtain ⟨n, hn, hsz⟩ := hI.sz
    refine lv_icmp_ge (tgt := 310) X.x X.b dL_law_283 (by decide) (fun g => absurd g hge) (fun _ => ?_)
    refine lv_aload_n X.x X.b dL_law_286 rfl (lv_at hl 5 rfl) ?_
    refine lv_bipush (v := 6) X.x X.b dL_law_287 kb_6 ?_
    refine o_call (wr := [(aw, .inl (Δ.2.2.2.1, 64, .inr (.inl f)))]) Y Z hl hw (C_count l hT Δ 6 (c_count6 _)) wd_290 wd_291 wd_292 wd_19 wd_293 ok_X6_count rfl rfl (rest := []) rfl (Nat.le_of_ble_eq_true rfl) ⟨Nat.le_of_ble_eq_true rfl, Nat.le_of_ble_eq_true rfl⟩ ⟨by show cells + 1 ≤ 641046; omega, by show slots + 6 ≤ 7178331; omega⟩ (c1 := (cells + 1)) (s1 := (slots + 6)) (by omega) (by omega) dL_law_289 (fun ws H locs hw Z => ?_)
    refine lv_iload X.x X.b dL_law_292 (lv_at hl 1 rfl) ?_
    refine lv_icmp_ne (tgt := 308) X.x X.b dL_law_294 (by decide) (fun g => absurd rfl g) (fun _ => ?_)
    refine lv_aload_n X.x X.b dL_law_297 rfl (lv_at hl 5 rfl) ?_
    refine o_stat (wr := [(aw, .inl (Δ.2.2.2.1, 64, .inr (.inl f)))]) Y Z hl (M_seen l hT Δ hn hsz a ws hw) wd_766 wd_767 wd_18 wd_768 ok_L_seen rfl (rest := []) rfl (Nat.le_of_ble_eq_true rfl) ⟨Nat.le_of_ble_eq_true rfl, Nat.le_of_ble_eq_true rfl⟩ ⟨by show (cells + 1) + 900 ≤ 641046; omega, by show (slots + 6) + 5400 ≤ 7178331; omega⟩ (c1 := (cells + 901)) (s1 := (slots + 5406)) (by omega) (by omega) dL_law_298 (fun rv ws H locs hP Z => ?_)
    obtain ⟨rfl, hw⟩ := hP
    refine W.eq (g2 := F0 m 301 ls [.long (pseen b.1)]) rfl ?_
    refine lv_aload_n X.x X.b dL_law_301 rfl (lv_at hl 4 rfl) ?_
    refine lv_iload_n X.x X.b dL_law_302 rfl (lv_at hl 3 rfl) ?_
    have Zp := Z.perm List.perm_append_comm
    refine z_lald X Zp 0 rfl (vp_in_nI (by omega) (by decide)) dL_law_303 ?_
    rw [nI_clamp (by omega), hf]
    refine W.lcmp X.x X.b dL_law_304 ?_
    rw [lg_cmp_self]
    refine lv_if_eq (tgt := 310) X.x X.b dL_law_305 (by decide) (fun _ => ?_) (fun g => absurd rfl g)
    refine lv_iload_n X.x X.b dL_law_310 rfl (lv_at hl 3 rfl) ?_
    refine lv_iload X.x X.b dL_law_311 (lv_at hl 0 rfl) ?_
    refine lv_iconst (v := (-1)) X.x X.b dL_law_313 ki_m1 ?_
    refine lv_icmp_ge (tgt := 321) X.x X.b dL_law_314 (by decide) (fun g => absurd g hge) (fun _ => ?_)
    refine lv_iconst (v := 0) X.x X.b dL_law_317 ki_0 ?_
    refine lv_goto (tgt := 322) X.x X.b dL_law_318 (by decide) ?_
    refine lv_iadd X.x X.b dL_law_322 ?_
    rw [Int32.add_zero]
    refine lv_istore_n (lv' := [(3, .int (nI acts)), (10, .int v), (7, .int (nI b.2.1.length)), (4, .int (nI k)), (2, .ref aw), (1, .ref a), (0, .ref sb)]) X.x X.b dL_law_323 rfl hl (Nat.le_of_ble_eq_true rfl) rfl (fun ls hl => ?_)
    refine lv_iinc (v := nI (k + 1)) (lv' := [(4, .int (nI (k + 1))), (3, .int (nI acts)), (10, .int v), (7, .int (nI b.2.1.length)), (2, .ref aw), (1, .ref a), (0, .ref sb)]) X.x X.b dL_law_324 hl (k := 3) rfl ((congrArg _ ki_1).trans (nI_1 k)) (Nat.le_of_ble_eq_true rfl) rfl (fun ls hl => ?_)
    refine lv_goto (tgt := 32) X.x X.b dL_law_327 (by decide) ?_
    exact next _ _ H locs ls (by omega) (by omega) ⟨acts, f, _, ws, by omega, hI, hw, Z, lv_sub hl [0, 1, 4, 5, 6] rfl⟩
  · have hge : (-1 : Int32) ≤ v := Int32.not_lt.mp hv
    refine lv_icmp_ge (tgt := 310) X.x X.b dL_law_283 (by decide) (fun _ => ?_) (fun g => absurd hge g)
    refine lv_iload_n X.x X.b dL_law_310 rfl (lv_at hl 3 rfl) ?_
    refine lv_iload X.x X.b dL_law_311 (lv_at hl 0 rfl) ?_
    refine lv_iconst (v := (-1)) X.x X.b dL_law_313 ki_m1 ?_
    refine lv_icmp_ge (tgt := 321) X.x X.b dL_law_314 (by decide) (fun _ => ?_) (fun g => absurd hge g)
    refine lv_iconst (v := 1) X.x X.b dL_law_321 ki_1 ?_
    refine lv_iadd X.x X.b dL_law_322 ?_
    rw [nI_1]
    refine lv_istore_n (lv' := [(3, .int (nI (acts + 1))), (10, .int v), (7, .int (nI b.2.1.length)), (4, .int (nI k)), (2, .ref aw), (1, .ref a), (0, .ref sb)]) X.x X.b dL_law_323 rfl hl (Nat.le_of_ble_eq_true rfl) rfl (fun ls hl => ?_)
    refine lv_iinc (v := nI (k + 1)) (lv' := [(4, .int (nI (k + 1))), (3, .int (nI (acts + 1))), (10, .int v), (7, .int (nI b.2.1.length)), (2, .ref aw), (1, .ref a), (0, .ref sb)]) X.x X.b dL_law_324 hl (k := 3) rfl ((congrArg _ ki_1).trans (nI_1 k)) (Nat.le_of_ble_eq_true rfl) rfl (fun ls hl => ?_)
    refine lv_goto (tgt := 32) X.x X.b dL_law_327 (by decide) ?_
    exact next _ _ H locs ls (by omega) (by omega) ⟨acts + 1, f, _, ws, by omega, hI.next hf ht hb, hw, Z, lv_sub hl [0, 1, 4, 5, 6] rfl⟩
set_option maxRecDepth 100000 in
set_option maxHeartbeats 4000000 in
theorem law_act {p : Program} {l : Launch} {e : Env} {s : State} {m : MethodId} {below : List Frame} {meth : Method} {c : Code} {Q : State → Prop} {Δ : zE} {sb : Nat} (hT : l.stackTraces = false) (Y : zY Δ p l s m #[Value.ref sb] meth c ⟨"SerialRecapsLaw", meth.name, ""⟩ code 11 (some .boolean) (fun q => s.heap.size ≤ q)) {a aw k d acts : Nat} {f : Nat → Int64} {b : zOb} {ws : va_W} {H : Heap} {locs : List Loc} {ls : Array Slot} {cells slots : Nat} (hk : k < 34) (ha : acts ≤ k) (hI : zHk b acts f) (hf : f acts = pseen b.1) (next : ∀ (cells slots : Nat) (H : Heap) (locs : List Loc) (ls : Array Slot), cells + 2000 * d ≤ 100000 → slots + 12000 * d ≤ 600000 → lwI Δ s sb a aw (k + 1) H locs ls → W p l e room_1 s m #[Value.ref sb] below meth c H locs cells slots Q (F0 m 32 ls [])) {kd y8 y9 : Nat} {x : Int32} (h6 : kd < 10) (h8 : y8 < 6) (h9 : y9 < 12) (hw : wOb Δ a b ws) (Z : zW Δ (fun q => s.heap.size ≤ q) s.heap (ws ++ [(aw, .inl (Δ.2.2.2.1, 64, .inr (.inl f)))]) H locs) (hl : lv_has ls 11 [(9, .int (nI y9)), (8, .int (nI y8)), (7, .int (nI b.2.1.length)), (6, .int (nI kd)), (5, .int x), (4, .int (nI k)), (3, .int (nI acts)), (2, .ref aw), (1, .ref a), (0, .ref sb)]) (hc : cells + 1015 + 2000 * d ≤ 100000) (hs : slots + 6139 + 12000 * d ≤ 600000) : W p l e room_1 s m #[Value.ref sb] below meth c H locs cells slots Q (F0 m 104 ls []) := by
  have X := Y.1
  refine lv_iload X.x X.b dL_law_104 (lv_at hl 3 rfl) ?_
  refine lv_iconst (v := 3) X.x X.b dL_law_106 ki_3 ?_
  by_cases c1 : kd < 3
  · have g : ¬ (3 : Int32) ≤ nI kd := nI_ge (b := 3) c1 (by decide)
    refine lv_icmp_ge (tgt := 142) X.x X.b dL_law_107 (by decide) (fun g2 => absurd g2 g) (fun _ => ?_)
    refine lv_aload_n X.x X.b dL_law_110 rfl (lv_at hl 8 rfl) ?_
    refine lv_iconst (v := 0) X.x X.b dL_law_111 ki_0 ?_
    refine lv_iconst (v := 1) X.x X.b dL_law_112 ki_1 ?_
    refine lv_iload X.x X.b dL_law_113 (lv_at hl 4 rfl) ?_
    refine lv_iconst (v := 4) X.x X.b dL_law_115 ki_4 ?_
    refine lv_ishr X.x X.b dL_law_116 ?_
    refine lv_bipush (v := 63) X.x X.b dL_law_117 kb_63 ?_
    refine o_stat (wc := []) (wr := (ws ++ [(aw, .inl (Δ.2.2.2.1, 64, .inr (.inl f)))])) Y Z hl (M_part l hT Δ (x >>> (4 &&& 31)) 63 (by decide)) wd_341 wd_342 wd_18 wd_343 ok_L_part rfl (rest := [.int 1, .int 0, .ref a]) rfl (Nat.le_of_ble_eq_true rfl) ⟨Nat.le_of_ble_eq_true rfl, Nat.le_of_ble_eq_true rfl⟩ ⟨by show cells + 0 ≤ 641046; omega, by show slots + 0 ≤ 7178331; omega⟩ (c1 := cells) (s1 := slots) rfl rfl dL_law_119 (fun rv w1 H locs hP Z => ?_)
    obtain ⟨rfl, rfl⟩ := hP
    have Z : zW Δ (fun q => s.heap.size ≤ q) s.heap (ws ++ [(aw, .inl (Δ.2.2.2.1, 64, .inr (.inl f)))]) _ _ := Z
    obtain ⟨z1, hz1, ez1⟩ := p_part_lt (x >>> (4 &&& 31)) (N := 63) (by decide) (by decide)
    have ez1 : p_part (x >>> (4 &&& 31)) 63 = nI z1 := ez1
    refine W.eq (g2 := F0 m 122 ls [.int (p_part (x >>> (4 &&& 31)) 63), .int 1, .int 0, .ref a]) rfl ?_
    rw [ez1]
    refine lv_iadd X.x X.b dL_law_122 ?_
    rw [one_nI z1]
    refine lv_iconst (v := (-1)) X.x X.b dL_law_123 ki_m1 ?_
    refine lv_iconst (v := 1) X.x X.b dL_law_124 ki_1 ?_
    refine lv_iload X.x X.b dL_law_125 (lv_at hl 4 rfl) ?_
    refine lv_bipush (v := 10) X.x X.b dL_law_127 kb_10 ?_
    refine lv_ishr X.x X.b dL_law_129 ?_
    refine lv_bipush (v := 99) X.x X.b dL_law_130 kb_99 ?_
    refine o_stat (wc := []) (wr := (ws ++ [(aw, .inl (Δ.2.2.2.1, 64, .inr (.inl f)))])) Y Z hl (M_part l hT Δ (x >>> (10 &&& 31)) 99 (by decide)) wd_341 wd_342 wd_18 wd_343 ok_L_part rfl (rest := [.int 1, .int (-1), .int (nI (z1 + 1)), .int 0, .ref a]) rfl (Nat.le_of_ble_eq_true rfl) ⟨Nat.le_of_ble_eq_true rfl, Nat.le_of_ble_eq_true rfl⟩ ⟨by show cells + 0 ≤ 641046; omega, by show slots + 0 ≤ 7178331; omega⟩ (c1 := cells) (s1 := slots) rfl rfl dL_law_132 (fun rv w1 H locs hP Z => ?_)
    obtain ⟨rfl, rfl⟩ := hP
    have Z : zW Δ (fun q => s.heap.size ≤ q) s.heap (ws ++ [(aw, .inl (Δ.2.2.2.1, 64, .inr (.inl f)))]) _ _ := Z
    obtain ⟨z2, hz2, ez2⟩ := p_part_lt (x >>> (10 &&& 31)) (N := 99) (by decide) (by decide)
    have ez2 : p_part (x >>> (10 &&& 31)) 99 = nI z2 := ez2
    refine W.eq (g2 := F0 m 135 ls [.int (p_part (x >>> (10 &&& 31)) 99), .int 1, .int (-1), .int (nI (z1 + 1)), .int 0, .ref a]) rfl ?_
    rw [ez2]
    refine lv_iadd X.x X.b dL_law_135 ?_
    rw [one_nI z2]
    obtain ⟨v, b', ht, hR⟩ := st_add hI.1 hz1 hz2
    refine o_statX (wr := [(aw, .inl (Δ.2.2.2.1, 64, .inr (.inl f)))]) Y Z hl (M_told l hT Δ 0 (nI (z1 + 1)) (-1) (nI (z2 + 1)) ht a ws hw) wd_349 wd_350 wd_18 wd_351 ok_L_told rfl (rest := []) rfl (Nat.le_of_ble_eq_true rfl) ⟨Nat.le_of_ble_eq_true rfl, Nat.le_of_ble_eq_true rfl⟩ ⟨by show cells + 15 ≤ 641046; omega, by show slots + 139 ≤ 7178331; omega⟩ (c1 := (cells + 15)) (s1 := (slots + 139)) (by omega) (by omega) dL_law_136 (fun rv ws H locs hP Z => ?_)
    obtain ⟨rfl, hw⟩ := hP
    refine W.eq (g2 := F0 m 139 ls [.int v]) rfl ?_
    refine lv_goto (tgt := 278) X.x X.b dL_law_139 (by decide) ?_
    exact law_tail hT Y hk ha hI hf next hR hw Z (lv_sub hl [2, 5, 6, 7, 8, 9] rfl) (by omega) (by omega)
  · have g : (3 : Int32) ≤ nI kd := nI_le (a := 3) (by omega) (by omega)
    refine lv_icmp_ge (tgt := 142) X.x X.b dL_law_107 (by decide) (fun _ => ?_) (fun g2 => absurd g g2)
    refine lv_iload X.x X.b dL_law_142 (lv_at hl 3 rfl) ?_
    refine lv_iconst (v := 3) X.x X.b dL_law_144 ki_3 ?_
    by_cases c142 : kd = 3
    · subst c142
      refine lv_icmp_ne (tgt := 171) X.x X.b dL_law_145 (by decide) (fun g2 => absurd rfl g2) (fun _ => ?_)
      refine lv_aload_n X.x X.b dL_law_148 rfl (lv_at hl 8 rfl) ?_
      refine lv_iconst (v := 1) X.x X.b dL_law_149 ki_1 ?_
      refine lv_iload X.x X.b dL_law_150 (lv_at hl 0 rfl) ?_
      refine lv_iconst (v := 1) X.x X.b dL_law_152 ki_1 ?_
      refine lv_iload X.x X.b dL_law_153 (lv_at hl 4 rfl) ?_
      refine lv_bipush (v := 11) X.x X.b dL_law_155 kb_11 ?_
      refine lv_ishr X.x X.b dL_law_157 ?_
      refine lv_bipush (v := 63) X.x X.b dL_law_158 kb_63 ?_
      refine o_stat (wc := []) (wr := (ws ++ [(aw, .inl (Δ.2.2.2.1, 64, .inr (.inl f)))])) Y Z hl (M_part l hT Δ (x >>> (11 &&& 31)) 63 (by decide)) wd_341 wd_342 wd_18 wd_343 ok_L_part rfl (rest := [.int 1, .int (nI y9), .int 1, .ref a]) rfl (Nat.le_of_ble_eq_true rfl) ⟨Nat.le_of_ble_eq_true rfl, Nat.le_of_ble_eq_true rfl⟩ ⟨by show cells + 0 ≤ 641046; omega, by show slots + 0 ≤ 7178331; omega⟩ (c1 := cells) (s1 := slots) rfl rfl dL_law_160 (fun rv w1 H locs hP Z => ?_)
      obtain ⟨rfl, rfl⟩ := hP
      have Z : zW Δ (fun q => s.heap.size ≤ q) s.heap (ws ++ [(aw, .inl (Δ.2.2.2.1, 64, .inr (.inl f)))]) _ _ := Z
      obtain ⟨z3, hz3, ez3⟩ := p_part_lt (x >>> (11 &&& 31)) (N := 63) (by decide) (by decide)
      have ez3 : p_part (x >>> (11 &&& 31)) 63 = nI z3 := ez3
      refine W.eq (g2 := F0 m 163 ls [.int (p_part (x >>> (11 &&& 31)) 63), .int 1, .int (nI y9), .int 1, .ref a]) rfl ?_
      rw [ez3]
      refine lv_iadd X.x X.b dL_law_163 ?_
      rw [one_nI z3]
      refine lv_iconst (v := (-1)) X.x X.b dL_law_164 ki_m1 ?_
      obtain ⟨v, b', ht, hR⟩ := st_change hI.1 h9 hz3
      refine o_statX (wr := [(aw, .inl (Δ.2.2.2.1, 64, .inr (.inl f)))]) Y Z hl (M_told l hT Δ 1 (nI y9) (nI (z3 + 1)) (-1) ht a ws hw) wd_349 wd_350 wd_18 wd_351 ok_L_told rfl (rest := []) rfl (Nat.le_of_ble_eq_true rfl) ⟨Nat.le_of_ble_eq_true rfl, Nat.le_of_ble_eq_true rfl⟩ ⟨by show cells + 15 ≤ 641046; omega, by show slots + 139 ≤ 7178331; omega⟩ (c1 := (cells + 15)) (s1 := (slots + 139)) (by omega) (by omega) dL_law_165 (fun rv ws H locs hP Z => ?_)
      obtain ⟨rfl, hw⟩ := hP
      refine W.eq (g2 := F0 m 168 ls [.int v]) rfl ?_
      refine lv_goto (tgt := 278) X.x X.b dL_law_168 (by decide) ?_
      exact law_tail hT Y hk ha hI hf next hR hw Z (lv_sub hl [2, 5, 6, 7, 8, 9] rfl) (by omega) (by omega)
    · have g : ¬ nI kd = 3 := fun h => c142 ((nI_eq (b := 3) (by omega) (by decide)).mp h)
      refine lv_icmp_ne (tgt := 171) X.x X.b dL_law_145 (by decide) (fun _ => ?_) (fun g2 => absurd g2 g)
      refine lv_iload X.x X.b dL_law_171 (lv_at hl 3 rfl) ?_
      refine lv_iconst (v := 4) X.x X.b dL_law_173 ki_4 ?_
      by_cases c171 : kd = 4
      · subst c171
        refine lv_icmp_ne (tgt := 188) X.x X.b dL_law_174 (by decide) (fun g2 => absurd rfl g2) (fun _ => ?_)
        refine lv_aload_n X.x X.b dL_law_177 rfl (lv_at hl 8 rfl) ?_
        refine lv_iconst (v := 2) X.x X.b dL_law_178 ki_2 ?_
        refine lv_iconst (v := 0) X.x X.b dL_law_179 ki_0 ?_
        refine lv_iconst (v := 0) X.x X.b dL_law_180 ki_0 ?_
        refine lv_iconst (v := 0) X.x X.b dL_law_181 ki_0 ?_
        obtain ⟨v, b', ht, hR⟩ := st_removeLast hI.1
        refine o_statX (wr := [(aw, .inl (Δ.2.2.2.1, 64, .inr (.inl f)))]) Y Z hl (M_told l hT Δ 2 0 0 0 ht a ws hw) wd_349 wd_350 wd_18 wd_351 ok_L_told rfl (rest := []) rfl (Nat.le_of_ble_eq_true rfl) ⟨Nat.le_of_ble_eq_true rfl, Nat.le_of_ble_eq_true rfl⟩ ⟨by show cells + 15 ≤ 641046; omega, by show slots + 139 ≤ 7178331; omega⟩ (c1 := (cells + 15)) (s1 := (slots + 139)) (by omega) (by omega) dL_law_182 (fun rv ws H locs hP Z => ?_)
        obtain ⟨rfl, hw⟩ := hP
        refine W.eq (g2 := F0 m 185 ls [.int v]) rfl ?_
        refine lv_goto (tgt := 278) X.x X.b dL_law_185 (by decide) ?_
        exact law_tail hT Y hk ha hI hf next hR hw Z (lv_sub hl [2, 5, 6, 7, 8, 9] rfl) (by omega) (by omega)
      · have g : ¬ nI kd = 4 := fun h => c171 ((nI_eq (b := 4) (by omega) (by decide)).mp h)
        refine lv_icmp_ne (tgt := 188) X.x X.b dL_law_174 (by decide) (fun _ => ?_) (fun g2 => absurd g2 g)
        refine lv_iload X.x X.b dL_law_188 (lv_at hl 3 rfl) ?_
        refine lv_iconst (v := 5) X.x X.b dL_law_190 ki_5 ?_
        by_cases c188 : kd = 5
        · subst c188
          refine lv_icmp_ne (tgt := 220) X.x X.b dL_law_191 (by decide) (fun g2 => absurd rfl g2) (fun _ => ?_)
          refine lv_aload_n X.x X.b dL_law_194 rfl (lv_at hl 8 rfl) ?_
          refine lv_iconst (v := 3) X.x X.b dL_law_195 ki_3 ?_
          refine lv_iload X.x X.b dL_law_196 (lv_at hl 4 rfl) ?_
          refine lv_iconst (v := 4) X.x X.b dL_law_198 ki_4 ?_
          refine lv_ishr X.x X.b dL_law_199 ?_
          refine lv_iconst (v := 2) X.x X.b dL_law_200 ki_2 ?_
          refine o_stat (wc := []) (wr := (ws ++ [(aw, .inl (Δ.2.2.2.1, 64, .inr (.inl f)))])) Y Z hl (M_part l hT Δ (x >>> (4 &&& 31)) 2 (by decide)) wd_341 wd_342 wd_18 wd_343 ok_L_part rfl (rest := [.int 3, .ref a]) rfl (Nat.le_of_ble_eq_true rfl) ⟨Nat.le_of_ble_eq_true rfl, Nat.le_of_ble_eq_true rfl⟩ ⟨by show cells + 0 ≤ 641046; omega, by show slots + 0 ≤ 7178331; omega⟩ (c1 := cells) (s1 := slots) rfl rfl dL_law_201 (fun rv w1 H locs hP Z => ?_)
          obtain ⟨rfl, rfl⟩ := hP
          have Z : zW Δ (fun q => s.heap.size ≤ q) s.heap (ws ++ [(aw, .inl (Δ.2.2.2.1, 64, .inr (.inl f)))]) _ _ := Z
          obtain ⟨z4, hz4, ez4⟩ := p_part_lt (x >>> (4 &&& 31)) (N := 2) (by decide) (by decide)
          have ez4 : p_part (x >>> (4 &&& 31)) 2 = nI z4 := ez4
          refine W.eq (g2 := F0 m 204 ls [.int (p_part (x >>> (4 &&& 31)) 2), .int 3, .ref a]) rfl ?_
          rw [ez4]
          refine lv_iload X.x X.b dL_law_204 (lv_at hl 4 rfl) ?_
          refine lv_iconst (v := 5) X.x X.b dL_law_206 ki_5 ?_
          refine lv_ishr X.x X.b dL_law_207 ?_
          refine lv_bipush (v := 22) X.x X.b dL_law_208 kb_22 ?_
          refine o_stat (wc := []) (wr := (ws ++ [(aw, .inl (Δ.2.2.2.1, 64, .inr (.inl f)))])) Y Z hl (M_part l hT Δ (x >>> (5 &&& 31)) 22 (by decide)) wd_341 wd_342 wd_18 wd_343 ok_L_part rfl (rest := [.int (nI z4), .int 3, .ref a]) rfl (Nat.le_of_ble_eq_true rfl) ⟨Nat.le_of_ble_eq_true rfl, Nat.le_of_ble_eq_true rfl⟩ ⟨by show cells + 0 ≤ 641046; omega, by show slots + 0 ≤ 7178331; omega⟩ (c1 := cells) (s1 := slots) rfl rfl dL_law_210 (fun rv w1 H locs hP Z => ?_)
          obtain ⟨rfl, rfl⟩ := hP
          have Z : zW Δ (fun q => s.heap.size ≤ q) s.heap (ws ++ [(aw, .inl (Δ.2.2.2.1, 64, .inr (.inl f)))]) _ _ := Z
          obtain ⟨z5, hz5, ez5⟩ := p_part_lt (x >>> (5 &&& 31)) (N := 22) (by decide) (by decide)
          have ez5 : p_part (x >>> (5 &&& 31)) 22 = nI z5 := ez5
          refine W.eq (g2 := F0 m 213 ls [.int (p_part (x >>> (5 &&& 31)) 22), .int (nI z4), .int 3, .ref a]) rfl ?_
          rw [ez5]
          refine lv_iconst (v := 0) X.x X.b dL_law_213 ki_0 ?_
          obtain ⟨v, b', ht, hR⟩ := st_set hI.1 hz4 hz5
          refine o_statX (wr := [(aw, .inl (Δ.2.2.2.1, 64, .inr (.inl f)))]) Y Z hl (M_told l hT Δ 3 (nI z4) (nI z5) 0 ht a ws hw) wd_349 wd_350 wd_18 wd_351 ok_L_told rfl (rest := []) rfl (Nat.le_of_ble_eq_true rfl) ⟨Nat.le_of_ble_eq_true rfl, Nat.le_of_ble_eq_true rfl⟩ ⟨by show cells + 15 ≤ 641046; omega, by show slots + 139 ≤ 7178331; omega⟩ (c1 := (cells + 15)) (s1 := (slots + 139)) (by omega) (by omega) dL_law_214 (fun rv ws H locs hP Z => ?_)
          obtain ⟨rfl, hw⟩ := hP
          refine W.eq (g2 := F0 m 217 ls [.int v]) rfl ?_
          refine lv_goto (tgt := 278) X.x X.b dL_law_217 (by decide) ?_
          exact law_tail hT Y hk ha hI hf next hR hw Z (lv_sub hl [2, 5, 6, 7, 8, 9] rfl) (by omega) (by omega)
        · have g : ¬ nI kd = 5 := fun h => c188 ((nI_eq (b := 5) (by omega) (by decide)).mp h)
          refine lv_icmp_ne (tgt := 220) X.x X.b dL_law_191 (by decide) (fun _ => ?_) (fun g2 => absurd g2 g)
          refine lv_iload X.x X.b dL_law_220 (lv_at hl 3 rfl) ?_
          refine lv_bipush (v := 8) X.x X.b dL_law_222 kb_8 ?_
          by_cases c8 : kd < 8
          · have g : ¬ (8 : Int32) ≤ nI kd := nI_ge (b := 8) c8 (by decide)
            refine lv_icmp_ge (tgt := 240) X.x X.b dL_law_224 (by decide) (fun g2 => absurd g2 g) (fun _ => ?_)
            refine lv_aload_n X.x X.b dL_law_227 rfl (lv_at hl 8 rfl) ?_
            refine lv_iconst (v := 4) X.x X.b dL_law_228 ki_4 ?_
            refine lv_iload X.x X.b dL_law_229 (lv_at hl 1 rfl) ?_
            refine lv_iload X.x X.b dL_law_231 (lv_at hl 0 rfl) ?_
            refine lv_iconst (v := 0) X.x X.b dL_law_233 ki_0 ?_
            obtain ⟨v, b', ht, hR⟩ := st_mail hI.1 h8 h9
            refine o_statX (wr := [(aw, .inl (Δ.2.2.2.1, 64, .inr (.inl f)))]) Y Z hl (M_told l hT Δ 4 (nI y8) (nI y9) 0 ht a ws hw) wd_349 wd_350 wd_18 wd_351 ok_L_told rfl (rest := []) rfl (Nat.le_of_ble_eq_true rfl) ⟨Nat.le_of_ble_eq_true rfl, Nat.le_of_ble_eq_true rfl⟩ ⟨by show cells + 15 ≤ 641046; omega, by show slots + 139 ≤ 7178331; omega⟩ (c1 := (cells + 15)) (s1 := (slots + 139)) (by omega) (by omega) dL_law_234 (fun rv ws H locs hP Z => ?_)
            obtain ⟨rfl, hw⟩ := hP
            refine W.eq (g2 := F0 m 237 ls [.int v]) rfl ?_
            refine lv_goto (tgt := 278) X.x X.b dL_law_237 (by decide) ?_
            exact law_tail hT Y hk ha hI hf next hR hw Z (lv_sub hl [2, 5, 6, 7, 8, 9] rfl) (by omega) (by omega)
          · have g : (8 : Int32) ≤ nI kd := nI_le (a := 8) (by omega) (by omega)
            refine lv_icmp_ge (tgt := 240) X.x X.b dL_law_224 (by decide) (fun _ => ?_) (fun g2 => absurd g g2)
            refine lv_iload X.x X.b dL_law_240 (lv_at hl 3 rfl) ?_
            refine lv_bipush (v := 8) X.x X.b dL_law_242 kb_8 ?_
            by_cases c9 : kd = 8
            · subst c9
              refine lv_icmp_ne (tgt := 268) X.x X.b dL_law_244 (by decide) (fun g2 => absurd rfl g2) (fun _ => ?_)
              refine lv_aload_n X.x X.b dL_law_247 rfl (lv_at hl 8 rfl) ?_
              refine lv_iconst (v := 5) X.x X.b dL_law_248 ki_5 ?_
              refine lv_iload X.x X.b dL_law_249 (lv_at hl 0 rfl) ?_
              refine lv_iload X.x X.b dL_law_251 (lv_at hl 4 rfl) ?_
              refine lv_bipush (v := 11) X.x X.b dL_law_253 kb_11 ?_
              refine lv_ishr X.x X.b dL_law_255 ?_
              refine lv_bipush (v := 64) X.x X.b dL_law_256 kb_64 ?_
              refine o_stat (wc := []) (wr := (ws ++ [(aw, .inl (Δ.2.2.2.1, 64, .inr (.inl f)))])) Y Z hl (M_part l hT Δ (x >>> (11 &&& 31)) 64 (by decide)) wd_341 wd_342 wd_18 wd_343 ok_L_part rfl (rest := [.int (nI y9), .int 5, .ref a]) rfl (Nat.le_of_ble_eq_true rfl) ⟨Nat.le_of_ble_eq_true rfl, Nat.le_of_ble_eq_true rfl⟩ ⟨by show cells + 0 ≤ 641046; omega, by show slots + 0 ≤ 7178331; omega⟩ (c1 := cells) (s1 := slots) rfl rfl dL_law_258 (fun rv w1 H locs hP Z => ?_)
              obtain ⟨rfl, rfl⟩ := hP
              have Z : zW Δ (fun q => s.heap.size ≤ q) s.heap (ws ++ [(aw, .inl (Δ.2.2.2.1, 64, .inr (.inl f)))]) _ _ := Z
              obtain ⟨z6, hz6, ez6⟩ := p_part_lt (x >>> (11 &&& 31)) (N := 64) (by decide) (by decide)
              have ez6 : p_part (x >>> (11 &&& 31)) 64 = nI z6 := ez6
              refine W.eq (g2 := F0 m 261 ls [.int (p_part (x >>> (11 &&& 31)) 64), .int (nI y9), .int 5, .ref a]) rfl ?_
              rw [ez6]
              refine lv_iconst (v := 0) X.x X.b dL_law_261 ki_0 ?_
              obtain ⟨v, b', ht, hR⟩ := st_mailAll hI.1 h9 hz6
              refine o_statX (wr := [(aw, .inl (Δ.2.2.2.1, 64, .inr (.inl f)))]) Y Z hl (M_told l hT Δ 5 (nI y9) (nI z6) 0 ht a ws hw) wd_349 wd_350 wd_18 wd_351 ok_L_told rfl (rest := []) rfl (Nat.le_of_ble_eq_true rfl) ⟨Nat.le_of_ble_eq_true rfl, Nat.le_of_ble_eq_true rfl⟩ ⟨by show cells + 15 ≤ 641046; omega, by show slots + 139 ≤ 7178331; omega⟩ (c1 := (cells + 15)) (s1 := (slots + 139)) (by omega) (by omega) dL_law_262 (fun rv ws H locs hP Z => ?_)
              obtain ⟨rfl, hw⟩ := hP
              refine W.eq (g2 := F0 m 265 ls [.int v]) rfl ?_
              refine lv_goto (tgt := 278) X.x X.b dL_law_265 (by decide) ?_
              exact law_tail hT Y hk ha hI hf next hR hw Z (lv_sub hl [2, 5, 6, 7, 8, 9] rfl) (by omega) (by omega)
            · have g : ¬ nI kd = 8 := fun h => c9 ((nI_eq (b := 8) (by omega) (by decide)).mp h)
              refine lv_icmp_ne (tgt := 268) X.x X.b dL_law_244 (by decide) (fun _ => ?_) (fun g2 => absurd g2 g)
              refine lv_aload_n X.x X.b dL_law_268 rfl (lv_at hl 8 rfl) ?_
              refine lv_bipush (v := 6) X.x X.b dL_law_269 kb_6 ?_
              refine lv_iload X.x X.b dL_law_271 (lv_at hl 1 rfl) ?_
              refine lv_iconst (v := 0) X.x X.b dL_law_273 ki_0 ?_
              refine lv_iconst (v := 0) X.x X.b dL_law_274 ki_0 ?_
              obtain ⟨v, b', ht, hR⟩ := st_forget hI.1 h8
              refine o_statX (wr := [(aw, .inl (Δ.2.2.2.1, 64, .inr (.inl f)))]) Y Z hl (M_told l hT Δ 6 (nI y8) 0 0 ht a ws hw) wd_349 wd_350 wd_18 wd_351 ok_L_told rfl (rest := []) rfl (Nat.le_of_ble_eq_true rfl) ⟨Nat.le_of_ble_eq_true rfl, Nat.le_of_ble_eq_true rfl⟩ ⟨by show cells + 15 ≤ 641046; omega, by show slots + 139 ≤ 7178331; omega⟩ (c1 := (cells + 15)) (s1 := (slots + 139)) (by omega) (by omega) dL_law_275 (fun rv ws H locs hP Z => ?_)
              obtain ⟨rfl, hw⟩ := hP
              refine W.eq (g2 := F0 m 278 ls [.int v]) rfl ?_
              exact law_tail hT Y hk ha hI hf next hR hw Z (lv_sub hl [2, 5, 6, 7, 8, 9] rfl) (by omega) (by omega)
set_option maxRecDepth 100000 in
set_option maxHeartbeats 4000000 in
theorem law_loop {p : Program} {l : Launch} {e : Env} {s : State} {m : MethodId} {below : List Frame} {meth : Method} {c : Code} {Q : State → Prop} {Δ : zE} {sb : Nat} (hT : l.stackTraces = false) (Y : zY Δ p l s m #[Value.ref sb] meth c ⟨"SerialRecapsLaw", meth.name, ""⟩ code 11 (some .boolean) (fun q => s.heap.size ≤ q)) {L : Nat} {xs : Nat → Int32} (hX : va_X sb L xs s s.heap) (hbl : sb < s.heap.size) (hL : L ≤ 260) {a aw : Nat} (hend : ∀ (cells slots : Nat) (H : Heap) (locs : List Loc) (ls : Array Slot), cells ≤ 100000 → slots ≤ 600000 → lwI Δ s sb a aw 34 H locs ls → W p l e room_1 s m #[Value.ref sb] below meth c H locs cells slots Q (F0 m 330 ls [])) : ∀ (d k cells slots : Nat) (H : Heap) (locs : List Loc) (ls : Array Slot), k + d = 34 → cells + 2000 * d ≤ 100000 → slots + 12000 * d ≤ 600000 → lwI Δ s sb a aw k H locs ls → W p l e room_1 s m #[Value.ref sb] below meth c H locs cells slots Q (F0 m 32 ls []) := by
  have X := Y.1
  intro d
  induction d with
  | zero =>
    intro k cells slots H locs ls hk hc hs hI
    obtain rfl : k = 34 := by omega
    have hI9 := hI
    obtain ⟨acts, f, b, ws, ha, hH, hw, Z, hl⟩ := hI
    refine lv_iload X.x X.b dL_law_32 (lv_at hl 0 rfl) ?_
    refine lv_bipush (v := 34) X.x X.b dL_law_34 kb_34 ?_
    refine lv_icmp_ge (tgt := 330) X.x X.b dL_law_36 (by decide) (fun _ => ?_) (fun g => absurd (by decide) g)
    exact hend cells slots H locs ls (by omega) (by omega) hI9
  | succ d ih =>
    intro k cells slots H locs ls hk hc hs hI
    obtain ⟨acts, f, b, ws, ha, hH, hw, Z, hl⟩ := hI
    obtain ⟨n, hn, hsz⟩ := hH.sz
    have hlt : ¬ (34 : Int32) ≤ nI k := nI_ge (b := 34) (by omega) (by decide)
    refine lv_iload X.x X.b dL_law_32 (lv_at hl 0 rfl) ?_
    refine lv_bipush (v := 34) X.x X.b dL_law_34 kb_34 ?_
    refine lv_icmp_ge (tgt := 330) X.x X.b dL_law_36 (by decide) (fun g => absurd g hlt) (fun _ => ?_)
    refine lv_aload_n X.x X.b dL_law_39 rfl (lv_at hl 4 rfl) ?_
    refine lv_iload X.x X.b dL_law_40 (lv_at hl 0 rfl) ?_
    refine law_drawn hT Y hX hbl hL Z hl (k := k) (by omega) (by omega) (by omega) (fun x H locs Z => ?_)
    refine lv_istore (lv' := [(5, .int x), (4, .int (nI k)), (3, .int (nI acts)), (2, .ref aw), (1, .ref a), (0, .ref sb)]) X.x X.b dL_law_45 hl (Nat.le_of_ble_eq_true rfl) rfl (fun ls hl => ?_)
    have key : ∀ (kd : Nat) (H : Heap) (locs : List Loc), kd < 10 → zW Δ (fun q => s.heap.size ≤ q) s.heap (ws ++ [(aw, .inl (Δ.2.2.2.1, 64, .inr (.inl f)))]) H locs → W p l e room_1 s m #[Value.ref sb] below meth c H locs cells slots Q (F0 m 64 ls [.int (nI kd)]) := by
      intro kd H locs h6 Z
      refine lv_istore (lv' := [(6, .int (nI kd)), (5, .int x), (4, .int (nI k)), (3, .int (nI acts)), (2, .ref aw), (1, .ref a), (0, .ref sb)]) X.x X.b dL_law_64 hl (Nat.le_of_ble_eq_true rfl) rfl (fun ls hl => ?_)
      refine lv_aload_n X.x X.b dL_law_66 rfl (lv_at hl 5 rfl) ?_
      refine lv_bipush (v := 6) X.x X.b dL_law_67 kb_6 ?_
      refine o_call (wr := [(aw, .inl (Δ.2.2.2.1, 64, .inr (.inl f)))]) Y Z hl hw (C_count l hT Δ 6 (c_count6 _)) wd_290 wd_291 wd_292 wd_19 wd_293 ok_X6_count rfl rfl (rest := []) rfl (Nat.le_of_ble_eq_true rfl) ⟨Nat.le_of_ble_eq_true rfl, Nat.le_of_ble_eq_true rfl⟩ ⟨by show cells + 1 ≤ 641046; omega, by show slots + 6 ≤ 7178331; omega⟩ (c1 := (cells + 1)) (s1 := (slots + 6)) (by omega) (by omega) dL_law_69 (fun ws H locs hw Z => ?_)
      refine lv_istore (lv' := [(7, .int (nI b.2.1.length)), (6, .int (nI kd)), (5, .int x), (4, .int (nI k)), (3, .int (nI acts)), (2, .ref aw), (1, .ref a), (0, .ref sb)]) X.x X.b dL_law_72 hl (Nat.le_of_ble_eq_true rfl) rfl (fun ls hl => ?_)
      refine lv_iload X.x X.b dL_law_74 (lv_at hl 2 rfl) ?_
      refine lv_iconst (v := 4) X.x X.b dL_law_76 ki_4 ?_
      refine lv_ishr X.x X.b dL_law_77 ?_
      refine lv_bipush (v := 6) X.x X.b dL_law_78 kb_6 ?_
      refine o_stat (wc := []) (wr := (ws ++ [(aw, .inl (Δ.2.2.2.1, 64, .inr (.inl f)))])) Y Z hl (M_part l hT Δ (x >>> (4 &&& 31)) 6 (by decide)) wd_341 wd_342 wd_18 wd_343 ok_L_part rfl (rest := []) rfl (Nat.le_of_ble_eq_true rfl) ⟨Nat.le_of_ble_eq_true rfl, Nat.le_of_ble_eq_true rfl⟩ ⟨by show (cells + 1) + 0 ≤ 641046; omega, by show (slots + 6) + 0 ≤ 7178331; omega⟩ (c1 := (cells + 1)) (s1 := (slots + 6)) rfl rfl dL_law_80 (fun rv w1 H locs hP Z => ?_)
      obtain ⟨rfl, rfl⟩ := hP
      have Z : zW Δ (fun q => s.heap.size ≤ q) s.heap (ws ++ [(aw, .inl (Δ.2.2.2.1, 64, .inr (.inl f)))]) _ _ := Z
      obtain ⟨z1, hz1, ez1⟩ := p_part_lt (x >>> (4 &&& 31)) (N := 6) (by decide) (by decide)
      have ez1 : p_part (x >>> (4 &&& 31)) 6 = nI z1 := ez1
      refine W.eq (g2 := F0 m 83 ls [.int (p_part (x >>> (4 &&& 31)) 6)]) rfl ?_
      rw [ez1]
      refine lv_istore (lv' := [(8, .int (nI z1)), (7, .int (nI b.2.1.length)), (6, .int (nI kd)), (5, .int x), (4, .int (nI k)), (3, .int (nI acts)), (2, .ref aw), (1, .ref a), (0, .ref sb)]) X.x X.b dL_law_83 hl (Nat.le_of_ble_eq_true rfl) rfl (fun ls hl => ?_)
      refine lv_iload X.x X.b dL_law_85 (lv_at hl 3 rfl) ?_
      refine lv_bipush (v := 7) X.x X.b dL_law_87 kb_7 ?_
      refine lv_ishr X.x X.b dL_law_89 ?_
      refine lv_bipush (v := 12) X.x X.b dL_law_90 kb_12 ?_
      refine o_stat (wc := []) (wr := (ws ++ [(aw, .inl (Δ.2.2.2.1, 64, .inr (.inl f)))])) Y Z hl (M_part l hT Δ (x >>> (7 &&& 31)) 12 (by decide)) wd_341 wd_342 wd_18 wd_343 ok_L_part rfl (rest := []) rfl (Nat.le_of_ble_eq_true rfl) ⟨Nat.le_of_ble_eq_true rfl, Nat.le_of_ble_eq_true rfl⟩ ⟨by show (cells + 1) + 0 ≤ 641046; omega, by show (slots + 6) + 0 ≤ 7178331; omega⟩ (c1 := (cells + 1)) (s1 := (slots + 6)) rfl rfl dL_law_92 (fun rv w1 H locs hP Z => ?_)
      obtain ⟨rfl, rfl⟩ := hP
      have Z : zW Δ (fun q => s.heap.size ≤ q) s.heap (ws ++ [(aw, .inl (Δ.2.2.2.1, 64, .inr (.inl f)))]) _ _ := Z
      obtain ⟨z2, hz2, ez2⟩ := p_part_lt (x >>> (7 &&& 31)) (N := 12) (by decide) (by decide)
      have ez2 : p_part (x >>> (7 &&& 31)) 12 = nI z2 := ez2
      refine W.eq (g2 := F0 m 95 ls [.int (p_part (x >>> (7 &&& 31)) 12)]) rfl ?_
      rw [ez2]
      refine lv_istore (lv' := [(9, .int (nI z2)), (8, .int (nI z1)), (7, .int (nI b.2.1.length)), (6, .int (nI kd)), (5, .int x), (4, .int (nI k)), (3, .int (nI acts)), (2, .ref aw), (1, .ref a), (0, .ref sb)]) X.x X.b dL_law_95 hl (Nat.le_of_ble_eq_true rfl) rfl (fun ls hl => ?_)
      refine lv_aload_n X.x X.b dL_law_97 rfl (lv_at hl 7 rfl) ?_
      refine lv_iload_n X.x X.b dL_law_98 rfl (lv_at hl 6 rfl) ?_
      refine lv_aload_n X.x X.b dL_law_99 rfl (lv_at hl 8 rfl) ?_
      refine o_stat (wr := [(aw, .inl (Δ.2.2.2.1, 64, .inr (.inl f)))]) Y Z hl (M_seen l hT Δ hn hsz a ws hw) wd_766 wd_767 wd_18 wd_768 ok_L_seen rfl (rest := [.int (nI acts), .ref aw]) rfl (Nat.le_of_ble_eq_true rfl) ⟨Nat.le_of_ble_eq_true rfl, Nat.le_of_ble_eq_true rfl⟩ ⟨by show (cells + 1) + 900 ≤ 641046; omega, by show (slots + 6) + 5400 ≤ 7178331; omega⟩ (c1 := (cells + 901)) (s1 := (slots + 5406)) (by omega) (by omega) dL_law_100 (fun rv ws H locs hP Z => ?_)
      obtain ⟨rfl, hw⟩ := hP
      refine W.eq (g2 := F0 m 103 ls [.long (pseen b.1), .int (nI acts), .ref aw]) rfl ?_
      have Zp := Z.perm List.perm_append_comm
      refine z_last (w' := [(aw, .inl (Δ.2.2.2.1, 64, .inr (.inl (vp_updL f (nI acts).toNatClampNeg (pseen b.1)))))] ++ ws) X Zp 0 rfl (vp_in_nI (by omega) (by decide)) rfl dL_law_103 (fun H locs Z => ?_)
      have Z := Z.perm List.perm_append_comm
      exact law_act hT Y (by omega) ha (hH.set (by omega) _) (updL_at f (by omega) _) (fun cells slots H locs ls h1 h2 h3 => ih (k + 1) cells slots H locs ls (by omega) h1 h2 h3) h6 hz1 hz2 hw Z (lv_sub hl [0, 1, 2, 3, 4, 5, 6, 7, 8, 9] rfl) (by omega) (by omega)
    refine lv_iload X.x X.b dL_law_47 (lv_at hl 1 rfl) ?_
    refine lv_iconst (v := 4) X.x X.b dL_law_49 ki_4 ?_
    by_cases c4 : k < 4
    · have g : ¬ (4 : Int32) ≤ nI k := nI_ge (b := 4) c4 (by decide)
      refine lv_icmp_ge (tgt := 57) X.x X.b dL_law_50 (by decide) (fun g2 => absurd g2 g) (fun _ => ?_)
      refine lv_iconst (v := 0) X.x X.b dL_law_53 ki_0 ?_
      refine lv_goto (tgt := 64) X.x X.b dL_law_54 (by decide) ?_
      exact key 0 _ _ (by decide) Z
    · have g : (4 : Int32) ≤ nI k := nI_le (a := 4) (by omega) (by omega)
      refine lv_icmp_ge (tgt := 57) X.x X.b dL_law_50 (by decide) (fun _ => ?_) (fun g2 => absurd g g2)
      refine lv_iload X.x X.b dL_law_57 (lv_at hl 0 rfl) ?_
      refine lv_bipush (v := 10) X.x X.b dL_law_59 kb_10 ?_
      refine o_stat (wc := []) (wr := (ws ++ [(aw, .inl (Δ.2.2.2.1, 64, .inr (.inl f)))])) Y Z hl (M_part l hT Δ x 10 (by decide)) wd_341 wd_342 wd_18 wd_343 ok_L_part rfl (rest := []) rfl (Nat.le_of_ble_eq_true rfl) ⟨Nat.le_of_ble_eq_true rfl, Nat.le_of_ble_eq_true rfl⟩ ⟨by show cells + 0 ≤ 641046; omega, by show slots + 0 ≤ 7178331; omega⟩ (c1 := cells) (s1 := slots) rfl rfl dL_law_61 (fun rv w1 H locs hP Z => ?_)
      obtain ⟨rfl, rfl⟩ := hP
      have Z : zW Δ (fun q => s.heap.size ≤ q) s.heap (ws ++ [(aw, .inl (Δ.2.2.2.1, 64, .inr (.inl f)))]) _ _ := Z
      obtain ⟨z1, hz1, ez1⟩ := p_part_lt x (N := 10) (by decide) (by decide)
      have ez1 : p_part x 10 = nI z1 := ez1
      refine W.eq (g2 := F0 m 64 ls [.int (p_part x 10)]) rfl ?_
      rw [ez1]
      exact key _ _ _ hz1 Z
