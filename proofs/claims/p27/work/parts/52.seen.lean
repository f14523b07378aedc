/-! THE LAW: seen -/
def zv (x : Option ((String ⊕ Int32) × zOb)) : Int32 := match x with
  | some (.inr v, _) => v
  | _ => 0
def sb0 (t : tSC) : zOb := (t, [], 0, [])
def sfold (g : Nat → Int32) : Nat → Nat → Int64 → Int64
  | 0, _, h => h
  | d + 1, j, h => sfold g d (j + 1) (31 * h + (g j).toInt64)
def sg1 (t : tSC) (j : Nat) : Int32 := zv (s_count (sb0 t) (nI j))
def sg2 (t : tSC) (j : Nat) : Int32 := zv (s_part (sb0 t) (nI (j / 7)) (nI (j % 7)))
def sg3 (t : tSC) (j : Nat) : Int32 := zv (s_knows (sb0 t) (nI (j % 6)) (nI (j / 6)))
def sg4 (t : tSC) (j : Nat) : Int32 := zv (s_reader (sb0 t) (nI (j / 7)) (nI (j % 7)))
/-- what seen answers -/
def pseen (t : tSC) : Int64 := sfold (sg4 t) 42 0 (sfold (sg3 t) (6 * t.2.2.1.toNatClampNeg) 0 (sfold (sg2 t) (7 * t.2.2.1.toNatClampNeg) 0 (sfold (sg1 t) 6 0 (31 * (zv (s_setting (sb0 t) 0)).toInt64 + (zv (s_setting (sb0 t) 1)).toInt64))))
theorem nI_mul (a b : Nat) : nI a * nI b = nI (a * b) := (Int32.ofNat_mul a b).symm
theorem dv7 : ∀ a, a < 140 → nI a / 7 = nI (a / 7) ∧ nI a - nI a / 7 * 7 = nI (a % 7) := by decide +kernel
theorem dv6 : ∀ a, a < 120 → nI a / 6 = nI (a / 6) ∧ nI a - nI a / 6 * 6 = nI (a % 6) := by decide +kernel
theorem c_what {w l : Nat} (h : w ≤ l) (hl : l < 2 ^ 31) : fX6_checkWhat (nI w) (nI l) = some (.inr ()) := by
  unfold fX6_checkWhat
  rw [if_neg (nI_pos (by omega)), if_pos (nI_le h hl)]
theorem c_reader {r : Nat} (h : r < 6) : fX6_checkReader (nI r) = some (.inr ()) := by
  have e : nI r < 6 := nI_lt (b := 6) h (by decide)
  unfold fX6_checkReader
  rw [if_neg (nI_pos (by omega)), if_pos e]
theorem c_part {p n : Nat} (h : p < n) (hn : n ≤ 20) : fX6_checkPart (nI n) (nI p) = some (.inr ()) := by
  unfold fX6_checkPart
  rw [if_neg (nI_pos (by omega)), if_pos (nI_lt h (by omega))]
theorem sn_set0 (b : zOb) : s_setting b 0 = some (.inr (zv (s_setting (sb0 b.1) 0)), b) := rfl
theorem sn_set1 (b : zOb) : s_setting b 1 = some (.inr (zv (s_setting (sb0 b.1) 1)), b) := rfl
theorem sn_count {b : zOb} {n : Nat} (hn : n ≤ 20) (hs : (tF b.1).2.2.1 = nI n) {j : Nat} (hj : j < 6) : s_count b (nI j) = some (.inr (sg1 b.1 j), b) := by
  obtain ⟨v, hv⟩ : ∃ v, ∀ kept : Int32, fX6_count (tF b.1).1 (tF b.1).2.1 (tF b.1).2.2.1 (tF b.1).2.2.2.2.2.1 (tF b.1).2.2.2.2.2.2.2.1 (tF b.1).2.2.2.2.2.2.2.2.1 (tF b.1).2.2.2.2.2.2.2.2.2.1 kept (nI j) = some (.inr v) := by
    obtain ⟨v, hv⟩ := t_all hn (tF b.1).1 (tF b.1).2.1 (tF b.1).2.2.2.2.2.1 (tF b.1).2.2.2.2.2.2.2.1 (tF b.1).2.2.2.2.2.2.2.2.1 (tF b.1).2.2.2.2.2.2.2.2.2.1 (nI j)
    refine ⟨v, fun kept => ?_⟩
    have h1 : fX6_checkWhat (nI j) 6 = some (.inr ()) := c_what (l := 6) (by omega) (by decide)
    have h6 : ¬ nI j = 6 := fun h => absurd ((nI_eq (b := 6) (by omega) (by decide)).mp h) (by omega)
    unfold fX6_count
    rw [h1]
    show (fX6_total _ _ _ _ _ _ _ kept (nI j)).bind _ = _
    unfold fX6_total
    rw [if_neg h6, hs, hv]
    rfl
  have h1 : s_count (sb0 b.1) (nI j) = some (.inr v, sb0 b.1) := lk_count (hv _)
  have h2 : sg1 b.1 j = v := by
    unfold sg1
    rw [h1]
    rfl
  rw [h2]
  exact lk_count (hv _)
theorem sn_part {b : zOb} {n : Nat} (hn : n ≤ 20) (hs : (tF b.1).2.2.1 = nI n) {j : Nat} (hj : j < 7 * n) : s_part b (nI (j / 7)) (nI (j % 7)) = some (.inr (sg2 b.1 j), b) := by
  obtain ⟨v, hv⟩ : ∃ v, fX6_part (tF b.1).2.2.1 (tF b.1).2.2.2.1 (tF b.1).2.2.2.2.1 (tF b.1).2.2.2.2.2.1 (tF b.1).2.2.2.2.2.2.1 (tF b.1).2.2.2.2.2.2.2.2.1 (nI (j / 7)) (nI (j % 7)) = some (.inr v) := by
    obtain ⟨v, hv⟩ := t_part hn (tF b.1).2.2.2.1 (tF b.1).2.2.2.2.1 (tF b.1).2.2.2.2.2.1 (tF b.1).2.2.2.2.2.2.1 (tF b.1).2.2.2.2.2.2.2.2.1 (p := j / 7) (by omega) (nI (j % 7))
    refine ⟨v, ?_⟩
    have h2 : fX6_checkWhat (nI (j % 7)) 6 = some (.inr ()) := c_what (l := 6) (by omega) (by decide)
    unfold fX6_part
    rw [hs, c_part (by omega) hn, h2, hv]
    rfl
  have h1 : s_part (sb0 b.1) (nI (j / 7)) (nI (j % 7)) = some (.inr v, sb0 b.1) := lk_part (hv)
  have h2 : sg2 b.1 j = v := by
    unfold sg2
    rw [h1]
    rfl
  rw [h2]
  exact lk_part (hv)
theorem sn_knows {b : zOb} {n : Nat} (hn : n ≤ 20) (hs : (tF b.1).2.2.1 = nI n) {j : Nat} (hj : j < 6 * n) : s_knows b (nI (j % 6)) (nI (j / 6)) = some (.inr (sg3 b.1 j), b) := by
  obtain ⟨v, hv⟩ : ∃ v, fX6_knows (tF b.1).2.2.1 (tF b.1).2.2.2.2.2.2.2.1 (tF b.1).2.2.2.2.2.2.2.2.1 (nI (j % 6)) (nI (j / 6)) = some (.inr v) := by
    obtain ⟨v, hv⟩ := t_knowledge (tF b.1).2.2.2.2.2.2.2.1 (tF b.1).2.2.2.2.2.2.2.2.1 (r := j % 6) (by omega) (nI (j / 6))
    refine ⟨v, ?_⟩
    unfold fX6_knows
    rw [hs, c_reader (by omega), c_part (by omega) hn, hv]
    rfl
  have h1 : s_knows (sb0 b.1) (nI (j % 6)) (nI (j / 6)) = some (.inr v, sb0 b.1) := lk_knows (hv)
  have h2 : sg3 b.1 j = v := by
    unfold sg3
    rw [h1]
    rfl
  rw [h2]
  exact lk_knows (hv)
theorem sn_reader {b : zOb} {n : Nat} (hn : n ≤ 20) (hs : (tF b.1).2.2.1 = nI n) {j : Nat} (hj : j < 42) : s_reader b (nI (j / 7)) (nI (j % 7)) = some (.inr (sg4 b.1 j), b) := by
  obtain ⟨v, hv⟩ : ∃ v, fX6_reader (tF b.1).2.2.1 (tF b.1).2.2.2.1 (tF b.1).2.2.2.2.1 (tF b.1).2.2.2.2.2.2.2.1 (tF b.1).2.2.2.2.2.2.2.2.1 (tF b.1).2.2.2.2.2.2.2.2.2.1 (tF b.1).2.2.2.2.2.2.2.2.2.2.1 (tF b.1).2.2.2.2.2.2.2.2.2.2.2.1 (nI (j / 7)) (nI (j % 7)) = some (.inr v) := by
    obtain ⟨v, hv⟩ := t_reader hn (tF b.1).2.2.2.1 (tF b.1).2.2.2.2.1 (tF b.1).2.2.2.2.2.2.2.1 (tF b.1).2.2.2.2.2.2.2.2.1 (tF b.1).2.2.2.2.2.2.2.2.2.1 (tF b.1).2.2.2.2.2.2.2.2.2.2.1 (tF b.1).2.2.2.2.2.2.2.2.2.2.2.1 (r := j / 7) (by omega) (nI (j % 7))
    refine ⟨v, ?_⟩
    have h2 : fX6_checkWhat (nI (j % 7)) 6 = some (.inr ()) := c_what (l := 6) (by omega) (by decide)
    unfold fX6_reader
    rw [hs, c_reader (by omega), h2, hv]
    rfl
  have h1 : s_reader (sb0 b.1) (nI (j / 7)) (nI (j % 7)) = some (.inr v, sb0 b.1) := lk_reader (hv)
  have h2 : sg4 b.1 j = v := by
    unfold sg4
    rw [h1]
    rfl
  rw [h2]
  exact lk_reader (hv)
set_option maxRecDepth 100000 in
set_option maxHeartbeats 4000000 in
theorem M_seen (l : Launch) (hT : l.stackTraces = false) (Δ : zE) {b : zOb} {n : Nat} (hn : n ≤ 20) (hs : (tF b.1).2.2.1 = nI n) (a : Nat) (ws : va_W) (hw : wOb Δ a b ws) : zMX l Δ yL_seen (.code yL_seen cL_seen 4 (some .long)) 8 133 900 5400 [.ref a] ws (fun rv w => rv = some (.long (pseen b.1)) ∧ wOb Δ a b w) (fun _ _ => False) := by
  refine x_start hT (by decide +kernel) (Nat.le_of_ble_eq_true rfl) ?_
  intro p e s m args below meth c A ls Y htab Z hl
  have X := Y.1
  have hl : lv_has ls 4 [(0, .ref a)] := hl
  rw [← List.append_nil ws] at Z
  have hcl : b.1.2.2.1.toNatClampNeg = n := by
    have h1 : b.1.2.2.1 = nI n := hs
    rw [h1]
    exact nI_clamp (by omega)
  have hc0 : s_count b 0 = some (.inr (nI n), b) := by rw [c_count0, hs]
  have L127 : ∀ (d j : Nat) (h : Int64) (cells slots : Nat) (H : Heap) (locs : List Loc) (ls : Array Slot) (ws : va_W), j + d = 42 → cells + 2 * d + 0 ≤ 900 → slots + 12 * d + 0 ≤ 5400 → (sfold (sg4 b.1) d j h) = pseen b.1 → wOb Δ a b ws → zW Δ A s.heap (ws ++ []) H locs → lv_has ls 4 [(3, .int (nI j)), (1, .long h), (0, .ref a)] → W p l e { frames := 8, cells := 900, slots := 5400, locals := 133 } s m args below meth c H locs cells slots (zEndX Δ below args s 900 5400 A (fun rv w => rv = some (.long (pseen b.1)) ∧ wOb Δ a b w) (fun _ _ => False)) (F0 m 127 ls []) := by
    intro d
    induction d with
    | zero =>
      intro j h cells slots H locs ls ws hj hc hk hv hw Z hl
      refine lv_iload_n X.x X.b dL_seen_127 rfl (lv_at hl 0 rfl) ?_
      refine lv_bipush (v := 42) X.x X.b dL_seen_128 kb_42 ?_
      have e : ((42 : Int32) ≤ nI j) := nI_le (a := 42) (by omega) (by omega)
      refine lv_icmp_ge (tgt := 159) X.x X.b dL_seen_130 (by decide) (fun _ => ?_) (fun g => absurd e g)
      refine lv_lload_n X.x X.b dL_seen_159 rfl (lv_at hl 1 rfl) ?_
      obtain rfl : h = pseen b.1 := hv
      rw [List.append_nil] at Z
      exact x_lret X Z ⟨rfl, hw⟩ (by omega) (by omega) dL_seen_160
    | succ d ih =>
      intro j h cells slots H locs ls ws hj hc hk hv hw Z hl
      refine lv_iload_n X.x X.b dL_seen_127 rfl (lv_at hl 0 rfl) ?_
      refine lv_bipush (v := 42) X.x X.b dL_seen_128 kb_42 ?_
      have e : ¬ ((42 : Int32) ≤ nI j) := nI_ge (b := 42) (by omega) (by omega)
      refine lv_icmp_ge (tgt := 159) X.x X.b dL_seen_130 (by decide) (fun g => absurd g e) (fun _ => ?_)
      refine lv_ldc2 (v := 31) X.x X.b X.own (X.ts _ wd_769) dL_seen_133 ?_
      refine lv_lload_n X.x X.b dL_seen_136 rfl (lv_at hl 1 rfl) ?_
      refine lv_lmul X.x X.b dL_seen_137 ?_
      refine lv_aload_n X.x X.b dL_seen_138 rfl (lv_at hl 2 rfl) ?_
      obtain ⟨d1, d2⟩ := dv7 j (by omega)
      refine lv_iload_n X.x X.b dL_seen_139 rfl (lv_at hl 0 rfl) ?_
      refine lv_bipush (v := 7) X.x X.b dL_seen_140 kb_7 ?_
      refine lv_idiv X.x X.b dL_seen_142 (by decide) ?_
      rw [d1]
      refine lv_iload_n X.x X.b dL_seen_143 rfl (lv_at hl 0 rfl) ?_
      refine lv_bipush (v := 7) X.x X.b dL_seen_144 kb_7 ?_
      refine lv_irem X.x X.b dL_seen_146 (by decide) ?_
      rw [d2]
      refine o_call (wr := []) Y Z hl hw (C_reader l hT Δ (nI (j / 7)) (nI (j % 7)) (sn_reader hn hs (by omega))) wd_605 wd_606 wd_607 wd_19 wd_608 ok_X6_reader rfl rfl (rest := [.long (31 * h)]) rfl (Nat.le_of_ble_eq_true rfl) ⟨Nat.le_of_ble_eq_true rfl, Nat.le_of_ble_eq_true rfl⟩ ⟨by show cells + 2 ≤ 900; omega, by show slots + 12 ≤ 5400; omega⟩ (c1 := cells + 2) (s1 := slots + 12) rfl rfl dL_seen_147 (fun ws H locs hw Z => ?_)
      refine lv_i2l (v := (sg4 b.1 j).toInt64) X.x X.b dL_seen_150 rfl ?_
      refine lv_ladd X.x X.b dL_seen_151 ?_
      refine lv_lstore_n (lv' := [(1, .long (31 * h + (sg4 b.1 j).toInt64)), (3, .int (nI j)), (0, .ref a)]) X.x X.b dL_seen_152 rfl hl (Nat.le_of_ble_eq_true rfl) rfl (fun ls hl => ?_)
      refine lv_iinc (v := nI (j + 1)) (lv' := [(3, .int (nI (j + 1))), (1, .long (31 * h + (sg4 b.1 j).toInt64)), (0, .ref a)]) X.x X.b dL_seen_153 hl (k := 1) rfl ((congrArg _ ki_1).trans (nI_1 j)) (Nat.le_of_ble_eq_true rfl) rfl (fun ls hl => ?_)
      refine lv_goto (tgt := 127) X.x X.b dL_seen_156 (by decide) ?_
      exact ih (j + 1) _ _ _ H locs ls ws (by omega) (by omega) (by omega) hv hw Z hl
  have L87 : ∀ (d j : Nat) (h : Int64) (cells slots : Nat) (H : Heap) (locs : List Loc) (ls : Array Slot) (ws : va_W), j + d = 6 * n → cells + 3 * d + 85 ≤ 900 → slots + 18 * d + 510 ≤ 5400 → sfold (sg4 b.1) 42 0 (sfold (sg3 b.1) d j h) = pseen b.1 → wOb Δ a b ws → zW Δ A s.heap (ws ++ []) H locs → lv_has ls 4 [(3, .int (nI j)), (1, .long h), (0, .ref a)] → W p l e { frames := 8, cells := 900, slots := 5400, locals := 133 } s m args below meth c H locs cells slots (zEndX Δ below args s 900 5400 A (fun rv w => rv = some (.long (pseen b.1)) ∧ wOb Δ a b w) (fun _ _ => False)) (F0 m 87 ls []) := by
    intro d
    induction d with
    | zero =>
      intro j h cells slots H locs ls ws hj hc hk hv hw Z hl
      refine lv_iload_n X.x X.b dL_seen_87 rfl (lv_at hl 0 rfl) ?_
      refine lv_bipush (v := 6) X.x X.b dL_seen_88 kb_6 ?_
      refine lv_aload_n X.x X.b dL_seen_90 rfl (lv_at hl 2 rfl) ?_
      refine lv_iconst (v := 0) X.x X.b dL_seen_91 ki_0 ?_
      refine o_call (wr := []) Y Z hl hw (C_count l hT Δ 0 hc0) wd_290 wd_291 wd_292 wd_19 wd_293 ok_X6_count rfl rfl (rest := [.int 6, .int (nI j)]) rfl (Nat.le_of_ble_eq_true rfl) ⟨Nat.le_of_ble_eq_true rfl, Nat.le_of_ble_eq_true rfl⟩ ⟨by show cells + 1 ≤ 900; omega, by show slots + 6 ≤ 5400; omega⟩ (c1 := cells + 1) (s1 := slots + 6) rfl rfl dL_seen_92 (fun ws H locs hw Z => ?_)
      refine lv_imul X.x X.b dL_seen_95 ?_
      rw [show (6 : Int32) * nI n = nI (6 * n) from nI_mul 6 n]
      have e : (nI (6 * n) ≤ nI j) := nI_le (by omega) (by omega)
      refine lv_icmp_ge (tgt := 125) X.x X.b dL_seen_96 (by decide) (fun _ => ?_) (fun g => absurd e g)
      refine lv_iconst (v := 0) X.x X.b dL_seen_125 ki_0 ?_
      refine lv_istore_n (lv' := [(3, .int 0), (1, .long h), (0, .ref a)]) X.x X.b dL_seen_126 rfl hl (Nat.le_of_ble_eq_true rfl) rfl (fun ls hl => ?_)
      exact L127 42 0 h _ _ H locs ls ws (by omega) (by omega) (by omega) hv hw Z hl
    | succ d ih =>
      intro j h cells slots H locs ls ws hj hc hk hv hw Z hl
      refine lv_iload_n X.x X.b dL_seen_87 rfl (lv_at hl 0 rfl) ?_
      refine lv_bipush (v := 6) X.x X.b dL_seen_88 kb_6 ?_
      refine lv_aload_n X.x X.b dL_seen_90 rfl (lv_at hl 2 rfl) ?_
      refine lv_iconst (v := 0) X.x X.b dL_seen_91 ki_0 ?_
      refine o_call (wr := []) Y Z hl hw (C_count l hT Δ 0 hc0) wd_290 wd_291 wd_292 wd_19 wd_293 ok_X6_count rfl rfl (rest := [.int 6, .int (nI j)]) rfl (Nat.le_of_ble_eq_true rfl) ⟨Nat.le_of_ble_eq_true rfl, Nat.le_of_ble_eq_true rfl⟩ ⟨by show cells + 1 ≤ 900; omega, by show slots + 6 ≤ 5400; omega⟩ (c1 := cells + 1) (s1 := slots + 6) rfl rfl dL_seen_92 (fun ws H locs hw Z => ?_)
      refine lv_imul X.x X.b dL_seen_95 ?_
      rw [show (6 : Int32) * nI n = nI (6 * n) from nI_mul 6 n]
      have e : ¬ (nI (6 * n) ≤ nI j) := nI_ge (by omega) (by omega)
      refine lv_icmp_ge (tgt := 125) X.x X.b dL_seen_96 (by decide) (fun g => absurd g e) (fun _ => ?_)
      refine lv_ldc2 (v := 31) X.x X.b X.own (X.ts _ wd_769) dL_seen_99 ?_
      refine lv_lload_n X.x X.b dL_seen_102 rfl (lv_at hl 1 rfl) ?_
      refine lv_lmul X.x X.b dL_seen_103 ?_
      refine lv_aload_n X.x X.b dL_seen_104 rfl (lv_at hl 2 rfl) ?_
      obtain ⟨d1, d2⟩ := dv6 j (by omega)
      refine lv_iload_n X.x X.b dL_seen_105 rfl (lv_at hl 0 rfl) ?_
      refine lv_bipush (v := 6) X.x X.b dL_seen_106 kb_6 ?_
      refine lv_irem X.x X.b dL_seen_108 (by decide) ?_
      rw [d2]
      refine lv_iload_n X.x X.b dL_seen_109 rfl (lv_at hl 0 rfl) ?_
      refine lv_bipush (v := 6) X.x X.b dL_seen_110 kb_6 ?_
      refine lv_idiv X.x X.b dL_seen_112 (by decide) ?_
      rw [d1]
      refine o_call (wr := []) Y Z hl hw (C_knows l hT Δ (nI (j % 6)) (nI (j / 6)) (sn_knows hn hs (by omega))) wd_597 wd_598 wd_599 wd_19 wd_600 ok_X6_knows rfl rfl (rest := [.long (31 * h)]) rfl (Nat.le_of_ble_eq_true rfl) ⟨Nat.le_of_ble_eq_true rfl, Nat.le_of_ble_eq_true rfl⟩ ⟨by show cells + 1 + 2 ≤ 900; omega, by show slots + 6 + 12 ≤ 5400; omega⟩ (c1 := cells + 3) (s1 := slots + 18) rfl rfl dL_seen_113 (fun ws H locs hw Z => ?_)
      refine lv_i2l (v := (sg3 b.1 j).toInt64) X.x X.b dL_seen_116 rfl ?_
      refine lv_ladd X.x X.b dL_seen_117 ?_
      refine lv_lstore_n (lv' := [(1, .long (31 * h + (sg3 b.1 j).toInt64)), (3, .int (nI j)), (0, .ref a)]) X.x X.b dL_seen_118 rfl hl (Nat.le_of_ble_eq_true rfl) rfl (fun ls hl => ?_)
      refine lv_iinc (v := nI (j + 1)) (lv' := [(3, .int (nI (j + 1))), (1, .long (31 * h + (sg3 b.1 j).toInt64)), (0, .ref a)]) X.x X.b dL_seen_119 hl (k := 1) rfl ((congrArg _ ki_1).trans (nI_1 j)) (Nat.le_of_ble_eq_true rfl) rfl (fun ls hl => ?_)
      refine lv_goto (tgt := 87) X.x X.b dL_seen_122 (by decide) ?_
      exact ih (j + 1) _ _ _ H locs ls ws (by omega) (by omega) (by omega) hv hw Z hl
  have L47 : ∀ (d j : Nat) (h : Int64) (cells slots : Nat) (H : Heap) (locs : List Loc) (ls : Array Slot) (ws : va_W), j + d = 7 * n → cells + 3 * d + 446 ≤ 900 → slots + 18 * d + 2676 ≤ 5400 → sfold (sg4 b.1) 42 0 (sfold (sg3 b.1) (6 * n) 0 (sfold (sg2 b.1) d j h)) = pseen b.1 → wOb Δ a b ws → zW Δ A s.heap (ws ++ []) H locs → lv_has ls 4 [(3, .int (nI j)), (1, .long h), (0, .ref a)] → W p l e { frames := 8, cells := 900, slots := 5400, locals := 133 } s m args below meth c H locs cells slots (zEndX Δ below args s 900 5400 A (fun rv w => rv = some (.long (pseen b.1)) ∧ wOb Δ a b w) (fun _ _ => False)) (F0 m 47 ls []) := by
    intro d
    induction d with
    | zero =>
      intro j h cells slots H locs ls ws hj hc hk hv hw Z hl
      refine lv_iload_n X.x X.b dL_seen_47 rfl (lv_at hl 0 rfl) ?_
      refine lv_bipush (v := 7) X.x X.b dL_seen_48 kb_7 ?_
      refine lv_aload_n X.x X.b dL_seen_50 rfl (lv_at hl 2 rfl) ?_
      refine lv_iconst (v := 0) X.x X.b dL_seen_51 ki_0 ?_
      refine o_call (wr := []) Y Z hl hw (C_count l hT Δ 0 hc0) wd_290 wd_291 wd_292 wd_19 wd_293 ok_X6_count rfl rfl (rest := [.int 7, .int (nI j)]) rfl (Nat.le_of_ble_eq_true rfl) ⟨Nat.le_of_ble_eq_true rfl, Nat.le_of_ble_eq_true rfl⟩ ⟨by show cells + 1 ≤ 900; omega, by show slots + 6 ≤ 5400; omega⟩ (c1 := cells + 1) (s1 := slots + 6) rfl rfl dL_seen_52 (fun ws H locs hw Z => ?_)
      refine lv_imul X.x X.b dL_seen_55 ?_
      rw [show (7 : Int32) * nI n = nI (7 * n) from nI_mul 7 n]
      have e : (nI (7 * n) ≤ nI j) := nI_le (by omega) (by omega)
      refine lv_icmp_ge (tgt := 85) X.x X.b dL_seen_56 (by decide) (fun _ => ?_) (fun g => absurd e g)
      refine lv_iconst (v := 0) X.x X.b dL_seen_85 ki_0 ?_
      refine lv_istore_n (lv' := [(3, .int 0), (1, .long h), (0, .ref a)]) X.x X.b dL_seen_86 rfl hl (Nat.le_of_ble_eq_true rfl) rfl (fun ls hl => ?_)
      exact L87 (6 * n) 0 h _ _ H locs ls ws (by omega) (by omega) (by omega) hv hw Z hl
    | succ d ih =>
      intro j h cells slots H locs ls ws hj hc hk hv hw Z hl
      refine lv_iload_n X.x X.b dL_seen_47 rfl (lv_at hl 0 rfl) ?_
      refine lv_bipush (v := 7) X.x X.b dL_seen_48 kb_7 ?_
      refine lv_aload_n X.x X.b dL_seen_50 rfl (lv_at hl 2 rfl) ?_
      refine lv_iconst (v := 0) X.x X.b dL_seen_51 ki_0 ?_
      refine o_call (wr := []) Y Z hl hw (C_count l hT Δ 0 hc0) wd_290 wd_291 wd_292 wd_19 wd_293 ok_X6_count rfl rfl (rest := [.int 7, .int (nI j)]) rfl (Nat.le_of_ble_eq_true rfl) ⟨Nat.le_of_ble_eq_true rfl, Nat.le_of_ble_eq_true rfl⟩ ⟨by show cells + 1 ≤ 900; omega, by show slots + 6 ≤ 5400; omega⟩ (c1 := cells + 1) (s1 := slots + 6) rfl rfl dL_seen_52 (fun ws H locs hw Z => ?_)
      refine lv_imul X.x X.b dL_seen_55 ?_
      rw [show (7 : Int32) * nI n = nI (7 * n) from nI_mul 7 n]
      have e : ¬ (nI (7 * n) ≤ nI j) := nI_ge (by omega) (by omega)
      refine lv_icmp_ge (tgt := 85) X.x X.b dL_seen_56 (by decide) (fun g => absurd g e) (fun _ => ?_)
      refine lv_ldc2 (v := 31) X.x X.b X.own (X.ts _ wd_769) dL_seen_59 ?_
      refine lv_lload_n X.x X.b dL_seen_62 rfl (lv_at hl 1 rfl) ?_
      refine lv_lmul X.x X.b dL_seen_63 ?_
      refine lv_aload_n X.x X.b dL_seen_64 rfl (lv_at hl 2 rfl) ?_
      obtain ⟨d1, d2⟩ := dv7 j (by omega)
      refine lv_iload_n X.x X.b dL_seen_65 rfl (lv_at hl 0 rfl) ?_
      refine lv_bipush (v := 7) X.x X.b dL_seen_66 kb_7 ?_
      refine lv_idiv X.x X.b dL_seen_68 (by decide) ?_
      rw [d1]
      refine lv_iload_n X.x X.b dL_seen_69 rfl (lv_at hl 0 rfl) ?_
      refine lv_bipush (v := 7) X.x X.b dL_seen_70 kb_7 ?_
      refine lv_irem X.x X.b dL_seen_72 (by decide) ?_
      rw [d2]
      refine o_call (wr := []) Y Z hl hw (C_part l hT Δ (nI (j / 7)) (nI (j % 7)) (sn_part hn hs (by omega))) wd_584 wd_585 wd_586 wd_19 wd_587 ok_X6_part rfl rfl (rest := [.long (31 * h)]) rfl (Nat.le_of_ble_eq_true rfl) ⟨Nat.le_of_ble_eq_true rfl, Nat.le_of_ble_eq_true rfl⟩ ⟨by show cells + 1 + 2 ≤ 900; omega, by show slots + 6 + 12 ≤ 5400; omega⟩ (c1 := cells + 3) (s1 := slots + 18) rfl rfl dL_seen_73 (fun ws H locs hw Z => ?_)
      refine lv_i2l (v := (sg2 b.1 j).toInt64) X.x X.b dL_seen_76 rfl ?_
      refine lv_ladd X.x X.b dL_seen_77 ?_
      refine lv_lstore_n (lv' := [(1, .long (31 * h + (sg2 b.1 j).toInt64)), (3, .int (nI j)), (0, .ref a)]) X.x X.b dL_seen_78 rfl hl (Nat.le_of_ble_eq_true rfl) rfl (fun ls hl => ?_)
      refine lv_iinc (v := nI (j + 1)) (lv' := [(3, .int (nI (j + 1))), (1, .long (31 * h + (sg2 b.1 j).toInt64)), (0, .ref a)]) X.x X.b dL_seen_79 hl (k := 1) rfl ((congrArg _ ki_1).trans (nI_1 j)) (Nat.le_of_ble_eq_true rfl) rfl (fun ls hl => ?_)
      refine lv_goto (tgt := 47) X.x X.b dL_seen_82 (by decide) ?_
      exact ih (j + 1) _ _ _ H locs ls ws (by omega) (by omega) (by omega) hv hw Z hl
  have L20 : ∀ (d j : Nat) (h : Int64) (cells slots : Nat) (H : Heap) (locs : List Loc) (ls : Array Slot) (ws : va_W), j + d = 6 → cells + 1 * d + 866 ≤ 900 → slots + 6 * d + 5196 ≤ 5400 → sfold (sg4 b.1) 42 0 (sfold (sg3 b.1) (6 * n) 0 (sfold (sg2 b.1) (7 * n) 0 (sfold (sg1 b.1) d j h))) = pseen b.1 → wOb Δ a b ws → zW Δ A s.heap (ws ++ []) H locs → lv_has ls 4 [(3, .int (nI j)), (1, .long h), (0, .ref a)] → W p l e { frames := 8, cells := 900, slots := 5400, locals := 133 } s m args below meth c H locs cells slots (zEndX Δ below args s 900 5400 A (fun rv w => rv = some (.long (pseen b.1)) ∧ wOb Δ a b w) (fun _ _ => False)) (F0 m 20 ls []) := by
    intro d
    induction d with
    | zero =>
      intro j h cells slots H locs ls ws hj hc hk hv hw Z hl
      refine lv_iload_n X.x X.b dL_seen_20 rfl (lv_at hl 0 rfl) ?_
      refine lv_bipush (v := 6) X.x X.b dL_seen_21 kb_6 ?_
      have e : ((6 : Int32) ≤ nI j) := nI_le (a := 6) (by omega) (by omega)
      refine lv_icmp_ge (tgt := 45) X.x X.b dL_seen_23 (by decide) (fun _ => ?_) (fun g => absurd e g)
      refine lv_iconst (v := 0) X.x X.b dL_seen_45 ki_0 ?_
      refine lv_istore_n (lv' := [(3, .int 0), (1, .long h), (0, .ref a)]) X.x X.b dL_seen_46 rfl hl (Nat.le_of_ble_eq_true rfl) rfl (fun ls hl => ?_)
      exact L47 (7 * n) 0 h _ _ H locs ls ws (by omega) (by omega) (by omega) hv hw Z hl
    | succ d ih =>
      intro j h cells slots H locs ls ws hj hc hk hv hw Z hl
      refine lv_iload_n X.x X.b dL_seen_20 rfl (lv_at hl 0 rfl) ?_
      refine lv_bipush (v := 6) X.x X.b dL_seen_21 kb_6 ?_
      have e : ¬ ((6 : Int32) ≤ nI j) := nI_ge (b := 6) (by omega) (by omega)
      refine lv_icmp_ge (tgt := 45) X.x X.b dL_seen_23 (by decide) (fun g => absurd g e) (fun _ => ?_)
      refine lv_ldc2 (v := 31) X.x X.b X.own (X.ts _ wd_769) dL_seen_26 ?_
      refine lv_lload_n X.x X.b dL_seen_29 rfl (lv_at hl 1 rfl) ?_
      refine lv_lmul X.x X.b dL_seen_30 ?_
      refine lv_aload_n X.x X.b dL_seen_31 rfl (lv_at hl 2 rfl) ?_
      refine lv_iload_n X.x X.b dL_seen_32 rfl (lv_at hl 0 rfl) ?_
      refine o_call (wr := []) Y Z hl hw (C_count l hT Δ (nI j) (sn_count hn hs (by omega))) wd_290 wd_291 wd_292 wd_19 wd_293 ok_X6_count rfl rfl (rest := [.long (31 * h)]) rfl (Nat.le_of_ble_eq_true rfl) ⟨Nat.le_of_ble_eq_true rfl, Nat.le_of_ble_eq_true rfl⟩ ⟨by show cells + 1 ≤ 900; omega, by show slots + 6 ≤ 5400; omega⟩ (c1 := cells + 1) (s1 := slots + 6) rfl rfl dL_seen_33 (fun ws H locs hw Z => ?_)
      refine lv_i2l (v := (sg1 b.1 j).toInt64) X.x X.b dL_seen_36 rfl ?_
      refine lv_ladd X.x X.b dL_seen_37 ?_
      refine lv_lstore_n (lv' := [(1, .long (31 * h + (sg1 b.1 j).toInt64)), (3, .int (nI j)), (0, .ref a)]) X.x X.b dL_seen_38 rfl hl (Nat.le_of_ble_eq_true rfl) rfl (fun ls hl => ?_)
      refine lv_iinc (v := nI (j + 1)) (lv' := [(3, .int (nI (j + 1))), (1, .long (31 * h + (sg1 b.1 j).toInt64)), (0, .ref a)]) X.x X.b dL_seen_39 hl (k := 1) rfl ((congrArg _ ki_1).trans (nI_1 j)) (Nat.le_of_ble_eq_true rfl) rfl (fun ls hl => ?_)
      refine lv_goto (tgt := 20) X.x X.b dL_seen_42 (by decide) ?_
      exact ih (j + 1) _ _ _ H locs ls ws (by omega) (by omega) (by omega) hv hw Z hl
  refine lv_ldc2 (v := 31) X.x X.b X.own (X.ts _ wd_769) dL_seen_0 ?_
  refine lv_aload_n X.x X.b dL_seen_3 rfl (lv_at hl 0 rfl) ?_
  refine lv_iconst (v := 0) X.x X.b dL_seen_4 ki_0 ?_
  refine o_call (wr := []) Y Z hl hw (C_setting l hT Δ 0 (sn_set0 b)) wd_642 wd_643 wd_644 wd_19 wd_645 ok_X6_setting rfl rfl (rest := [.long 31]) rfl (Nat.le_of_ble_eq_true rfl) ⟨Nat.le_of_ble_eq_true rfl, Nat.le_of_ble_eq_true rfl⟩ ⟨Nat.le_of_ble_eq_true rfl, Nat.le_of_ble_eq_true rfl⟩ (c1 := 1) (s1 := 6) rfl rfl dL_seen_5 (fun ws H locs hw Z => ?_)
  refine lv_i2l (v := (zv (s_setting (sb0 b.1) 0)).toInt64) X.x X.b dL_seen_8 rfl ?_
  refine lv_lmul X.x X.b dL_seen_9 ?_
  refine lv_aload_n X.x X.b dL_seen_10 rfl (lv_at hl 0 rfl) ?_
  refine lv_iconst (v := 1) X.x X.b dL_seen_11 ki_1 ?_
  refine o_call (wr := []) Y Z hl hw (C_setting l hT Δ 1 (sn_set1 b)) wd_642 wd_643 wd_644 wd_19 wd_645 ok_X6_setting rfl rfl (rest := [.long (31 * (zv (s_setting (sb0 b.1) 0)).toInt64)]) rfl (Nat.le_of_ble_eq_true rfl) ⟨Nat.le_of_ble_eq_true rfl, Nat.le_of_ble_eq_true rfl⟩ ⟨Nat.le_of_ble_eq_true rfl, Nat.le_of_ble_eq_true rfl⟩ (c1 := 2) (s1 := 12) rfl rfl dL_seen_12 (fun ws H locs hw Z => ?_)
  refine lv_i2l (v := (zv (s_setting (sb0 b.1) 1)).toInt64) X.x X.b dL_seen_15 rfl ?_
  refine lv_ladd X.x X.b dL_seen_16 ?_
  refine lv_lstore_n (lv' := [(1, .long (31 * (zv (s_setting (sb0 b.1) 0)).toInt64 + (zv (s_setting (sb0 b.1) 1)).toInt64)), (0, .ref a)]) X.x X.b dL_seen_17 rfl hl (Nat.le_of_ble_eq_true rfl) rfl (fun ls hl => ?_)
  refine lv_iconst (v := 0) X.x X.b dL_seen_18 ki_0 ?_
  refine lv_istore_n (lv' := [(3, .int 0), (1, .long (31 * (zv (s_setting (sb0 b.1) 0)).toInt64 + (zv (s_setting (sb0 b.1) 1)).toInt64)), (0, .ref a)]) X.x X.b dL_seen_19 rfl hl (Nat.le_of_ble_eq_true rfl) rfl (fun ls hl => ?_)
  exact L20 6 0 _ 2 12 H locs ls ws rfl (Nat.le_of_ble_eq_true rfl) (Nat.le_of_ble_eq_true rfl) (by unfold pseen; rw [hcl]) hw Z hl
