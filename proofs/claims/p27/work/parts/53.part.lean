/-! THE LAW: part, drawn -/
def p_part (v n : Int32) : Int32 := (v &&& 2147483647) - (v &&& 2147483647) / n * n
theorem p_part_lt (v : Int32) {N : Nat} (h0 : 0 < N) (hN : N < 2 ^ 31) : ∃ j, j < N ∧ p_part v (nI N) = nI j := by
  have h1 : zu (v &&& 2147483647) < 2 ^ 31 := by
    rw [zu_and]
    have h2 : zu v &&& zu 2147483647 ≤ zu 2147483647 := Nat.and_le_right
    have h3 : zu 2147483647 = 2147483647 := rfl
    omega
  have h2 : v &&& 2147483647 = nI (zu (v &&& 2147483647)) := zu_inj (by rw [zu_nI (zu_lt _)])
  unfold p_part
  generalize zu (v &&& 2147483647) = z at h1 h2
  rw [h2]
  exact ⟨z % N, Nat.mod_lt _ h0, pk_rem h1 h0 hN⟩
set_option maxRecDepth 100000 in
set_option maxHeartbeats 4000000 in
theorem M_part (l : Launch) (hT : l.stackTraces = false) (Δ : zE) (v n : Int32) (hn : ¬ n = 0) : zMX l Δ yL_part (.code yL_part cL_part 2 (some .int)) 0 0 0 0 [.int v, .int n] [] (fun rv w => rv = some (.int (p_part v n)) ∧ w = []) (fun _ _ => False) := by
  refine x_start hT (by decide +kernel) (Nat.le_of_ble_eq_true rfl) ?_
  intro p e s m args below meth c A ls Y htab Z hl
  have X := Y.1
  have hl : lv_has ls 2 [(0, .int v), (1, .int n)] := hl
  refine lv_iload_n X.x X.b dL_part_0 rfl (lv_at hl 0 rfl) ?_
  refine lv_ldc (v := 2147483647) X.x X.b X.own (X.ts _ wd_344) dL_part_1 ?_
  refine lv_iand X.x X.b dL_part_3 ?_
  refine lv_iload_n X.x X.b dL_part_4 rfl (lv_at hl 1 rfl) ?_
  refine lv_irem X.x X.b dL_part_5 hn ?_
  exact x_iret X Z ⟨rfl, rfl⟩ (Nat.le_of_ble_eq_true rfl) (Nat.le_of_ble_eq_true rfl) dL_part_6
def zPD (Δ : zE) (b L : Nat) (xs : Nat → Int32) (av : List Value) (sz : Nat) : Array Value → State → Prop := va_Pc av (fun U => U.heap.size = sz ∧ zK Δ U ∧ va_X b L xs U U.heap ∧ b < U.heap.size)
theorem zPD_blind {Δ : zE} {b L : Nat} {xs : Nat → Int32} {av : List Value} {sz : Nat} : FrameBlind (zPD Δ b L xs av sz) := fun a U g mk q => by
  obtain ⟨q0, q1, q2, q3, q4⟩ := q
  exact ⟨q0, q1, q2.calling, va_X.moved (u := U) (U := U.calling g mk a) (Vm.Alike.refl U.vm) q3, q4⟩
set_option maxRecDepth 100000 in
set_option maxHeartbeats 4000000 in
theorem M_drawn (l : Launch) (Δ : zE) {b L : Nat} {xs : Nat → Int32} (hL : L ≤ 260) {k : Nat} (hk : k < 64) (sz : Nat) : Met l yL_drawn (.code yL_drawn cL_drawn 2 (some .int) :: zG) { frames := 0, cells := 0, slots := 0, locals := 0 } (zPD Δ b L xs [.ref b, .int (nI k)] sz) (zQG Δ (fun rv w => (∃ v : Int32, rv = some (.int v)) ∧ w = []) (va_A [] sz)) 0 0 (va_A [] sz) := by
  refine Met.ofW (cc := cL_drawn) (maxL := 2) (ret := some .int) (by decide +kernel) rfl ?_
  intro p e s m args below meth c s₁ B hml hv
  obtain ⟨rfl, hsz, hK, hX, hbl⟩ := hv
  have hts := atoms_spec (ws := .code yL_drawn cL_drawn 2 (some .int) :: zG) B.pre
  have hts' : ∀ w ∈ zG, w.before ([Value.ref b, Value.int (nI k)]).toArray s = true := fun w h => hts w (List.mem_cons_of_mem _ h)
  subst hsz
  have hA : ∀ q : Nat, s.heap.size ≤ q → va_A [] s.heap.size q := fun q h => Or.inr h
  have hl := lv_entry [Value.ref b, Value.int (nI k)] (n := 2) (Nat.le_of_ble_eq_true rfl)
  rw [lg_entry_eq]
  generalize (lg_sl [Value.ref b, Value.int (nI k)] ++ List.replicate (2 - (lg_sl [Value.ref b, Value.int (nI k)]).length) Slot.unset).toArray = ls at hl ⊢
  have X : zX Δ p s m ([Value.ref b, Value.int (nI k)]).toArray meth c yL_drawn cL_drawn 2 (some .int) (va_A [] s.heap.size) := ⟨⟨B.exec, B.bytes, hml, findClass_of_methodNamed B.named, hts'⟩, hK, hA, B.returns, B.notSynchronized, (name_of_methodNamed B.named B.method).1⟩
  have Z : zW Δ (va_A [] s.heap.size) s.heap [] s.heap [] := ⟨fun k q h => by simp at h, ⟨fun i j p q h => by simp at h, fun k q h => by simp at h⟩, va_S.rf⟩
  have hbA : ¬ va_A [] s.heap.size b := by
    rintro (⟨j, e, h⟩ | h)
    · simp at h
    · omega
  have hl : lv_has ls 2 [(0, .ref b), (1, .int (nI k))] := hl
  have hend : ∀ v : Int32, W p l e { frames := 0, cells := 0, slots := 0, locals := 0 } s m ([Value.ref b, Value.int (nI k)]).toArray below meth c s.heap [] 0 0 (MQ below (zQG Δ (fun rv w => (∃ v : Int32, rv = some (.int v)) ∧ w = []) (va_A [] s.heap.size)) ([Value.ref b, Value.int (nI k)]).toArray s 0 0 (va_A [] s.heap.size)) (F0 m 39 ls [.int v]) := fun v => W.iret (v := v) X.x X.b X.2.2.2.1 (fun t ht _ => ⟨⟨_, _, rfl, ⟨⟨v, rfl⟩, rfl⟩, by rw [ht]; exact Z.1, Z.2.1⟩, Z.2.2.F ht⟩) Z.2.2.2.2 dL_drawn_39 X.2.2.2.2.1
  refine lv_aload_n X.x X.b dL_drawn_0 rfl (lv_at hl 0 rfl) ?_
  refine va_slen X.x X.b hX hbl hbA Z.2.2 dL_drawn_1 ?_
  refine lv_if_ne (tgt := 15) X.x X.b dL_drawn_2 (by decide) (fun hne => ?_) (fun _ => ?_)
  · have hL0 : ¬ nI L = 0 := hne
    have hL1 : 0 < L := by
      rcases Nat.eq_zero_or_pos L with g | g
      · exact absurd (by rw [g]; rfl) hL0
      · exact g
    refine lv_aload_n X.x X.b dL_drawn_15 rfl (lv_at hl 0 rfl) ?_
    refine lv_iload_n X.x X.b dL_drawn_16 rfl (lv_at hl 1 rfl) ?_
    refine lv_aload_n X.x X.b dL_drawn_17 rfl (lv_at hl 0 rfl) ?_
    refine va_slen X.x X.b hX hbl hbA Z.2.2 dL_drawn_18 ?_
    refine lv_irem X.x X.b dL_drawn_19 hL0 ?_
    rw [show nI k - nI k / Int32.ofNat L * Int32.ofNat L = nI (k % L) from pk_rem (by omega) hL1 (by omega)]
    refine va_sld X.x X.b hX hbl hbA Z.2.2 (vp_in_nI (Nat.mod_lt _ hL1) (by omega)) dL_drawn_20 ?_
    refine lv_iload_n X.x X.b dL_drawn_21 rfl (lv_at hl 1 rfl) ?_
    refine lv_bipush (v := 7) X.x X.b dL_drawn_22 kb_7 ?_
    refine lv_irem X.x X.b dL_drawn_24 (by decide) ?_
    refine lv_ishr X.x X.b dL_drawn_25 ?_
    refine lv_iload_n X.x X.b dL_drawn_26 rfl (lv_at hl 1 rfl) ?_
    refine lv_aload_n X.x X.b dL_drawn_27 rfl (lv_at hl 0 rfl) ?_
    refine va_slen X.x X.b hX hbl hbA Z.2.2 dL_drawn_28 ?_
    refine lv_idiv X.x X.b dL_drawn_29 hL0 ?_
    refine lv_bipush (v := 31) X.x X.b dL_drawn_30 kb_31 ?_
    refine lv_imul X.x X.b dL_drawn_32 ?_
    refine lv_ixor X.x X.b dL_drawn_33 ?_
    refine lv_iload_n X.x X.b dL_drawn_34 rfl (lv_at hl 1 rfl) ?_
    refine lv_ldc (v := 2654435) X.x X.b X.own (X.ts _ wd_348) dL_drawn_35 ?_
    refine lv_imul X.x X.b dL_drawn_37 ?_
    refine lv_ixor X.x X.b dL_drawn_38 ?_
    exact hend _
  · refine lv_sipush (v := 7919) X.x X.b dL_drawn_5 kh_7919 ?_
    refine lv_iload_n X.x X.b dL_drawn_8 rfl (lv_at hl 1 rfl) ?_
    refine lv_imul X.x X.b dL_drawn_9 ?_
    refine lv_iconst (v := 3) X.x X.b dL_drawn_10 ki_3 ?_
    refine lv_iadd X.x X.b dL_drawn_11 ?_
    refine lv_goto (tgt := 39) X.x X.b dL_drawn_12 (by decide) ?_
    exact hend _
