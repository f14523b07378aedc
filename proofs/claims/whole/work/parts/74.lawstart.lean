theorem wd_1146 : (Jvm.Cond.arrayClass Jvm.ClassFile.FieldType.long) ∈ zG := zG_of 1146 (by decide +kernel) (by decide +kernel)
theorem wd_79 : (Jvm.Cond.classLink "SerialRecapsLaw" (8 : Nat) "SerialRecaps") ∈ zG := zG_of 79 (by decide +kernel) (by decide +kernel)
theorem wd_80 : (Jvm.Cond.instantiable "SerialRecaps" (3 : Nat)) ∈ zG := zG_of 80 (by decide +kernel) (by decide +kernel)
theorem wd_81 : (Jvm.Cond.methodLink "SerialRecapsLaw" (79 : Nat) ({ cls := "SerialRecaps", name := "<init>", desc := "()V" } : Jvm.MethodName)) ∈ zG := zG_of 81 (by decide +kernel) (by decide +kernel)
theorem wd_816 : (Jvm.Cond.classLink "SerialRecapsLaw" (80 : Nat) "SerialRecapsModel") ∈ zG := zG_of 816 (by decide +kernel) (by decide +kernel)
theorem wd_817 : (Jvm.Cond.instantiable "SerialRecapsModel" (10 : Nat)) ∈ zG := zG_of 817 (by decide +kernel) (by decide +kernel)
theorem wd_818 : (Jvm.Cond.methodLink "SerialRecapsLaw" (82 : Nat) ({ cls := "SerialRecapsModel", name := "<init>", desc := "()V" } : Jvm.MethodName)) ∈ zG := zG_of 818 (by decide +kernel) (by decide +kernel)
theorem wd_819 : (Jvm.Cond.instanceMethod ({ cls := "SerialRecapsModel", name := "<init>", desc := "()V" } : Jvm.MethodName)) ∈ zG := zG_of 819 (by decide +kernel) (by decide +kernel)
theorem wd_82 : (Jvm.Cond.instanceMethod ({ cls := "SerialRecaps", name := "<init>", desc := "()V" } : Jvm.MethodName)) ∈ zG := zG_of 82 (by decide +kernel) (by decide +kernel)
theorem wd_820 : (Jvm.Cond.code ({ cls := "SerialRecapsModel", name := "<init>", desc := "()V" } : Jvm.MethodName) prog_9_method_1_code (1 : Nat) (Option.none : Option Jvm.ClassFile.FieldType)) ∈ zG := zG_of 820 (by decide +kernel) (by decide +kernel)
theorem wd_83 : (Jvm.Cond.code ({ cls := "SerialRecaps", name := "<init>", desc := "()V" } : Jvm.MethodName) prog_1_method_1_code (1 : Nat) (Option.none : Option Jvm.ClassFile.FieldType)) ∈ zG := zG_of 83 (by decide +kernel) (by decide +kernel)
/-! THE LAW: its start -/
theorem zO_init : zO zInit (upd (upd (fun _ => 0) (1 : Int32).toNatClampNeg 4) (2 : Int32).toNatClampNeg 10) := by
  have e1 : (1 : Int32).toNatClampNeg = 1 := rfl
  have e2 : (2 : Int32).toNatClampNeg = 2 := rfl
  rw [e1, e2]
  refine ⟨0, 4, 10, ⟨by decide, rfl, rfl⟩, ⟨by decide, rfl, rfl⟩, ⟨by decide, by decide, rfl, rfl⟩, ⟨rfl, rfl⟩, fun q hq => absurd hq (by omega), fun r hr q hq => ?_, fun r hr q hq => absurd hq (by omega), fun r hr => ?_⟩
  · rw [decide_eq_false (by omega), Bool.false_and, Bool.false_and]
    exact ⟨zb_0 q, zb_0 q⟩
  · rw [upd_ne (by omega), upd_ne (by omega), upd_ne (by omega), upd_ne (by omega), upd_ne (by omega), upd_ne (by omega)]
    exact ⟨rfl, rfl, rfl⟩
theorem zRows_0 (α : Nat → Nat → Nat) : zRows 0 α = fun _ => none := by
  funext j
  exact if_neg (Nat.not_lt_zero j)
theorem zHS_0 (σ : Nat → zSC) (mpast : Nat → Int32) : zHS 0 0 0 σ mpast := ⟨⟨by decide, by decide, by decide, by decide, Or.inl rfl⟩, fun i hi => absurd hi (by omega)⟩
set_option maxRecDepth 100000 in
set_option maxHeartbeats 4000000 in
/-- from the entry, for every script of at most 2048 ints, the law comes to its end with true -/
theorem whole_start {p : Program} {e : Env} {s : State} {m : MethodId} {below : List Frame} {meth : Method} {c : Code} (l : Launch) (hflags : l.flags = flags0) {b L : Nat} {xs : Nat → Int32} (hL : L ≤ 2048) (C0 : lw_At p s m meth c b L xs) : W p l e room_1 s m #[Value.ref b] below meth c s.heap [] 0 0 (lw_Z below #[Value.ref b] s) (entryFrame m ([Value.ref b] : List Value).toArray 9) := by
  obtain ⟨hx, hb, hr, hml, hown, hts, hX, hbl, hlocks, hgv⟩ := id C0
  have hT : l.stackTraces = false := by
    unfold Launch.stackTraces
    rw [hflags]
    decide
  obtain ⟨Δ, hK⟩ := zl_K hts hgv
  have Y := zl_Y hT hK C0
  have X := Y.1
  have hend : ∀ (H : Heap) (ls : Array Slot), W p l e room_1 s m #[Value.ref b] below meth c H [] 601024 7293034 (lw_Z below #[Value.ref b] s) (F0 m 1476 ls [.int 1]) := fun H ls => by
    refine W.base ?_
    exact lw_ret (Drawn.sameBut.refl s.drawn lw_cs) hx hb hr hlocks dE_1476
  have Z : zW Δ (fun q => s.heap.size ≤ q) s.heap [] s.heap [] := ⟨fun k q h => by simp at h, ⟨fun i j p q h => by simp at h, fun k q h => by simp at h⟩, va_S.rf⟩
  have hl := lv_entry ([.ref b]) (n := 9) (Nat.le_of_ble_eq_true rfl)
  rw [lg_entry_eq]
  generalize (lg_sl ([.ref b]) ++ List.replicate (9 - (lg_sl ([.ref b])).length) Slot.unset).toArray = ls at hl ⊢
  have hl : lv_has ls 9 [(0, .ref b)] := hl
  refine c_new (fs := [.null, .null, .null]) inG_X6 (ci := 6) rfl tyX6 tyX6_ok (fun j hj => by match j, hj with | 0, _ => rfl | 1, _ => rfl | 2, _ => rfl | j + 3, hj => exact absurd hj (by omega)) X Z wd_79 wd_80 wd_61 (Nat.le_of_ble_eq_true rfl) (Nat.le_of_ble_eq_true rfl) dE_0 (fun q1 H Z => ?_)
  have Z : zW Δ (fun q => s.heap.size ≤ q) s.heap [(q1, .inr (6, [.null, .null, .null]))] H _ := Z
  refine lv_dup X.x X.b dE_3 rfl ?_
  refine c_callI X Z hl (mX6_init l Δ q1) wd_81 wd_82 wd_61 wd_83 ok_X6_init rfl (wr := []) (List.Perm.refl _) rfl (rest := [.ref q1]) rfl (Nat.le_of_ble_eq_true rfl) ⟨(Nat.le_of_ble_eq_true rfl), (Nat.le_of_ble_eq_true rfl)⟩ ⟨(Nat.le_of_ble_eq_true rfl), (Nat.le_of_ble_eq_true rfl)⟩ dE_4 (fun rv w1 H locs hP Z => ?_)
  obtain ⟨rfl, ad, rfl, rfl⟩ := hP
  have Z : zW Δ (fun q => s.heap.size ≤ q) s.heap (wX6 Δ ad 0 0 0 (fun _ => 0) (fun _ => 0) (fun _ => 0) (fun _ => 0) (fun _ => 0) (fun _ => 0) (fun _ => 0) (fun _ => 0) (fun _ => 0) (upd (upd (fun _ => 0) (0 : Int32).toNatClampNeg 4) (1 : Int32).toNatClampNeg 10) 0 0 (fun _ => none) 0 (fun _ => 0) 0 0 0 0) H locs := by
    rw [List.append_nil] at Z
    exact Z
  refine W.eq (g2 := F0 m 7 ls [.ref (ad 0)]) rfl ?_
  refine lv_astore_n (lv' := [(1, .ref (ad 0)), (0, .ref b)]) X.x X.b dE_7 rfl hl (Nat.le_of_ble_eq_true rfl) rfl (fun ls hl => ?_)
  refine c_new (fs := [.int 0, .null, .null, .int 0, .null, .int 0, .int 0, .null, .int 0, .long 0]) inG_X7 (ci := 7) rfl tyX7 tyX7_ok (fun j hj => by match j, hj with | 0, _ => rfl | 1, _ => rfl | 2, _ => rfl | 3, _ => rfl | 4, _ => rfl | 5, _ => rfl | 6, _ => rfl | 7, _ => rfl | 8, _ => rfl | 9, _ => rfl | j + 10, hj => exact absurd hj (by omega)) X Z wd_816 wd_817 wd_68 (Nat.le_of_ble_eq_true rfl) (Nat.le_of_ble_eq_true rfl) dE_8 (fun q2 H Z => ?_)
  refine lv_dup X.x X.b dE_11 rfl ?_
  refine c_callI X Z hl (mX7_init l Δ q2) wd_818 wd_819 wd_68 wd_820 ok_X7_init rfl (wr := (wX6 Δ ad 0 0 0 (fun _ => 0) (fun _ => 0) (fun _ => 0) (fun _ => 0) (fun _ => 0) (fun _ => 0) (fun _ => 0) (fun _ => 0) (fun _ => 0) (upd (upd (fun _ => 0) (0 : Int32).toNatClampNeg 4) (1 : Int32).toNatClampNeg 10) 0 0 (fun _ => none) 0 (fun _ => 0) 0 0 0 0)) List.perm_append_comm rfl (rest := [.ref q2]) rfl (Nat.le_of_ble_eq_true rfl) ⟨(Nat.le_of_ble_eq_true rfl), (Nat.le_of_ble_eq_true rfl)⟩ ⟨(Nat.le_of_ble_eq_true rfl), (Nat.le_of_ble_eq_true rfl)⟩ dE_12 (fun rv w1 H locs hP Z => ?_)
  obtain ⟨rfl, adm, rfl, rfl⟩ := hP
  refine W.eq (g2 := F0 m 15 ls [.ref (adm 0)]) rfl ?_
  refine lv_astore_n (lv' := [(2, .ref (adm 0)), (1, .ref (ad 0)), (0, .ref b)]) X.x X.b dE_15 rfl hl (Nat.le_of_ble_eq_true rfl) rfl (fun ls hl => ?_)
  refine lv_iconst (v := 1) X.x X.b dE_16 (by decide) ?_
  refine c_newaL (N' := 1) X Z wd_1146 (by decide) (by decide) (by decide) (Nat.le_of_ble_eq_true rfl) (Nat.le_of_ble_eq_true rfl) dE_17 (fun ao H Z => ?_)
  refine lv_astore_n (lv' := [(3, .ref ao), (2, .ref (adm 0)), (1, .ref (ad 0)), (0, .ref b)]) X.x X.b dE_19 rfl hl (Nat.le_of_ble_eq_true rfl) rfl (fun ls hl => ?_)
  refine lv_iconst (v := 0) X.x X.b dE_20 (by decide) ?_
  refine lv_istore (lv' := [(4, .int 0), (3, .ref ao), (2, .ref (adm 0)), (1, .ref (ad 0)), (0, .ref b)]) X.x X.b dE_21 hl (Nat.le_of_ble_eq_true rfl) rfl (fun ls hl => ?_)
  have Z : zW Δ (fun q => s.heap.size ≤ q) s.heap ((wX7 Δ adm 0 (nI 0) 0 0 0 0 (upd (upd (fun _ => 0) (1 : Int32).toNatClampNeg 4) (2 : Int32).toNatClampNeg 10) (fun _ => 0) (fun _ => 0) (fun _ => 0)) ++ ([(ao, .inl (Δ.2.2.2.1, 1, .inr (.inl (fun _ => 0))))] ++ ((wX6 Δ ad 0 0 0 (fun _ => 0) (fun _ => 0) (fun _ => 0) (fun _ => 0) (fun _ => 0) (fun _ => 0) (fun _ => 0) (fun _ => 0) (fun _ => 0) (upd (upd (fun _ => 0) (0 : Int32).toNatClampNeg 4) (1 : Int32).toNatClampNeg 10) (nI 0) (nI 0) (zRows 0 (fun _ _ => 0)) 0 (fun _ => 0) 0 0 0 0) ++ zPool Δ 0 (fun _ _ => 0) (fun _ => zInit)))) H locs := by
    have e0 : zPool Δ 0 (fun _ _ => 0) (fun _ => zInit) = [] := rfl
    rw [zRows_0, e0, List.append_nil]
    exact Z.perm (by rw [List.append_assoc]; exact List.Perm.append_left _ List.perm_append_comm)
  refine law_loop hT Y hX hbl hL hend 513 0 _ _ H locs ls (ad 0) (adm 0) ao rfl (Nat.le_of_ble_eq_true rfl) (Nat.le_of_ble_eq_true rfl) ⟨ad, adm, fun _ => 0, zInit, 0, fun _ => 0, 0, 0, 0, 0, 0, 0, 0, fun _ _ => 0, fun _ => zInit, 0, 0, 0, 0, 0, _, fun _ => 0, fun _ => 0, fun _ => 0, rfl, rfl, Z, zO_init, zHS_0 _ _, zTx.empty _ _, lv_sub hl [4, 3, 2, 1, 0] rfl⟩
