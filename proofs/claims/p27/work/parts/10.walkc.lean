set_option maxRecDepth 100000 in
set_option maxHeartbeats 4000000 in
theorem mX0_copyFrom (l : Launch) (Δ : zE) (ad ad2 : Nat → Nat) (told : Nat → Int32) (rea : Nat → Int32) (wread : Nat → Int32) (ltold : Nat → Int32) (lout : Nat → Int32) (toldo : Nat → Int32) (reao : Nat → Int32) (wreado : Nat → Int32) (ltoldo : Nat → Int32) (louto : Nat → Int32)  {res : (Nat → Int32) × (Nat → Int32) × (Nat → Int32) × (Nat → Int32) × (Nat → Int32)} (hf : fX0_copyFrom told rea wread ltold lout toldo reao wreado ltoldo louto = some res) : zMet l Δ yX0_copyFrom cX0_copyFrom 2 none 1 40 [.ref (ad 0), .ref (ad2 0)] ((wX0 Δ ad told rea wread ltold lout) ++ (wX0 Δ ad2 toldo reao wreado ltoldo louto)) ((wX0 Δ ad res.1 res.2.1 res.2.2.1 res.2.2.2.1 res.2.2.2.2) ++ (wX0 Δ ad2 toldo reao wreado ltoldo louto)) none := by
  refine z_start (by decide +kernel) (Nat.le_of_ble_eq_true rfl) ?_
  intro p e s m args below meth c A ls X Z hl
  have hl : lv_has ls 2 [(0, .ref (ad 0)), (1, .ref (ad2 0))] := hl
  rw [fX0_copyFrom.eq_1] at hf
  refine lv_aload_n X.x X.b dX0_copyFrom_0 rfl (lv_at hl 1 rfl) ?_
  refine z_gf inG_X0 (ci := 0) rfl 0 (Nat.le_of_ble_eq_true rfl) rfl X Z wd_84 6 rfl (v := .ref (ad2 1)) rfl dX0_copyFrom_1 ?_
  refine lv_iconst (v := 0) X.x X.b dX0_copyFrom_4 ki_0 ?_
  refine lv_aload_n X.x X.b dX0_copyFrom_5 rfl (lv_at hl 0 rfl) ?_
  refine z_gf inG_X0 (ci := 0) rfl 0 (Nat.le_of_ble_eq_true rfl) rfl X Z wd_84 0 rfl (v := .ref (ad 1)) rfl dX0_copyFrom_6 ?_
  refine lv_iconst (v := 0) X.x X.b dX0_copyFrom_9 ki_0 ?_
  refine lv_bipush (v := 6) X.x X.b dX0_copyFrom_10 kb_6 ?_
  refine z_copyi (w' := ((wX0 Δ ad (va_cpy toldo told (0 : Int32).toNatClampNeg (0 : Int32).toNatClampNeg (6 : Int32).toNatClampNeg) rea wread ltold lout) ++ (wX0 Δ ad2 toldo reao wreado ltoldo louto))) X Z hl wd_284 wd_279 wd_278 wd_31 7 1 rfl rfl (by decide) (by decide) (by decide) (by decide) (by decide) (Nat.le_of_ble_eq_true rfl) (Nat.le_of_ble_eq_true rfl) rfl dX0_copyFrom_12 (fun H locs Z => ?_)
  refine lv_aload_n X.x X.b dX0_copyFrom_15 rfl (lv_at hl 1 rfl) ?_
  refine z_gf inG_X0 (ci := 0) rfl 1 (Nat.le_of_ble_eq_true rfl) rfl X Z wd_86 6 rfl (v := .ref (ad2 2)) rfl dX0_copyFrom_16 ?_
  refine lv_iconst (v := 0) X.x X.b dX0_copyFrom_19 ki_0 ?_
  refine lv_aload_n X.x X.b dX0_copyFrom_20 rfl (lv_at hl 0 rfl) ?_
  refine z_gf inG_X0 (ci := 0) rfl 1 (Nat.le_of_ble_eq_true rfl) rfl X Z wd_86 0 rfl (v := .ref (ad 2)) rfl dX0_copyFrom_21 ?_
  refine lv_iconst (v := 0) X.x X.b dX0_copyFrom_24 ki_0 ?_
  refine lv_bipush (v := 6) X.x X.b dX0_copyFrom_25 kb_6 ?_
  refine z_copyi (w' := ((wX0 Δ ad (va_cpy toldo told (0 : Int32).toNatClampNeg (0 : Int32).toNatClampNeg (6 : Int32).toNatClampNeg) (va_cpy reao rea (0 : Int32).toNatClampNeg (0 : Int32).toNatClampNeg (6 : Int32).toNatClampNeg) wread ltold lout) ++ (wX0 Δ ad2 toldo reao wreado ltoldo louto))) X Z hl wd_284 wd_279 wd_278 wd_31 8 2 rfl rfl (by decide) (by decide) (by decide) (by decide) (by decide) (Nat.le_of_ble_eq_true rfl) (Nat.le_of_ble_eq_true rfl) rfl dX0_copyFrom_27 (fun H locs Z => ?_)
  refine lv_aload_n X.x X.b dX0_copyFrom_30 rfl (lv_at hl 1 rfl) ?_
  refine z_gf inG_X0 (ci := 0) rfl 2 (Nat.le_of_ble_eq_true rfl) rfl X Z wd_88 6 rfl (v := .ref (ad2 3)) rfl dX0_copyFrom_31 ?_
  refine lv_iconst (v := 0) X.x X.b dX0_copyFrom_34 ki_0 ?_
  refine lv_aload_n X.x X.b dX0_copyFrom_35 rfl (lv_at hl 0 rfl) ?_
  refine z_gf inG_X0 (ci := 0) rfl 2 (Nat.le_of_ble_eq_true rfl) rfl X Z wd_88 0 rfl (v := .ref (ad 3)) rfl dX0_copyFrom_36 ?_
  refine lv_iconst (v := 0) X.x X.b dX0_copyFrom_39 ki_0 ?_
  refine lv_bipush (v := 6) X.x X.b dX0_copyFrom_40 kb_6 ?_
  refine z_copyi (w' := ((wX0 Δ ad (va_cpy toldo told (0 : Int32).toNatClampNeg (0 : Int32).toNatClampNeg (6 : Int32).toNatClampNeg) (va_cpy reao rea (0 : Int32).toNatClampNeg (0 : Int32).toNatClampNeg (6 : Int32).toNatClampNeg) (va_cpy wreado wread (0 : Int32).toNatClampNeg (0 : Int32).toNatClampNeg (6 : Int32).toNatClampNeg) ltold lout) ++ (wX0 Δ ad2 toldo reao wreado ltoldo louto))) X Z hl wd_284 wd_279 wd_278 wd_31 9 3 rfl rfl (by decide) (by decide) (by decide) (by decide) (by decide) (Nat.le_of_ble_eq_true rfl) (Nat.le_of_ble_eq_true rfl) rfl dX0_copyFrom_42 (fun H locs Z => ?_)
  refine lv_aload_n X.x X.b dX0_copyFrom_45 rfl (lv_at hl 1 rfl) ?_
  refine z_gf inG_X0 (ci := 0) rfl 3 (Nat.le_of_ble_eq_true rfl) rfl X Z wd_90 6 rfl (v := .ref (ad2 4)) rfl dX0_copyFrom_46 ?_
  refine lv_iconst (v := 0) X.x X.b dX0_copyFrom_49 ki_0 ?_
  refine lv_aload_n X.x X.b dX0_copyFrom_50 rfl (lv_at hl 0 rfl) ?_
  refine z_gf inG_X0 (ci := 0) rfl 3 (Nat.le_of_ble_eq_true rfl) rfl X Z wd_90 0 rfl (v := .ref (ad 4)) rfl dX0_copyFrom_51 ?_
  refine lv_iconst (v := 0) X.x X.b dX0_copyFrom_54 ki_0 ?_
  refine lv_bipush (v := 6) X.x X.b dX0_copyFrom_55 kb_6 ?_
  refine z_copyi (w' := ((wX0 Δ ad (va_cpy toldo told (0 : Int32).toNatClampNeg (0 : Int32).toNatClampNeg (6 : Int32).toNatClampNeg) (va_cpy reao rea (0 : Int32).toNatClampNeg (0 : Int32).toNatClampNeg (6 : Int32).toNatClampNeg) (va_cpy wreado wread (0 : Int32).toNatClampNeg (0 : Int32).toNatClampNeg (6 : Int32).toNatClampNeg) (va_cpy ltoldo ltold (0 : Int32).toNatClampNeg (0 : Int32).toNatClampNeg (6 : Int32).toNatClampNeg) lout) ++ (wX0 Δ ad2 toldo reao wreado ltoldo louto))) X Z hl wd_284 wd_279 wd_278 wd_31 10 4 rfl rfl (by decide) (by decide) (by decide) (by decide) (by decide) (Nat.le_of_ble_eq_true rfl) (Nat.le_of_ble_eq_true rfl) rfl dX0_copyFrom_57 (fun H locs Z => ?_)
  refine lv_aload_n X.x X.b dX0_copyFrom_60 rfl (lv_at hl 1 rfl) ?_
  refine z_gf inG_X0 (ci := 0) rfl 4 (Nat.le_of_ble_eq_true rfl) rfl X Z wd_92 6 rfl (v := .ref (ad2 5)) rfl dX0_copyFrom_61 ?_
  refine lv_iconst (v := 0) X.x X.b dX0_copyFrom_64 ki_0 ?_
  refine lv_aload_n X.x X.b dX0_copyFrom_65 rfl (lv_at hl 0 rfl) ?_
  refine z_gf inG_X0 (ci := 0) rfl 4 (Nat.le_of_ble_eq_true rfl) rfl X Z wd_92 0 rfl (v := .ref (ad 5)) rfl dX0_copyFrom_66 ?_
  refine lv_iconst (v := 0) X.x X.b dX0_copyFrom_69 ki_0 ?_
  refine lv_bipush (v := 6) X.x X.b dX0_copyFrom_70 kb_6 ?_
  refine z_copyi (w' := ((wX0 Δ ad (va_cpy toldo told (0 : Int32).toNatClampNeg (0 : Int32).toNatClampNeg (6 : Int32).toNatClampNeg) (va_cpy reao rea (0 : Int32).toNatClampNeg (0 : Int32).toNatClampNeg (6 : Int32).toNatClampNeg) (va_cpy wreado wread (0 : Int32).toNatClampNeg (0 : Int32).toNatClampNeg (6 : Int32).toNatClampNeg) (va_cpy ltoldo ltold (0 : Int32).toNatClampNeg (0 : Int32).toNatClampNeg (6 : Int32).toNatClampNeg) (va_cpy louto lout (0 : Int32).toNatClampNeg (0 : Int32).toNatClampNeg (6 : Int32).toNatClampNeg)) ++ (wX0 Δ ad2 toldo reao wreado ltoldo louto))) X Z hl wd_284 wd_279 wd_278 wd_31 11 5 rfl rfl (by decide) (by decide) (by decide) (by decide) (by decide) (Nat.le_of_ble_eq_true rfl) (Nat.le_of_ble_eq_true rfl) rfl dX0_copyFrom_72 (fun H locs Z => ?_)
  cases hf
  exact z_vret X Z dX0_copyFrom_75
set_option maxRecDepth 100000 in
set_option maxHeartbeats 4000000 in
theorem mX6_isIn (l : Launch) (Δ : zE)  (x0 : Int32) (x1 : Int32) {res : Int32} (hf : fX6_isIn x0 x1 = some res) : zMet l Δ yX6_isIn cX6_isIn 2 (some .boolean) 0 0 [.int x0, .int x1] [] [] (some (.int res)) := by
  refine z_start (by decide +kernel) (Nat.le_of_ble_eq_true rfl) ?_
  intro p e s m args below meth c A ls X Z hl
  have hl : lv_has ls 2 [(0, .int x0), (1, .int x1)] := hl
  rw [fX6_isIn.eq_1] at hf
  refine lv_iload_n X.x X.b dX6_isIn_0 rfl (lv_at hl 0 rfl) ?_
  refine lv_iload_n X.x X.b dX6_isIn_1 rfl (lv_at hl 1 rfl) ?_
  refine lv_ishr X.x X.b dX6_isIn_2 ?_
  refine lv_iconst (v := 1) X.x X.b dX6_isIn_3 ki_1 ?_
  refine lv_iand X.x X.b dX6_isIn_4 ?_
  refine lv_iconst (v := 1) X.x X.b dX6_isIn_5 ki_1 ?_
  refine lv_icmp_ne (tgt := 13) X.x X.b dX6_isIn_6 (by decide) (fun b1 => ?_) (fun b1 => ?_)
  · have hf := zif_f b1 hf
    refine lv_iconst (v := 0) X.x X.b dX6_isIn_13 ki_0 ?_
    cases hf
    exact z_zret X Z (Or.inl rfl) dX6_isIn_14
  · have hf := zif_t b1 hf
    refine lv_iconst (v := 1) X.x X.b dX6_isIn_9 ki_1 ?_
    refine lv_goto (tgt := 14) X.x X.b dX6_isIn_10 (by decide) ?_
    cases hf
    exact z_zret X Z (Or.inr rfl) dX6_isIn_14
set_option maxRecDepth 100000 in
set_option maxHeartbeats 4000000 in
theorem mX0_hasRead (l : Launch) (Δ : zE) (ad : Nat → Nat) (told : Nat → Int32) (rea : Nat → Int32) (wread : Nat → Int32) (ltold : Nat → Int32) (lout : Nat → Int32) (x1 : Int32) (x2 : Int32) {res : Int32} (hf : fX0_hasRead rea x1 x2 = some res) : zMet l Δ yX0_hasRead cX0_hasRead 3 (some .boolean) 1 21 [.ref (ad 0), .int x1, .int x2] (wX0 Δ ad told rea wread ltold lout) (wX0 Δ ad told rea wread ltold lout) (some (.int res)) := by
  refine z_start (by decide +kernel) (Nat.le_of_ble_eq_true rfl) ?_
  intro p e s m args below meth c A ls X Z hl
  have hl : lv_has ls 3 [(0, .ref (ad 0)), (1, .int x1), (2, .int x2)] := hl
  rw [fX0_hasRead.eq_1] at hf
  refine lv_aload_n X.x X.b dX0_hasRead_0 rfl (lv_at hl 0 rfl) ?_
  refine z_gf inG_X0 (ci := 0) rfl 1 (Nat.le_of_ble_eq_true rfl) rfl X Z wd_86 0 rfl (v := .ref (ad 2)) rfl dX0_hasRead_1 ?_
  refine lv_iload_n X.x X.b dX0_hasRead_4 rfl (lv_at hl 1 rfl) ?_
  obtain ⟨b1, hf⟩ := zg_in hf
  refine z_iald X Z 2 rfl b1 dX0_hasRead_5 ?_
  refine lv_iload_n X.x X.b dX0_hasRead_6 rfl (lv_at hl 2 rfl) ?_
  obtain ⟨q1, hq1, hf⟩ := zb_ok hf
  refine z_callSN (host := "SerialRecaps") X Z hl (mX6_isIn l Δ  (rea x1.toNatClampNeg) x2 hq1) (by decide +kernel) wd_367 wd_19 wd_368 ok_X6_isIn (w' := (wX0 Δ ad told rea wread ltold lout)) zSub_nil rfl zput_nil rfl (rest := []) rfl (Nat.le_of_ble_eq_true rfl) ⟨Nat.le_of_ble_eq_true rfl, Nat.le_of_ble_eq_true rfl⟩ ⟨Nat.zero_le _, Nat.zero_le _⟩ (st1 := [.int q1]) rfl dX0_hasRead_7 (fun H locs Z => ?_)
  obtain ⟨b2, hf⟩ := zg_bo hf
  cases hf
  exact z_zret X Z b2 dX0_hasRead_10
set_option maxRecDepth 100000 in
set_option maxHeartbeats 4000000 in
theorem mX0_known (l : Launch) (Δ : zE) (ad : Nat → Nat) (told : Nat → Int32) (rea : Nat → Int32) (wread : Nat → Int32) (ltold : Nat → Int32) (lout : Nat → Int32) (x1 : Int32) {res : Int32} (hf : fX0_known told rea x1 = some res) : zMet l Δ yX0_known cX0_known 2 (some .int) 0 0 [.ref (ad 0), .int x1] (wX0 Δ ad told rea wread ltold lout) (wX0 Δ ad told rea wread ltold lout) (some (.int res)) := by
  refine z_start (by decide +kernel) (Nat.le_of_ble_eq_true rfl) ?_
  intro p e s m args below meth c A ls X Z hl
  have hl : lv_has ls 2 [(0, .ref (ad 0)), (1, .int x1)] := hl
  rw [fX0_known.eq_1] at hf
  refine lv_aload_n X.x X.b dX0_known_0 rfl (lv_at hl 0 rfl) ?_
  refine z_gf inG_X0 (ci := 0) rfl 0 (Nat.le_of_ble_eq_true rfl) rfl X Z wd_84 0 rfl (v := .ref (ad 1)) rfl dX0_known_1 ?_
  refine lv_iload_n X.x X.b dX0_known_4 rfl (lv_at hl 1 rfl) ?_
  obtain ⟨b1, hf⟩ := zg_in hf
  refine z_iald X Z 1 rfl b1 dX0_known_5 ?_
  refine lv_aload_n X.x X.b dX0_known_6 rfl (lv_at hl 0 rfl) ?_
  refine z_gf inG_X0 (ci := 0) rfl 1 (Nat.le_of_ble_eq_true rfl) rfl X Z wd_86 0 rfl (v := .ref (ad 2)) rfl dX0_known_7 ?_
  refine lv_iload_n X.x X.b dX0_known_10 rfl (lv_at hl 1 rfl) ?_
  obtain ⟨b2, hf⟩ := zg_in hf
  refine z_iald X Z 2 rfl b2 dX0_known_11 ?_
  refine lv_ior X.x X.b dX0_known_12 ?_
  cases hf
  exact z_iret X Z dX0_known_13
set_option maxRecDepth 100000 in
set_option maxHeartbeats 4000000 in
theorem mX0_knowledge (l : Launch) (Δ : zE) (ad : Nat → Nat) (told : Nat → Int32) (rea : Nat → Int32) (wread : Nat → Int32) (ltold : Nat → Int32) (lout : Nat → Int32) (x1 : Int32) (x2 : Int32) {res : Int32} (hf : fX0_knowledge told rea x1 x2 = some res) : zMet l Δ yX0_knowledge cX0_knowledge 3 (some .int) 2 43 [.ref (ad 0), .int x1, .int x2] (wX0 Δ ad told rea wread ltold lout) (wX0 Δ ad told rea wread ltold lout) (some (.int res)) := by
  refine z_start (by decide +kernel) (Nat.le_of_ble_eq_true rfl) ?_
  intro p e s m args below meth c A ls X Z hl
  have hl : lv_has ls 3 [(0, .ref (ad 0)), (1, .int x1), (2, .int x2)] := hl
  rw [fX0_knowledge.eq_1] at hf
  refine lv_aload_n X.x X.b dX0_knowledge_0 rfl (lv_at hl 0 rfl) ?_
  refine lv_iload_n X.x X.b dX0_knowledge_1 rfl (lv_at hl 1 rfl) ?_
  refine lv_iload_n X.x X.b dX0_knowledge_2 rfl (lv_at hl 2 rfl) ?_
  obtain ⟨q1, hq1, hf⟩ := zb_ok hf
  refine z_callV X Z hl (mX0_hasRead l Δ ad told rea wread ltold lout x1 x2 hq1) wd_423 wd_424 wd_425 wd_22 wd_426 ok_X0_hasRead 0 rfl 0 rfl (w' := (wX0 Δ ad told rea wread ltold lout)) su_0 fs_0 pu_0 rfl (rest := []) rfl (Nat.le_of_ble_eq_true rfl) ⟨Nat.le_of_ble_eq_true rfl, Nat.le_of_ble_eq_true rfl⟩ ⟨Nat.zero_le _, Nat.zero_le _⟩ (st1 := [.int q1]) rfl dX0_knowledge_3 (fun H locs Z => ?_)
  refine lv_if_eq (tgt := 11) X.x X.b dX0_knowledge_6 (by decide) (fun b1 => ?_) (fun b1 => ?_)
  · have hf := zif_t b1 hf
    refine lv_aload_n X.x X.b dX0_knowledge_11 rfl (lv_at hl 0 rfl) ?_
    refine z_gf inG_X0 (ci := 0) rfl 0 (Nat.le_of_ble_eq_true rfl) rfl X Z wd_84 0 rfl (v := .ref (ad 1)) rfl dX0_knowledge_12 ?_
    refine lv_iload_n X.x X.b dX0_knowledge_15 rfl (lv_at hl 1 rfl) ?_
    obtain ⟨b2, hf⟩ := zg_in hf
    refine z_iald X Z 1 rfl b2 dX0_knowledge_16 ?_
    refine lv_iload_n X.x X.b dX0_knowledge_17 rfl (lv_at hl 2 rfl) ?_
    obtain ⟨q2, hq2, hf⟩ := zb_ok hf
    refine z_callSN (host := "SerialRecaps") X Z hl (mX6_isIn l Δ  (told x1.toNatClampNeg) x2 hq2) (by decide +kernel) wd_367 wd_19 wd_368 ok_X6_isIn (w' := (wX0 Δ ad told rea wread ltold lout)) zSub_nil rfl zput_nil rfl (rest := []) rfl (Nat.le_of_ble_eq_true rfl) ⟨Nat.le_of_ble_eq_true rfl, Nat.le_of_ble_eq_true rfl⟩ ⟨Nat.zero_le _, Nat.zero_le _⟩ (st1 := [.int q2]) rfl dX0_knowledge_18 (fun H locs Z => ?_)
    refine lv_if_eq (tgt := 28) X.x X.b dX0_knowledge_21 (by decide) (fun b3 => ?_) (fun b3 => ?_)
    · have hf := zif_t b3 hf
      refine lv_iconst (v := 0) X.x X.b dX0_knowledge_28 ki_0 ?_
      cases hf
      exact z_iret X Z dX0_knowledge_29
    · have hf := zif_f b3 hf
      refine lv_iconst (v := 1) X.x X.b dX0_knowledge_24 ki_1 ?_
      refine lv_goto (tgt := 29) X.x X.b dX0_knowledge_25 (by decide) ?_
      cases hf
      exact z_iret X Z dX0_knowledge_29
  · have hf := zif_f b1 hf
    refine lv_iconst (v := 2) X.x X.b dX0_knowledge_9 ki_2 ?_
    cases hf
    exact z_iret X Z dX0_knowledge_10
set_option maxRecDepth 100000 in
set_option maxHeartbeats 4000000 in
theorem mX0_whoRead (l : Launch) (Δ : zE) (ad : Nat → Nat) (told : Nat → Int32) (rea : Nat → Int32) (wread : Nat → Int32) (ltold : Nat → Int32) (lout : Nat → Int32) (x1 : Int32) {res : Int32} (hf : fX0_whoRead rea x1 = some res) : zMet l Δ yX0_whoRead cX0_whoRead 4 (some .int) 2 43 [.ref (ad 0), .int x1] (wX0 Δ ad told rea wread ltold lout) (wX0 Δ ad told rea wread ltold lout) (some (.int res)) := by
  refine z_start (by decide +kernel) (Nat.le_of_ble_eq_true rfl) ?_
  intro p e s m args below meth c A ls X Z hl
  have hl : lv_has ls 4 [(0, .ref (ad 0)), (1, .int x1)] := hl
  have L4 : ∀ (k : Nat) (rea : Nat → Int32) (v1 : Int32) (v2 : Int32) (v3 : Int32), fX0_whoRead_4 k rea v1 v2 v3 = some res → ∀ (H : Heap) (locs : List Loc) (ls : Array Slot), zW Δ A s.heap (wX0 Δ ad told rea wread ltold lout) H locs → lv_has ls 4 [(0, .ref (ad 0)), (1, .int v1), (2, .int v2), (3, .int v3)] → W p l e { frames := 2, cells := 0, slots := 0, locals := 43 } s m args below meth c H locs 0 0 (zEnd Δ below args s 0 0 A (some (.int res)) (wX0 Δ ad told rea wread ltold lout)) (F0 m 4 ls []) := by
    intro k
    induction k with
    | zero =>
      intro rea v1 v2 v3 hf
      rw [fX0_whoRead_4.eq_1] at hf
      cases hf
    | succ k ih =>
      intro rea v1 v2 v3 hf H locs ls Z hl
      rw [fX0_whoRead_4.eq_2] at hf
      refine lv_iload_n X.x X.b dX0_whoRead_4 rfl (lv_at hl 3 rfl) ?_
      refine lv_bipush (v := 6) X.x X.b dX0_whoRead_5 kb_6 ?_
      refine lv_icmp_ge (tgt := 31) X.x X.b dX0_whoRead_7 (by decide) (fun b1 => ?_) (fun b1 => ?_)
      · have hf := zif_t b1 hf
        refine lv_iload_n X.x X.b dX0_whoRead_31 rfl (lv_at hl 2 rfl) ?_
        cases hf
        exact z_iret X Z dX0_whoRead_32
      · have hf := zif_f b1 hf
        refine lv_aload_n X.x X.b dX0_whoRead_10 rfl (lv_at hl 0 rfl) ?_
        refine lv_iload_n X.x X.b dX0_whoRead_11 rfl (lv_at hl 3 rfl) ?_
        refine lv_iload_n X.x X.b dX0_whoRead_12 rfl (lv_at hl 1 rfl) ?_
        obtain ⟨q1, hq1, hf⟩ := zb_ok hf
        refine z_callV X Z hl (mX0_hasRead l Δ ad told rea wread ltold lout v3 v1 hq1) wd_423 wd_424 wd_425 wd_22 wd_426 ok_X0_hasRead 0 rfl 0 rfl (w' := (wX0 Δ ad told rea wread ltold lout)) su_0 fs_0 pu_0 rfl (rest := []) rfl (Nat.le_of_ble_eq_true rfl) ⟨Nat.le_of_ble_eq_true rfl, Nat.le_of_ble_eq_true rfl⟩ ⟨Nat.zero_le _, Nat.zero_le _⟩ (st1 := [.int q1]) rfl dX0_whoRead_13 (fun H locs Z => ?_)
        refine lv_if_eq (tgt := 25) X.x X.b dX0_whoRead_16 (by decide) (fun b2 => ?_) (fun b2 => ?_)
        · have hf := zif_t b2 hf
          refine lv_iinc (v := (v3 + 1)) (lv' := [(3, .int (v3 + 1)), (0, .ref (ad 0)), (1, .int v1), (2, .int v2)]) X.x X.b dX0_whoRead_25 hl (k := 3) rfl (congrArg _ ki_1) (Nat.le_of_ble_eq_true rfl) rfl (fun ls hl => ?_)
          refine lv_goto (tgt := 4) X.x X.b dX0_whoRead_28 (by decide) ?_
          exact ih rea v1 v2 (v3 + 1) hf _ _ _ Z (lv_sub hl [1, 2, 3, 0] rfl)
        · have hf := zif_f b2 hf
          refine lv_iload_n X.x X.b dX0_whoRead_19 rfl (lv_at hl 2 rfl) ?_
          refine lv_iconst (v := 1) X.x X.b dX0_whoRead_20 ki_1 ?_
          refine lv_iload_n X.x X.b dX0_whoRead_21 rfl (lv_at hl 3 rfl) ?_
          refine lv_ishl X.x X.b dX0_whoRead_22 ?_
          refine lv_ior X.x X.b dX0_whoRead_23 ?_
          refine lv_istore_n (lv' := [(2, .int (v2 ||| ((1 : Int32) <<< (v3 &&& 31)))), (0, .ref (ad 0)), (1, .int v1), (3, .int v3)]) X.x X.b dX0_whoRead_24 rfl hl (Nat.le_of_ble_eq_true rfl) rfl (fun ls hl => ?_)
          refine lv_iinc (v := (v3 + 1)) (lv' := [(3, .int (v3 + 1)), (2, .int (v2 ||| ((1 : Int32) <<< (v3 &&& 31)))), (0, .ref (ad 0)), (1, .int v1)]) X.x X.b dX0_whoRead_25 hl (k := 3) rfl (congrArg _ ki_1) (Nat.le_of_ble_eq_true rfl) rfl (fun ls hl => ?_)
          refine lv_goto (tgt := 4) X.x X.b dX0_whoRead_28 (by decide) ?_
          exact ih rea v1 (v2 ||| ((1 : Int32) <<< (v3 &&& 31))) (v3 + 1) hf _ _ _ Z (lv_sub hl [2, 3, 1, 0] rfl)
  rw [fX0_whoRead.eq_1] at hf
  refine lv_iconst (v := 0) X.x X.b dX0_whoRead_0 ki_0 ?_
  refine lv_istore_n (lv' := [(2, .int 0), (0, .ref (ad 0)), (1, .int x1)]) X.x X.b dX0_whoRead_1 rfl hl (Nat.le_of_ble_eq_true rfl) rfl (fun ls hl => ?_)
  refine lv_iconst (v := 0) X.x X.b dX0_whoRead_2 ki_0 ?_
  refine lv_istore_n (lv' := [(3, .int 0), (2, .int 0), (0, .ref (ad 0)), (1, .int x1)]) X.x X.b dX0_whoRead_3 rfl hl (Nat.le_of_ble_eq_true rfl) rfl (fun ls hl => ?_)
  exact L4 zfuel rea x1 0 0 hf _ _ _ Z (lv_sub hl [2, 3, 1, 0] rfl)
set_option maxRecDepth 100000 in
set_option maxHeartbeats 4000000 in
theorem mX0_howManyKnowAll (l : Launch) (Δ : zE) (ad : Nat → Nat) (told : Nat → Int32) (rea : Nat → Int32) (wread : Nat → Int32) (ltold : Nat → Int32) (lout : Nat → Int32) (x1 : Int32) {res : Int32} (hf : fX0_howManyKnowAll told rea x1 = some res) : zMet l Δ yX0_howManyKnowAll cX0_howManyKnowAll 4 (some .int) 1 21 [.ref (ad 0), .int x1] (wX0 Δ ad told rea wread ltold lout) (wX0 Δ ad told rea wread ltold lout) (some (.int res)) := by
  refine z_start (by decide +kernel) (Nat.le_of_ble_eq_true rfl) ?_
  intro p e s m args below meth c A ls X Z hl
  have hl : lv_has ls 4 [(0, .ref (ad 0)), (1, .int x1)] := hl
  have L4 : ∀ (k : Nat) (told : Nat → Int32) (rea : Nat → Int32) (v1 : Int32) (v2 : Int32) (v3 : Int32), fX0_howManyKnowAll_4 k told rea v1 v2 v3 = some res → ∀ (H : Heap) (locs : List Loc) (ls : Array Slot), zW Δ A s.heap (wX0 Δ ad told rea wread ltold lout) H locs → lv_has ls 4 [(0, .ref (ad 0)), (1, .int v1), (2, .int v2), (3, .int v3)] → W p l e { frames := 1, cells := 0, slots := 0, locals := 21 } s m args below meth c H locs 0 0 (zEnd Δ below args s 0 0 A (some (.int res)) (wX0 Δ ad told rea wread ltold lout)) (F0 m 4 ls []) := by
    intro k
    induction k with
    | zero =>
      intro told rea v1 v2 v3 hf
      rw [fX0_howManyKnowAll_4.eq_1] at hf
      cases hf
    | succ k ih =>
      intro told rea v1 v2 v3 hf H locs ls Z hl
      rw [fX0_howManyKnowAll_4.eq_2] at hf
      refine lv_iload_n X.x X.b dX0_howManyKnowAll_4 rfl (lv_at hl 3 rfl) ?_
      refine lv_bipush (v := 6) X.x X.b dX0_howManyKnowAll_5 kb_6 ?_
      refine lv_icmp_ge (tgt := 28) X.x X.b dX0_howManyKnowAll_7 (by decide) (fun b1 => ?_) (fun b1 => ?_)
      · have hf := zif_t b1 hf
        refine lv_iload_n X.x X.b dX0_howManyKnowAll_28 rfl (lv_at hl 2 rfl) ?_
        cases hf
        exact z_iret X Z dX0_howManyKnowAll_29
      · have hf := zif_f b1 hf
        refine lv_aload_n X.x X.b dX0_howManyKnowAll_10 rfl (lv_at hl 0 rfl) ?_
        refine lv_iload_n X.x X.b dX0_howManyKnowAll_11 rfl (lv_at hl 3 rfl) ?_
        obtain ⟨q1, hq1, hf⟩ := zb_ok hf
        refine z_callV X Z hl (mX0_known l Δ ad told rea wread ltold lout v3 hq1) wd_337 wd_338 wd_339 wd_22 wd_340 ok_X0_known 0 rfl 0 rfl (w' := (wX0 Δ ad told rea wread ltold lout)) su_0 fs_0 pu_0 rfl (rest := []) rfl (Nat.le_of_ble_eq_true rfl) ⟨Nat.le_of_ble_eq_true rfl, Nat.le_of_ble_eq_true rfl⟩ ⟨Nat.zero_le _, Nat.zero_le _⟩ (st1 := [.int q1]) rfl dX0_howManyKnowAll_12 (fun H locs Z => ?_)
        refine lv_iload_n X.x X.b dX0_howManyKnowAll_15 rfl (lv_at hl 1 rfl) ?_
        refine lv_icmp_ne (tgt := 22) X.x X.b dX0_howManyKnowAll_16 (by decide) (fun b2 => ?_) (fun b2 => ?_)
        · have hf := zif_f b2 hf
          refine lv_iinc (v := (v3 + 1)) (lv' := [(3, .int (v3 + 1)), (0, .ref (ad 0)), (1, .int v1), (2, .int v2)]) X.x X.b dX0_howManyKnowAll_22 hl (k := 3) rfl (congrArg _ ki_1) (Nat.le_of_ble_eq_true rfl) rfl (fun ls hl => ?_)
          refine lv_goto (tgt := 4) X.x X.b dX0_howManyKnowAll_25 (by decide) ?_
          exact ih told rea v1 v2 (v3 + 1) hf _ _ _ Z (lv_sub hl [1, 2, 3, 0] rfl)
        · have hf := zif_t b2 hf
          refine lv_iinc (v := (v2 + 1)) (lv' := [(2, .int (v2 + 1)), (0, .ref (ad 0)), (1, .int v1), (3, .int v3)]) X.x X.b dX0_howManyKnowAll_19 hl (k := 2) rfl (congrArg _ ki_1) (Nat.le_of_ble_eq_true rfl) rfl (fun ls hl => ?_)
          refine lv_iinc (v := (v3 + 1)) (lv' := [(3, .int (v3 + 1)), (2, .int (v2 + 1)), (0, .ref (ad 0)), (1, .int v1)]) X.x X.b dX0_howManyKnowAll_22 hl (k := 3) rfl (congrArg _ ki_1) (Nat.le_of_ble_eq_true rfl) rfl (fun ls hl => ?_)
          refine lv_goto (tgt := 4) X.x X.b dX0_howManyKnowAll_25 (by decide) ?_
          exact ih told rea v1 (v2 + 1) (v3 + 1) hf _ _ _ Z (lv_sub hl [2, 3, 1, 0] rfl)
  rw [fX0_howManyKnowAll.eq_1] at hf
  refine lv_iconst (v := 0) X.x X.b dX0_howManyKnowAll_0 ki_0 ?_
  refine lv_istore_n (lv' := [(2, .int 0), (0, .ref (ad 0)), (1, .int x1)]) X.x X.b dX0_howManyKnowAll_1 rfl hl (Nat.le_of_ble_eq_true rfl) rfl (fun ls hl => ?_)
  refine lv_iconst (v := 0) X.x X.b dX0_howManyKnowAll_2 ki_0 ?_
  refine lv_istore_n (lv' := [(3, .int 0), (2, .int 0), (0, .ref (ad 0)), (1, .int x1)]) X.x X.b dX0_howManyKnowAll_3 rfl hl (Nat.le_of_ble_eq_true rfl) rfl (fun ls hl => ?_)
  exact L4 zfuel told rea x1 0 0 hf _ _ _ Z (lv_sub hl [2, 3, 1, 0] rfl)
set_option maxRecDepth 100000 in
set_option maxHeartbeats 4000000 in
theorem mX0_sumOfWordsRead (l : Launch) (Δ : zE) (ad : Nat → Nat) (told : Nat → Int32) (rea : Nat → Int32) (wread : Nat → Int32) (ltold : Nat → Int32) (lout : Nat → Int32)  {res : Int32} (hf : fX0_sumOfWordsRead wread = some res) : zMet l Δ yX0_sumOfWordsRead cX0_sumOfWordsRead 3 (some .int) 0 0 [.ref (ad 0)] (wX0 Δ ad told rea wread ltold lout) (wX0 Δ ad told rea wread ltold lout) (some (.int res)) := by
  refine z_start (by decide +kernel) (Nat.le_of_ble_eq_true rfl) ?_
  intro p e s m args below meth c A ls X Z hl
  have hl : lv_has ls 3 [(0, .ref (ad 0))] := hl
  have L4 : ∀ (k : Nat) (wread : Nat → Int32) (v1 : Int32) (v2 : Int32), fX0_sumOfWordsRead_4 k wread v1 v2 = some res → ∀ (H : Heap) (locs : List Loc) (ls : Array Slot), zW Δ A s.heap (wX0 Δ ad told rea wread ltold lout) H locs → lv_has ls 3 [(0, .ref (ad 0)), (1, .int v1), (2, .int v2)] → W p l e { frames := 0, cells := 0, slots := 0, locals := 0 } s m args below meth c H locs 0 0 (zEnd Δ below args s 0 0 A (some (.int res)) (wX0 Δ ad told rea wread ltold lout)) (F0 m 4 ls []) := by
    intro k
    induction k with
    | zero =>
      intro wread v1 v2 hf
      rw [fX0_sumOfWordsRead_4.eq_1] at hf
      cases hf
    | succ k ih =>
      intro wread v1 v2 hf H locs ls Z hl
      rw [fX0_sumOfWordsRead_4.eq_2] at hf
      refine lv_iload_n X.x X.b dX0_sumOfWordsRead_4 rfl (lv_at hl 2 rfl) ?_
      refine lv_bipush (v := 6) X.x X.b dX0_sumOfWordsRead_5 kb_6 ?_
      refine lv_icmp_ge (tgt := 25) X.x X.b dX0_sumOfWordsRead_7 (by decide) (fun b1 => ?_) (fun b1 => ?_)
      · have hf := zif_t b1 hf
        refine lv_iload_n X.x X.b dX0_sumOfWordsRead_25 rfl (lv_at hl 1 rfl) ?_
        cases hf
        exact z_iret X Z dX0_sumOfWordsRead_26
      · have hf := zif_f b1 hf
        refine lv_iload_n X.x X.b dX0_sumOfWordsRead_10 rfl (lv_at hl 1 rfl) ?_
        refine lv_aload_n X.x X.b dX0_sumOfWordsRead_11 rfl (lv_at hl 0 rfl) ?_
        refine z_gf inG_X0 (ci := 0) rfl 2 (Nat.le_of_ble_eq_true rfl) rfl X Z wd_88 0 rfl (v := .ref (ad 3)) rfl dX0_sumOfWordsRead_12 ?_
        refine lv_iload_n X.x X.b dX0_sumOfWordsRead_15 rfl (lv_at hl 2 rfl) ?_
        obtain ⟨b2, hf⟩ := zg_in hf
        refine z_iald X Z 3 rfl b2 dX0_sumOfWordsRead_16 ?_
        refine lv_iadd X.x X.b dX0_sumOfWordsRead_17 ?_
        refine lv_istore_n (lv' := [(1, .int (v1 + (wread v2.toNatClampNeg))), (0, .ref (ad 0)), (2, .int v2)]) X.x X.b dX0_sumOfWordsRead_18 rfl hl (Nat.le_of_ble_eq_true rfl) rfl (fun ls hl => ?_)
        refine lv_iinc (v := (v2 + 1)) (lv' := [(2, .int (v2 + 1)), (1, .int (v1 + (wread v2.toNatClampNeg))), (0, .ref (ad 0))]) X.x X.b dX0_sumOfWordsRead_19 hl (k := 2) rfl (congrArg _ ki_1) (Nat.le_of_ble_eq_true rfl) rfl (fun ls hl => ?_)
        refine lv_goto (tgt := 4) X.x X.b dX0_sumOfWordsRead_22 (by decide) ?_
        exact ih wread (v1 + (wread v2.toNatClampNeg)) (v2 + 1) hf _ _ _ Z (lv_sub hl [2, 1, 0] rfl)
  rw [fX0_sumOfWordsRead.eq_1] at hf
  refine lv_iconst (v := 0) X.x X.b dX0_sumOfWordsRead_0 ki_0 ?_
  refine lv_istore_n (lv' := [(1, .int 0), (0, .ref (ad 0))]) X.x X.b dX0_sumOfWordsRead_1 rfl hl (Nat.le_of_ble_eq_true rfl) rfl (fun ls hl => ?_)
  refine lv_iconst (v := 0) X.x X.b dX0_sumOfWordsRead_2 ki_0 ?_
  refine lv_istore_n (lv' := [(2, .int 0), (1, .int 0), (0, .ref (ad 0))]) X.x X.b dX0_sumOfWordsRead_3 rfl hl (Nat.le_of_ble_eq_true rfl) rfl (fun ls hl => ?_)
  exact L4 zfuel wread 0 0 hf _ _ _ Z (lv_sub hl [2, 1, 0] rfl)
set_option maxRecDepth 100000 in
set_option maxHeartbeats 4000000 in
theorem mJ6_bitCount_0f7a4 (l : Launch) (Δ : zE)  (x0 : Int32) {res : Int32} (hf : fJ6_bitCount_0f7a4 x0 = some res) : zMet l Δ yJ6_bitCount_0f7a4 cJ6_bitCount_0f7a4 1 (some .int) 0 0 [.int x0] [] [] (some (.int res)) := by
  refine z_start (by decide +kernel) (Nat.le_of_ble_eq_true rfl) ?_
  intro p e s m args below meth c A ls X Z hl
  have hl : lv_has ls 1 [(0, .int x0)] := hl
  rw [fJ6_bitCount_0f7a4.eq_1] at hf
  refine lv_iload_n X.x X.b dJ6_bitCount_0f7a4_0 rfl (lv_at hl 0 rfl) ?_
  refine lv_iload_n X.x X.b dJ6_bitCount_0f7a4_1 rfl (lv_at hl 0 rfl) ?_
  refine lv_iconst (v := 1) X.x X.b dJ6_bitCount_0f7a4_2 ki_1 ?_
  refine lv_iushr (v := (zus x0 1)) X.x X.b dJ6_bitCount_0f7a4_3 rfl ?_
  refine lv_ldcw (v := 1431655765) X.x X.b X.own (X.ts _ wd_431) dJ6_bitCount_0f7a4_4 ?_
  refine lv_iand X.x X.b dJ6_bitCount_0f7a4_7 ?_
  refine lv_isub X.x X.b dJ6_bitCount_0f7a4_8 ?_
  refine lv_istore_n (lv' := [(0, .int (x0 - ((zus x0 1) &&& 1431655765)))]) X.x X.b dJ6_bitCount_0f7a4_9 rfl hl (Nat.le_of_ble_eq_true rfl) rfl (fun ls hl => ?_)
  refine lv_iload_n X.x X.b dJ6_bitCount_0f7a4_10 rfl (lv_at hl 0 rfl) ?_
  refine lv_ldcw (v := 858993459) X.x X.b X.own (X.ts _ wd_432) dJ6_bitCount_0f7a4_11 ?_
  refine lv_iand X.x X.b dJ6_bitCount_0f7a4_14 ?_
  refine lv_iload_n X.x X.b dJ6_bitCount_0f7a4_15 rfl (lv_at hl 0 rfl) ?_
  refine lv_iconst (v := 2) X.x X.b dJ6_bitCount_0f7a4_16 ki_2 ?_
  refine lv_iushr (v := (zus (x0 - ((zus x0 1) &&& 1431655765)) 2)) X.x X.b dJ6_bitCount_0f7a4_17 rfl ?_
  refine lv_ldcw (v := 858993459) X.x X.b X.own (X.ts _ wd_432) dJ6_bitCount_0f7a4_18 ?_
  refine lv_iand X.x X.b dJ6_bitCount_0f7a4_21 ?_
  refine lv_iadd X.x X.b dJ6_bitCount_0f7a4_22 ?_
  refine lv_istore_n (lv' := [(0, .int (((x0 - ((zus x0 1) &&& 1431655765)) &&& 858993459) + ((zus (x0 - ((zus x0 1) &&& 1431655765)) 2) &&& 858993459)))]) X.x X.b dJ6_bitCount_0f7a4_23 rfl hl (Nat.le_of_ble_eq_true rfl) rfl (fun ls hl => ?_)
  refine lv_iload_n X.x X.b dJ6_bitCount_0f7a4_24 rfl (lv_at hl 0 rfl) ?_
  refine lv_iload_n X.x X.b dJ6_bitCount_0f7a4_25 rfl (lv_at hl 0 rfl) ?_
  refine lv_iconst (v := 4) X.x X.b dJ6_bitCount_0f7a4_26 ki_4 ?_
  refine lv_iushr (v := (zus (((x0 - ((zus x0 1) &&& 1431655765)) &&& 858993459) + ((zus (x0 - ((zus x0 1) &&& 1431655765)) 2) &&& 858993459)) 4)) X.x X.b dJ6_bitCount_0f7a4_27 rfl ?_
  refine lv_iadd X.x X.b dJ6_bitCount_0f7a4_28 ?_
  refine lv_ldcw (v := 252645135) X.x X.b X.own (X.ts _ wd_433) dJ6_bitCount_0f7a4_29 ?_
  refine lv_iand X.x X.b dJ6_bitCount_0f7a4_32 ?_
  refine lv_istore_n (lv' := [(0, .int (((((x0 - ((zus x0 1) &&& 1431655765)) &&& 858993459) + ((zus (x0 - ((zus x0 1) &&& 1431655765)) 2) &&& 858993459)) + (zus (((x0 - ((zus x0 1) &&& 1431655765)) &&& 858993459) + ((zus (x0 - ((zus x0 1) &&& 1431655765)) 2) &&& 858993459)) 4)) &&& 252645135))]) X.x X.b dJ6_bitCount_0f7a4_33 rfl hl (Nat.le_of_ble_eq_true rfl) rfl (fun ls hl => ?_)
  refine lv_iload_n X.x X.b dJ6_bitCount_0f7a4_34 rfl (lv_at hl 0 rfl) ?_
  refine lv_iload_n X.x X.b dJ6_bitCount_0f7a4_35 rfl (lv_at hl 0 rfl) ?_
  refine lv_bipush (v := 8) X.x X.b dJ6_bitCount_0f7a4_36 kb_8 ?_
  refine lv_iushr (v := (zus (((((x0 - ((zus x0 1) &&& 1431655765)) &&& 858993459) + ((zus (x0 - ((zus x0 1) &&& 1431655765)) 2) &&& 858993459)) + (zus (((x0 - ((zus x0 1) &&& 1431655765)) &&& 858993459) + ((zus (x0 - ((zus x0 1) &&& 1431655765)) 2) &&& 858993459)) 4)) &&& 252645135) 8)) X.x X.b dJ6_bitCount_0f7a4_38 rfl ?_
  refine lv_iadd X.x X.b dJ6_bitCount_0f7a4_39 ?_
  refine lv_istore_n (lv' := [(0, .int ((((((x0 - ((zus x0 1) &&& 1431655765)) &&& 858993459) + ((zus (x0 - ((zus x0 1) &&& 1431655765)) 2) &&& 858993459)) + (zus (((x0 - ((zus x0 1) &&& 1431655765)) &&& 858993459) + ((zus (x0 - ((zus x0 1) &&& 1431655765)) 2) &&& 858993459)) 4)) &&& 252645135) + (zus (((((x0 - ((zus x0 1) &&& 1431655765)) &&& 858993459) + ((zus (x0 - ((zus x0 1) &&& 1431655765)) 2) &&& 858993459)) + (zus (((x0 - ((zus x0 1) &&& 1431655765)) &&& 858993459) + ((zus (x0 - ((zus x0 1) &&& 1431655765)) 2) &&& 858993459)) 4)) &&& 252645135) 8)))]) X.x X.b dJ6_bitCount_0f7a4_40 rfl hl (Nat.le_of_ble_eq_true rfl) rfl (fun ls hl => ?_)
  refine lv_iload_n X.x X.b dJ6_bitCount_0f7a4_41 rfl (lv_at hl 0 rfl) ?_
  refine lv_iload_n X.x X.b dJ6_bitCount_0f7a4_42 rfl (lv_at hl 0 rfl) ?_
  refine lv_bipush (v := 16) X.x X.b dJ6_bitCount_0f7a4_43 kb_16 ?_
  refine lv_iushr (v := (zus ((((((x0 - ((zus x0 1) &&& 1431655765)) &&& 858993459) + ((zus (x0 - ((zus x0 1) &&& 1431655765)) 2) &&& 858993459)) + (zus (((x0 - ((zus x0 1) &&& 1431655765)) &&& 858993459) + ((zus (x0 - ((zus x0 1) &&& 1431655765)) 2) &&& 858993459)) 4)) &&& 252645135) + (zus (((((x0 - ((zus x0 1) &&& 1431655765)) &&& 858993459) + ((zus (x0 - ((zus x0 1) &&& 1431655765)) 2) &&& 858993459)) + (zus (((x0 - ((zus x0 1) &&& 1431655765)) &&& 858993459) + ((zus (x0 - ((zus x0 1) &&& 1431655765)) 2) &&& 858993459)) 4)) &&& 252645135) 8)) 16)) X.x X.b dJ6_bitCount_0f7a4_45 rfl ?_
  refine lv_iadd X.x X.b dJ6_bitCount_0f7a4_46 ?_
  refine lv_istore_n (lv' := [(0, .int (((((((x0 - ((zus x0 1) &&& 1431655765)) &&& 858993459) + ((zus (x0 - ((zus x0 1) &&& 1431655765)) 2) &&& 858993459)) + (zus (((x0 - ((zus x0 1) &&& 1431655765)) &&& 858993459) + ((zus (x0 - ((zus x0 1) &&& 1431655765)) 2) &&& 858993459)) 4)) &&& 252645135) + (zus (((((x0 - ((zus x0 1) &&& 1431655765)) &&& 858993459) + ((zus (x0 - ((zus x0 1) &&& 1431655765)) 2) &&& 858993459)) + (zus (((x0 - ((zus x0 1) &&& 1431655765)) &&& 858993459) + ((zus (x0 - ((zus x0 1) &&& 1431655765)) 2) &&& 858993459)) 4)) &&& 252645135) 8)) + (zus ((((((x0 - ((zus x0 1) &&& 1431655765)) &&& 858993459) + ((zus (x0 - ((zus x0 1) &&& 1431655765)) 2) &&& 858993459)) + (zus (((x0 - ((zus x0 1) &&& 1431655765)) &&& 858993459) + ((zus (x0 - ((zus x0 1) &&& 1431655765)) 2) &&& 858993459)) 4)) &&& 252645135) + (zus (((((x0 - ((zus x0 1) &&& 1431655765)) &&& 858993459) + ((zus (x0 - ((zus x0 1) &&& 1431655765)) 2) &&& 858993459)) + (zus (((x0 - ((zus x0 1) &&& 1431655765)) &&& 858993459) + ((zus (x0 - ((zus x0 1) &&& 1431655765)) 2) &&& 858993459)) 4)) &&& 252645135) 8)) 16)))]) X.x X.b dJ6_bitCount_0f7a4_47 rfl hl (Nat.le_of_ble_eq_true rfl) rfl (fun ls hl => ?_)
  refine lv_iload_n X.x X.b dJ6_bitCount_0f7a4_48 rfl (lv_at hl 0 rfl) ?_
  refine lv_bipush (v := 63) X.x X.b dJ6_bitCount_0f7a4_49 kb_63 ?_
  refine lv_iand X.x X.b dJ6_bitCount_0f7a4_51 ?_
  cases hf
  exact z_iret X Z dJ6_bitCount_0f7a4_52
set_option maxRecDepth 100000 in
set_option maxHeartbeats 4000000 in
theorem mX0_sumOfRead (l : Launch) (Δ : zE) (ad : Nat → Nat) (told : Nat → Int32) (rea : Nat → Int32) (wread : Nat → Int32) (ltold : Nat → Int32) (lout : Nat → Int32)  {res : Int32} (hf : fX0_sumOfRead rea = some res) : zMet l Δ yX0_sumOfRead cX0_sumOfRead 3 (some .int) 1 20 [.ref (ad 0)] (wX0 Δ ad told rea wread ltold lout) (wX0 Δ ad told rea wread ltold lout) (some (.int res)) := by
  refine z_start (by decide +kernel) (Nat.le_of_ble_eq_true rfl) ?_
  intro p e s m args below meth c A ls X Z hl
  have hl : lv_has ls 3 [(0, .ref (ad 0))] := hl
  have L4 : ∀ (k : Nat) (rea : Nat → Int32) (v1 : Int32) (v2 : Int32), fX0_sumOfRead_4 k rea v1 v2 = some res → ∀ (H : Heap) (locs : List Loc) (ls : Array Slot), zW Δ A s.heap (wX0 Δ ad told rea wread ltold lout) H locs → lv_has ls 3 [(0, .ref (ad 0)), (1, .int v1), (2, .int v2)] → W p l e { frames := 1, cells := 0, slots := 0, locals := 20 } s m args below meth c H locs 0 0 (zEnd Δ below args s 0 0 A (some (.int res)) (wX0 Δ ad told rea wread ltold lout)) (F0 m 4 ls []) := by
    intro k
    induction k with
    | zero =>
      intro rea v1 v2 hf
      rw [fX0_sumOfRead_4.eq_1] at hf
      cases hf
    | succ k ih =>
      intro rea v1 v2 hf H locs ls Z hl
      rw [fX0_sumOfRead_4.eq_2] at hf
      refine lv_iload_n X.x X.b dX0_sumOfRead_4 rfl (lv_at hl 2 rfl) ?_
      refine lv_bipush (v := 6) X.x X.b dX0_sumOfRead_5 kb_6 ?_
      refine lv_icmp_ge (tgt := 28) X.x X.b dX0_sumOfRead_7 (by decide) (fun b1 => ?_) (fun b1 => ?_)
      · have hf := zif_t b1 hf
        refine lv_iload_n X.x X.b dX0_sumOfRead_28 rfl (lv_at hl 1 rfl) ?_
        cases hf
        exact z_iret X Z dX0_sumOfRead_29
      · have hf := zif_f b1 hf
        refine lv_iload_n X.x X.b dX0_sumOfRead_10 rfl (lv_at hl 1 rfl) ?_
        refine lv_aload_n X.x X.b dX0_sumOfRead_11 rfl (lv_at hl 0 rfl) ?_
        refine z_gf inG_X0 (ci := 0) rfl 1 (Nat.le_of_ble_eq_true rfl) rfl X Z wd_86 0 rfl (v := .ref (ad 2)) rfl dX0_sumOfRead_12 ?_
        refine lv_iload_n X.x X.b dX0_sumOfRead_15 rfl (lv_at hl 2 rfl) ?_
        obtain ⟨b2, hf⟩ := zg_in hf
        refine z_iald X Z 2 rfl b2 dX0_sumOfRead_16 ?_
        obtain ⟨q1, hq1, hf⟩ := zb_ok hf
        refine z_callS X Z hl (mJ6_bitCount_0f7a4 l Δ  (rea v2.toNatClampNeg) hq1) wd_508 wd_429 wd_33 wd_430 ok_J6_bitCount_0f7a4 (w' := (wX0 Δ ad told rea wread ltold lout)) zSub_nil rfl zput_nil rfl (rest := [.int v1]) rfl (Nat.le_of_ble_eq_true rfl) ⟨Nat.le_of_ble_eq_true rfl, Nat.le_of_ble_eq_true rfl⟩ ⟨Nat.zero_le _, Nat.zero_le _⟩ (st1 := [.int q1, .int v1]) rfl dX0_sumOfRead_17 (fun H locs Z => ?_)
        refine lv_iadd X.x X.b dX0_sumOfRead_20 ?_
        refine lv_istore_n (lv' := [(1, .int (v1 + q1)), (0, .ref (ad 0)), (2, .int v2)]) X.x X.b dX0_sumOfRead_21 rfl hl (Nat.le_of_ble_eq_true rfl) rfl (fun ls hl => ?_)
        refine lv_iinc (v := (v2 + 1)) (lv' := [(2, .int (v2 + 1)), (1, .int (v1 + q1)), (0, .ref (ad 0))]) X.x X.b dX0_sumOfRead_22 hl (k := 2) rfl (congrArg _ ki_1) (Nat.le_of_ble_eq_true rfl) rfl (fun ls hl => ?_)
        refine lv_goto (tgt := 4) X.x X.b dX0_sumOfRead_25 (by decide) ?_
        exact ih rea (v1 + q1) (v2 + 1) hf _ _ _ Z (lv_sub hl [2, 1, 0] rfl)
  rw [fX0_sumOfRead.eq_1] at hf
  refine lv_iconst (v := 0) X.x X.b dX0_sumOfRead_0 ki_0 ?_
  refine lv_istore_n (lv' := [(1, .int 0), (0, .ref (ad 0))]) X.x X.b dX0_sumOfRead_1 rfl hl (Nat.le_of_ble_eq_true rfl) rfl (fun ls hl => ?_)
  refine lv_iconst (v := 0) X.x X.b dX0_sumOfRead_2 ki_0 ?_
  refine lv_istore_n (lv' := [(2, .int 0), (1, .int 0), (0, .ref (ad 0))]) X.x X.b dX0_sumOfRead_3 rfl hl (Nat.le_of_ble_eq_true rfl) rfl (fun ls hl => ?_)
  exact L4 zfuel rea 0 0 hf _ _ _ Z (lv_sub hl [2, 1, 0] rfl)
set_option maxRecDepth 100000 in
set_option maxHeartbeats 4000000 in
theorem mX0_dropTold (l : Launch) (Δ : zE) (ad : Nat → Nat) (told : Nat → Int32) (rea : Nat → Int32) (wread : Nat → Int32) (ltold : Nat → Int32) (lout : Nat → Int32) (x1 : Int32) {res : Int32 × (Nat → Int32)} (hf : fX0_dropTold told x1 = some res) : zMet l Δ yX0_dropTold cX0_dropTold 3 (some .int) 1 20 [.ref (ad 0), .int x1] (wX0 Δ ad told rea wread ltold lout) (wX0 Δ ad res.2 rea wread ltold lout) (some (.int res.1)) := by
  refine z_start (by decide +kernel) (Nat.le_of_ble_eq_true rfl) ?_
  intro p e s m args below meth c A ls X Z hl
  have hl : lv_has ls 3 [(0, .ref (ad 0)), (1, .int x1)] := hl
  rw [fX0_dropTold.eq_1] at hf
  refine lv_aload_n X.x X.b dX0_dropTold_0 rfl (lv_at hl 0 rfl) ?_
  refine z_gf inG_X0 (ci := 0) rfl 0 (Nat.le_of_ble_eq_true rfl) rfl X Z wd_84 0 rfl (v := .ref (ad 1)) rfl dX0_dropTold_1 ?_
  refine lv_iload_n X.x X.b dX0_dropTold_4 rfl (lv_at hl 1 rfl) ?_
  obtain ⟨b1, hf⟩ := zg_in hf
  refine z_iald X Z 1 rfl b1 dX0_dropTold_5 ?_
  obtain ⟨q1, hq1, hf⟩ := zb_ok hf
  refine z_callS X Z hl (mJ6_bitCount_0f7a4 l Δ  (told x1.toNatClampNeg) hq1) wd_508 wd_429 wd_33 wd_430 ok_J6_bitCount_0f7a4 (w' := (wX0 Δ ad told rea wread ltold lout)) zSub_nil rfl zput_nil rfl (rest := []) rfl (Nat.le_of_ble_eq_true rfl) ⟨Nat.le_of_ble_eq_true rfl, Nat.le_of_ble_eq_true rfl⟩ ⟨Nat.zero_le _, Nat.zero_le _⟩ (st1 := [.int q1]) rfl dX0_dropTold_6 (fun H locs Z => ?_)
  refine lv_istore_n (lv' := [(2, .int q1), (0, .ref (ad 0)), (1, .int x1)]) X.x X.b dX0_dropTold_9 rfl hl (Nat.le_of_ble_eq_true rfl) rfl (fun ls hl => ?_)
  refine lv_aload_n X.x X.b dX0_dropTold_10 rfl (lv_at hl 1 rfl) ?_
  refine z_gf inG_X0 (ci := 0) rfl 0 (Nat.le_of_ble_eq_true rfl) rfl X Z wd_84 0 rfl (v := .ref (ad 1)) rfl dX0_dropTold_11 ?_
  refine lv_iload_n X.x X.b dX0_dropTold_14 rfl (lv_at hl 2 rfl) ?_
  refine lv_iconst (v := 0) X.x X.b dX0_dropTold_15 ki_0 ?_
  obtain ⟨b2, hf⟩ := zg_in hf
  refine z_iast (w' := (wX0 Δ ad (upd told x1.toNatClampNeg 0) rea wread ltold lout)) X Z 1 rfl b2 rfl dX0_dropTold_16 (fun H locs Z => ?_)
  refine lv_iload_n X.x X.b dX0_dropTold_17 rfl (lv_at hl 0 rfl) ?_
  cases hf
  exact z_iret X Z dX0_dropTold_18
set_option maxRecDepth 100000 in
set_option maxHeartbeats 4000000 in
theorem mX0_dropPart (l : Launch) (Δ : zE) (ad : Nat → Nat) (told : Nat → Int32) (rea : Nat → Int32) (wread : Nat → Int32) (ltold : Nat → Int32) (lout : Nat → Int32) (x1 : Int32) {res : (Nat → Int32) × (Nat → Int32)} (hf : fX0_dropPart told rea x1 = some res) : zMet l Δ yX0_dropPart cX0_dropPart 4 none 0 0 [.ref (ad 0), .int x1] (wX0 Δ ad told rea wread ltold lout) (wX0 Δ ad res.1 res.2 wread ltold lout) none := by
  refine z_start (by decide +kernel) (Nat.le_of_ble_eq_true rfl) ?_
  intro p e s m args below meth c A ls X Z hl
  have hl : lv_has ls 4 [(0, .ref (ad 0)), (1, .int x1)] := hl
  have L8 : ∀ (k : Nat) (told : Nat → Int32) (rea : Nat → Int32) (v2 : Int32) (v3 : Int32), fX0_dropPart_8 k told rea v2 v3 = some res → ∀ (H : Heap) (locs : List Loc) (ls : Array Slot), zW Δ A s.heap (wX0 Δ ad told rea wread ltold lout) H locs → lv_has ls 4 [(0, .ref (ad 0)), (2, .int v2), (3, .int v3)] → W p l e { frames := 0, cells := 0, slots := 0, locals := 0 } s m args below meth c H locs 0 0 (zEnd Δ below args s 0 0 A none (wX0 Δ ad res.1 res.2 wread ltold lout)) (F0 m 8 ls []) := by
    intro k
    induction k with
    | zero =>
      intro told rea v2 v3 hf
      rw [fX0_dropPart_8.eq_1] at hf
      cases hf
    | succ k ih =>
      intro told rea v2 v3 hf H locs ls Z hl
      rw [fX0_dropPart_8.eq_2] at hf
      refine lv_iload_n X.x X.b dX0_dropPart_8 rfl (lv_at hl 2 rfl) ?_
      refine lv_bipush (v := 6) X.x X.b dX0_dropPart_9 kb_6 ?_
      refine lv_icmp_ge (tgt := 40) X.x X.b dX0_dropPart_11 (by decide) (fun b1 => ?_) (fun b1 => ?_)
      · have hf := zif_t b1 hf
        cases hf
        exact z_vret X Z dX0_dropPart_40
      · have hf := zif_f b1 hf
        refine lv_aload_n X.x X.b dX0_dropPart_14 rfl (lv_at hl 0 rfl) ?_
        refine z_gf inG_X0 (ci := 0) rfl 0 (Nat.le_of_ble_eq_true rfl) rfl X Z wd_84 0 rfl (v := .ref (ad 1)) rfl dX0_dropPart_15 ?_
        refine lv_iload_n X.x X.b dX0_dropPart_18 rfl (lv_at hl 2 rfl) ?_
        refine lv_dup2_11 X.x X.b dX0_dropPart_19 rfl rfl ?_
        obtain ⟨b2, hf⟩ := zg_in hf
        refine z_iald X Z 1 rfl b2 dX0_dropPart_20 ?_
        refine lv_iload_n X.x X.b dX0_dropPart_21 rfl (lv_at hl 1 rfl) ?_
        refine lv_iand X.x X.b dX0_dropPart_22 ?_
        obtain ⟨b3, hf⟩ := zg_in hf
        refine z_iast (w' := (wX0 Δ ad (upd told v3.toNatClampNeg ((told v3.toNatClampNeg) &&& v2)) rea wread ltold lout)) X Z 1 rfl b3 rfl dX0_dropPart_23 (fun H locs Z => ?_)
        refine lv_aload_n X.x X.b dX0_dropPart_24 rfl (lv_at hl 0 rfl) ?_
        refine z_gf inG_X0 (ci := 0) rfl 1 (Nat.le_of_ble_eq_true rfl) rfl X Z wd_86 0 rfl (v := .ref (ad 2)) rfl dX0_dropPart_25 ?_
        refine lv_iload_n X.x X.b dX0_dropPart_28 rfl (lv_at hl 2 rfl) ?_
        refine lv_dup2_11 X.x X.b dX0_dropPart_29 rfl rfl ?_
        obtain ⟨b4, hf⟩ := zg_in hf
        refine z_iald X Z 2 rfl b4 dX0_dropPart_30 ?_
        refine lv_iload_n X.x X.b dX0_dropPart_31 rfl (lv_at hl 1 rfl) ?_
        refine lv_iand X.x X.b dX0_dropPart_32 ?_
        obtain ⟨b5, hf⟩ := zg_in hf
        refine z_iast (w' := (wX0 Δ ad (upd told v3.toNatClampNeg ((told v3.toNatClampNeg) &&& v2)) (upd rea v3.toNatClampNeg ((rea v3.toNatClampNeg) &&& v2)) wread ltold lout)) X Z 2 rfl b5 rfl dX0_dropPart_33 (fun H locs Z => ?_)
        refine lv_iinc (v := (v3 + 1)) (lv' := [(3, .int (v3 + 1)), (0, .ref (ad 0)), (2, .int v2)]) X.x X.b dX0_dropPart_34 hl (k := 2) rfl (congrArg _ ki_1) (Nat.le_of_ble_eq_true rfl) rfl (fun ls hl => ?_)
        refine lv_goto (tgt := 8) X.x X.b dX0_dropPart_37 (by decide) ?_
        exact ih (upd told v3.toNatClampNeg ((told v3.toNatClampNeg) &&& v2)) (upd rea v3.toNatClampNeg ((rea v3.toNatClampNeg) &&& v2)) v2 (v3 + 1) hf _ _ _ Z (lv_sub hl [1, 2, 0] rfl)
  rw [fX0_dropPart.eq_1] at hf
  refine lv_iconst (v := 1) X.x X.b dX0_dropPart_0 ki_1 ?_
  refine lv_iload_n X.x X.b dX0_dropPart_1 rfl (lv_at hl 1 rfl) ?_
  refine lv_ishl X.x X.b dX0_dropPart_2 ?_
  refine lv_iconst (v := (-1)) X.x X.b dX0_dropPart_3 ki_m1 ?_
  refine lv_ixor X.x X.b dX0_dropPart_4 ?_
  refine lv_istore_n (lv' := [(2, .int (((1 : Int32) <<< (x1 &&& 31)) ^^^ (-1))), (0, .ref (ad 0)), (1, .int x1)]) X.x X.b dX0_dropPart_5 rfl hl (Nat.le_of_ble_eq_true rfl) rfl (fun ls hl => ?_)
  refine lv_iconst (v := 0) X.x X.b dX0_dropPart_6 ki_0 ?_
  refine lv_istore_n (lv' := [(3, .int 0), (2, .int (((1 : Int32) <<< (x1 &&& 31)) ^^^ (-1))), (0, .ref (ad 0)), (1, .int x1)]) X.x X.b dX0_dropPart_7 rfl hl (Nat.le_of_ble_eq_true rfl) rfl (fun ls hl => ?_)
  exact L8 zfuel told rea (((1 : Int32) <<< (x1 &&& 31)) ^^^ (-1)) 0 hf _ _ _ Z (lv_sub hl [2, 1, 0] rfl)
set_option maxRecDepth 100000 in
set_option maxHeartbeats 4000000 in
theorem mX0_takeIn (l : Launch) (Δ : zE) (ad : Nat → Nat) (told : Nat → Int32) (rea : Nat → Int32) (wread : Nat → Int32) (ltold : Nat → Int32) (lout : Nat → Int32) (x1 : Int32) (x2 : Int32) (x3 : Int32) {res : (Nat → Int32) × (Nat → Int32)} (hf : fX0_takeIn told rea x1 x2 x3 = some res) : zMet l Δ yX0_takeIn cX0_takeIn 4 none 0 0 [.ref (ad 0), .int x1, .int x2, .int x3] (wX0 Δ ad told rea wread ltold lout) (wX0 Δ ad res.1 res.2 wread ltold lout) none := by
  refine z_start (by decide +kernel) (Nat.le_of_ble_eq_true rfl) ?_
  intro p e s m args below meth c A ls X Z hl
  have hl : lv_has ls 4 [(0, .ref (ad 0)), (1, .int x1), (2, .int x2), (3, .int x3)] := hl
  rw [fX0_takeIn.eq_1] at hf
  refine lv_aload_n X.x X.b dX0_takeIn_0 rfl (lv_at hl 0 rfl) ?_
  refine z_gf inG_X0 (ci := 0) rfl 1 (Nat.le_of_ble_eq_true rfl) rfl X Z wd_86 0 rfl (v := .ref (ad 2)) rfl dX0_takeIn_1 ?_
  refine lv_iload_n X.x X.b dX0_takeIn_4 rfl (lv_at hl 1 rfl) ?_
  refine lv_dup2_11 X.x X.b dX0_takeIn_5 rfl rfl ?_
  obtain ⟨b1, hf⟩ := zg_in hf
  refine z_iald X Z 2 rfl b1 dX0_takeIn_6 ?_
  refine lv_iconst (v := 1) X.x X.b dX0_takeIn_7 ki_1 ?_
  refine lv_iload_n X.x X.b dX0_takeIn_8 rfl (lv_at hl 2 rfl) ?_
  refine lv_ishl X.x X.b dX0_takeIn_9 ?_
  refine lv_ior X.x X.b dX0_takeIn_10 ?_
  obtain ⟨b2, hf⟩ := zg_in hf
  refine z_iast (w' := (wX0 Δ ad told (upd rea x1.toNatClampNeg ((rea x1.toNatClampNeg) ||| ((1 : Int32) <<< (x2 &&& 31)))) wread ltold lout)) X Z 2 rfl b2 rfl dX0_takeIn_11 (fun H locs Z => ?_)
  refine lv_aload_n X.x X.b dX0_takeIn_12 rfl (lv_at hl 0 rfl) ?_
  refine z_gf inG_X0 (ci := 0) rfl 0 (Nat.le_of_ble_eq_true rfl) rfl X Z wd_84 0 rfl (v := .ref (ad 1)) rfl dX0_takeIn_13 ?_
  refine lv_iload_n X.x X.b dX0_takeIn_16 rfl (lv_at hl 1 rfl) ?_
  refine lv_aload_n X.x X.b dX0_takeIn_17 rfl (lv_at hl 0 rfl) ?_
  refine z_gf inG_X0 (ci := 0) rfl 0 (Nat.le_of_ble_eq_true rfl) rfl X Z wd_84 0 rfl (v := .ref (ad 1)) rfl dX0_takeIn_18 ?_
  refine lv_iload_n X.x X.b dX0_takeIn_21 rfl (lv_at hl 1 rfl) ?_
  obtain ⟨b3, hf⟩ := zg_in hf
  refine z_iald X Z 1 rfl b3 dX0_takeIn_22 ?_
  refine lv_iload_n X.x X.b dX0_takeIn_23 rfl (lv_at hl 3 rfl) ?_
  refine lv_ior X.x X.b dX0_takeIn_24 ?_
  refine lv_aload_n X.x X.b dX0_takeIn_25 rfl (lv_at hl 0 rfl) ?_
  refine z_gf inG_X0 (ci := 0) rfl 1 (Nat.le_of_ble_eq_true rfl) rfl X Z wd_86 0 rfl (v := .ref (ad 2)) rfl dX0_takeIn_26 ?_
  refine lv_iload_n X.x X.b dX0_takeIn_29 rfl (lv_at hl 1 rfl) ?_
  obtain ⟨b4, hf⟩ := zg_in hf
  refine z_iald X Z 2 rfl b4 dX0_takeIn_30 ?_
  refine lv_iconst (v := (-1)) X.x X.b dX0_takeIn_31 ki_m1 ?_
  refine lv_ixor X.x X.b dX0_takeIn_32 ?_
  refine lv_iand X.x X.b dX0_takeIn_33 ?_
  obtain ⟨b5, hf⟩ := zg_in hf
  refine z_iast (w' := (wX0 Δ ad (upd told x1.toNatClampNeg (((told x1.toNatClampNeg) ||| x3) &&& (((upd rea x1.toNatClampNeg ((rea x1.toNatClampNeg) ||| ((1 : Int32) <<< (x2 &&& 31)))) x1.toNatClampNeg) ^^^ (-1)))) (upd rea x1.toNatClampNeg ((rea x1.toNatClampNeg) ||| ((1 : Int32) <<< (x2 &&& 31)))) wread ltold lout)) X Z 1 rfl b5 rfl dX0_takeIn_34 (fun H locs Z => ?_)
  cases hf
  exact z_vret X Z dX0_takeIn_35
set_option maxRecDepth 100000 in
set_option maxHeartbeats 4000000 in
theorem mX1_restart (l : Launch) (Δ : zE) (ad : Nat → Nat) (gpl : Int32) (gps : Int32) (gcl : Int32) (gwo : Int32)  {res : Int32 × Int32 × Int32 × Int32} (hf : fX1_restart gpl gps gcl gwo = some res) : zMet l Δ yX1_restart cX1_restart 1 none 0 0 [.ref (ad 0)] (wX1 Δ ad gpl gps gcl gwo) (wX1 Δ ad res.1 res.2.1 res.2.2.1 res.2.2.2) none := by
  refine z_start (by decide +kernel) (Nat.le_of_ble_eq_true rfl) ?_
  intro p e s m args below meth c A ls X Z hl
  have hl : lv_has ls 1 [(0, .ref (ad 0))] := hl
  rw [fX1_restart.eq_1] at hf
  refine lv_aload_n X.x X.b dX1_restart_0 rfl (lv_at hl 0 rfl) ?_
  refine lv_iconst (v := 0) X.x X.b dX1_restart_1 ki_0 ?_
  refine z_pf (w' := (wX1 Δ ad 0 gps gcl gwo)) inG_X1 (ci := 1) rfl tyX1 tyX1_ok nmX1 0 (Nat.le_of_ble_eq_true rfl) rfl rfl X Z wd_155 0 rfl rfl rfl (Nat.le_of_ble_eq_true rfl) rfl dX1_restart_2 (fun H locs Z => ?_)
  refine lv_aload_n X.x X.b dX1_restart_5 rfl (lv_at hl 0 rfl) ?_
  refine lv_iconst (v := 0) X.x X.b dX1_restart_6 ki_0 ?_
  refine z_pf (w' := (wX1 Δ ad 0 0 gcl gwo)) inG_X1 (ci := 1) rfl tyX1 tyX1_ok nmX1 1 (Nat.le_of_ble_eq_true rfl) rfl rfl X Z wd_156 0 rfl rfl rfl (Nat.le_of_ble_eq_true rfl) rfl dX1_restart_7 (fun H locs Z => ?_)
  refine lv_aload_n X.x X.b dX1_restart_10 rfl (lv_at hl 0 rfl) ?_
  refine lv_iconst (v := (-1)) X.x X.b dX1_restart_11 ki_m1 ?_
  refine z_pf (w' := (wX1 Δ ad 0 0 (-1) gwo)) inG_X1 (ci := 1) rfl tyX1 tyX1_ok nmX1 2 (Nat.le_of_ble_eq_true rfl) rfl rfl X Z wd_158 0 rfl rfl rfl (Nat.le_of_ble_eq_true rfl) rfl dX1_restart_12 (fun H locs Z => ?_)
  refine lv_aload_n X.x X.b dX1_restart_15 rfl (lv_at hl 0 rfl) ?_
  refine lv_bipush (v := 10) X.x X.b dX1_restart_16 kb_10 ?_
  refine z_pf (w' := (wX1 Δ ad 0 0 (-1) 10)) inG_X1 (ci := 1) rfl tyX1 tyX1_ok nmX1 3 (Nat.le_of_ble_eq_true rfl) rfl rfl X Z wd_160 0 rfl rfl rfl (Nat.le_of_ble_eq_true rfl) rfl dX1_restart_18 (fun H locs Z => ?_)
  cases hf
  exact z_vret X Z dX1_restart_21
set_option maxRecDepth 100000 in
set_option maxHeartbeats 4000000 in
theorem mX1_mayEnd (l : Launch) (Δ : zE) (ad : Nat → Nat) (gpl : Int32) (gps : Int32) (gcl : Int32) (gwo : Int32)  {res : Int32} (hf : fX1_mayEnd gpl = some res) : zMet l Δ yX1_mayEnd cX1_mayEnd 1 (some .boolean) 0 0 [.ref (ad 0)] (wX1 Δ ad gpl gps gcl gwo) (wX1 Δ ad gpl gps gcl gwo) (some (.int res)) := by
  refine z_start (by decide +kernel) (Nat.le_of_ble_eq_true rfl) ?_
  intro p e s m args below meth c A ls X Z hl
  have hl : lv_has ls 1 [(0, .ref (ad 0))] := hl
  rw [fX1_mayEnd.eq_1] at hf
  refine lv_aload_n X.x X.b dX1_mayEnd_0 rfl (lv_at hl 0 rfl) ?_
  refine z_gf inG_X1 (ci := 1) rfl 0 (Nat.le_of_ble_eq_true rfl) rfl X Z wd_155 0 rfl (v := .int gpl) rfl dX1_mayEnd_1 ?_
  refine lv_iconst (v := 1) X.x X.b dX1_mayEnd_4 ki_1 ?_
  refine lv_icmp_eq (tgt := 33) X.x X.b dX1_mayEnd_5 (by decide) (fun b1 => ?_) (fun b1 => ?_)
  · have hf := zif_t b1 hf
    refine lv_iconst (v := 1) X.x X.b dX1_mayEnd_33 ki_1 ?_
    refine lv_goto (tgt := 38) X.x X.b dX1_mayEnd_34 (by decide) ?_
    cases hf
    exact z_zret X Z (Or.inr rfl) dX1_mayEnd_38
  · have hf := zif_f b1 hf
    refine lv_aload_n X.x X.b dX1_mayEnd_8 rfl (lv_at hl 0 rfl) ?_
    refine z_gf inG_X1 (ci := 1) rfl 0 (Nat.le_of_ble_eq_true rfl) rfl X Z wd_155 0 rfl (v := .int gpl) rfl dX1_mayEnd_9 ?_
    refine lv_iconst (v := 3) X.x X.b dX1_mayEnd_12 ki_3 ?_
    refine lv_icmp_eq (tgt := 33) X.x X.b dX1_mayEnd_13 (by decide) (fun b2 => ?_) (fun b2 => ?_)
    · have hf := zif_t b2 hf
      refine lv_iconst (v := 1) X.x X.b dX1_mayEnd_33 ki_1 ?_
      refine lv_goto (tgt := 38) X.x X.b dX1_mayEnd_34 (by decide) ?_
      cases hf
      exact z_zret X Z (Or.inr rfl) dX1_mayEnd_38
    · have hf := zif_f b2 hf
      refine lv_aload_n X.x X.b dX1_mayEnd_16 rfl (lv_at hl 0 rfl) ?_
      refine z_gf inG_X1 (ci := 1) rfl 0 (Nat.le_of_ble_eq_true rfl) rfl X Z wd_155 0 rfl (v := .int gpl) rfl dX1_mayEnd_17 ?_
      refine lv_iconst (v := 5) X.x X.b dX1_mayEnd_20 ki_5 ?_
      refine lv_icmp_eq (tgt := 33) X.x X.b dX1_mayEnd_21 (by decide) (fun b3 => ?_) (fun b3 => ?_)
      · have hf := zif_t b3 hf
        refine lv_iconst (v := 1) X.x X.b dX1_mayEnd_33 ki_1 ?_
        refine lv_goto (tgt := 38) X.x X.b dX1_mayEnd_34 (by decide) ?_
        cases hf
        exact z_zret X Z (Or.inr rfl) dX1_mayEnd_38
      · have hf := zif_f b3 hf
        refine lv_aload_n X.x X.b dX1_mayEnd_24 rfl (lv_at hl 0 rfl) ?_
        refine z_gf inG_X1 (ci := 1) rfl 0 (Nat.le_of_ble_eq_true rfl) rfl X Z wd_155 0 rfl (v := .int gpl) rfl dX1_mayEnd_25 ?_
        refine lv_bipush (v := 6) X.x X.b dX1_mayEnd_28 kb_6 ?_
        refine lv_icmp_ne (tgt := 37) X.x X.b dX1_mayEnd_30 (by decide) (fun b4 => ?_) (fun b4 => ?_)
        · have hf := zif_f b4 hf
          refine lv_iconst (v := 0) X.x X.b dX1_mayEnd_37 ki_0 ?_
          cases hf
          exact z_zret X Z (Or.inl rfl) dX1_mayEnd_38
        · have hf := zif_t b4 hf
          refine lv_iconst (v := 1) X.x X.b dX1_mayEnd_33 ki_1 ?_
          refine lv_goto (tgt := 38) X.x X.b dX1_mayEnd_34 (by decide) ?_
          cases hf
          exact z_zret X Z (Or.inr rfl) dX1_mayEnd_38
set_option maxRecDepth 100000 in
set_option maxHeartbeats 4000000 in
theorem mX1_takesPlot (l : Launch) (Δ : zE) (ad : Nat → Nat) (gpl : Int32) (gps : Int32) (gcl : Int32) (gwo : Int32) (x1 : Int32) {res : Int32 × Int32 × Int32} (hf : fX1_takesPlot gpl gps x1 = some res) : zMet l Δ yX1_takesPlot cX1_takesPlot 3 (some .boolean) 0 0 [.ref (ad 0), .int x1] (wX1 Δ ad gpl gps gcl gwo) (wX1 Δ ad res.2.1 res.2.2 gcl gwo) (some (.int res.1)) := by
  refine z_start (by decide +kernel) (Nat.le_of_ble_eq_true rfl) ?_
  intro p e s m args below meth c A ls X Z hl
  have hl : lv_has ls 3 [(0, .ref (ad 0)), (1, .int x1)] := hl
  rw [fX1_takesPlot.eq_1] at hf
  refine lv_iload_n X.x X.b dX1_takesPlot_0 rfl (lv_at hl 1 rfl) ?_
  refine lv_bipush (v := 48) X.x X.b dX1_takesPlot_1 kb_48 ?_
  refine lv_isub X.x X.b dX1_takesPlot_3 ?_
  refine lv_istore_n (lv' := [(2, .int (x1 - 48)), (0, .ref (ad 0)), (1, .int x1)]) X.x X.b dX1_takesPlot_4 rfl hl (Nat.le_of_ble_eq_true rfl) rfl (fun ls hl => ?_)
  refine lv_iload_n X.x X.b dX1_takesPlot_5 rfl (lv_at hl 0 rfl) ?_
  refine lv_if_lt (tgt := 24) X.x X.b dX1_takesPlot_6 (by decide) (fun b1 => ?_) (fun b1 => ?_)
  · have hf := zif_t b1 hf
    refine lv_iconst (v := 0) X.x X.b dX1_takesPlot_24 ki_0 ?_
    cases hf
    exact z_zret X Z (Or.inl rfl) dX1_takesPlot_25
  · have hf := zif_f b1 hf
    refine lv_iload_n X.x X.b dX1_takesPlot_9 rfl (lv_at hl 0 rfl) ?_
    refine lv_bipush (v := 6) X.x X.b dX1_takesPlot_10 kb_6 ?_
    refine lv_icmp_ge (tgt := 24) X.x X.b dX1_takesPlot_12 (by decide) (fun b2 => ?_) (fun b2 => ?_)
    · have hf := zif_t b2 hf
      refine lv_iconst (v := 0) X.x X.b dX1_takesPlot_24 ki_0 ?_
      cases hf
      exact z_zret X Z (Or.inl rfl) dX1_takesPlot_25
    · have hf := zif_f b2 hf
      refine lv_aload_n X.x X.b dX1_takesPlot_15 rfl (lv_at hl 1 rfl) ?_
      refine z_gf inG_X1 (ci := 1) rfl 1 (Nat.le_of_ble_eq_true rfl) rfl X Z wd_156 0 rfl (v := .int gps) rfl dX1_takesPlot_16 ?_
      refine lv_iload_n X.x X.b dX1_takesPlot_19 rfl (lv_at hl 0 rfl) ?_
      refine lv_ishr X.x X.b dX1_takesPlot_20 ?_
      refine lv_if_eq (tgt := 26) X.x X.b dX1_takesPlot_21 (by decide) (fun b3 => ?_) (fun b3 => ?_)
      · have hf := zif_t b3 hf
        refine lv_aload_n X.x X.b dX1_takesPlot_26 rfl (lv_at hl 1 rfl) ?_
        refine lv_dup X.x X.b dX1_takesPlot_27 rfl ?_
        refine z_gf inG_X1 (ci := 1) rfl 1 (Nat.le_of_ble_eq_true rfl) rfl X Z wd_156 0 rfl (v := .int gps) rfl dX1_takesPlot_28 ?_
        refine lv_iconst (v := 1) X.x X.b dX1_takesPlot_31 ki_1 ?_
        refine lv_iload_n X.x X.b dX1_takesPlot_32 rfl (lv_at hl 0 rfl) ?_
        refine lv_ishl X.x X.b dX1_takesPlot_33 ?_
        refine lv_ior X.x X.b dX1_takesPlot_34 ?_
        refine z_pf (w' := (wX1 Δ ad gpl (gps ||| ((1 : Int32) <<< ((x1 - 48) &&& 31))) gcl gwo)) inG_X1 (ci := 1) rfl tyX1 tyX1_ok nmX1 1 (Nat.le_of_ble_eq_true rfl) rfl rfl X Z wd_156 0 rfl rfl rfl (Nat.le_of_ble_eq_true rfl) rfl dX1_takesPlot_35 (fun H locs Z => ?_)
        refine lv_aload_n X.x X.b dX1_takesPlot_38 rfl (lv_at hl 1 rfl) ?_
        refine lv_iconst (v := 1) X.x X.b dX1_takesPlot_39 ki_1 ?_
        refine z_pf (w' := (wX1 Δ ad 1 (gps ||| ((1 : Int32) <<< ((x1 - 48) &&& 31))) gcl gwo)) inG_X1 (ci := 1) rfl tyX1 tyX1_ok nmX1 0 (Nat.le_of_ble_eq_true rfl) rfl rfl X Z wd_155 0 rfl rfl rfl (Nat.le_of_ble_eq_true rfl) rfl dX1_takesPlot_40 (fun H locs Z => ?_)
        refine lv_iconst (v := 1) X.x X.b dX1_takesPlot_43 ki_1 ?_
        cases hf
        exact z_zret X Z (Or.inr rfl) dX1_takesPlot_44
      · have hf := zif_f b3 hf
        refine lv_iconst (v := 0) X.x X.b dX1_takesPlot_24 ki_0 ?_
        cases hf
        exact z_zret X Z (Or.inl rfl) dX1_takesPlot_25
set_option maxRecDepth 100000 in
set_option maxHeartbeats 4000000 in
theorem mX1_takesSign (l : Launch) (Δ : zE) (ad : Nat → Nat) (gpl : Int32) (gps : Int32) (gcl : Int32) (gwo : Int32) (x1 : Int32) (x2 : Int32) (x3 : Int32) {res : Int32 × Int32} (hf : fX1_takesSign gpl x1 x2 x3 = some res) : zMet l Δ yX1_takesSign cX1_takesSign 4 (some .boolean) 0 0 [.ref (ad 0), .int x1, .int x2, .int x3] (wX1 Δ ad gpl gps gcl gwo) (wX1 Δ ad res.2 gps gcl gwo) (some (.int res.1)) := by
  refine z_start (by decide +kernel) (Nat.le_of_ble_eq_true rfl) ?_
  intro p e s m args below meth c A ls X Z hl
  have hl : lv_has ls 4 [(0, .ref (ad 0)), (1, .int x1), (2, .int x2), (3, .int x3)] := hl
  rw [fX1_takesSign.eq_1] at hf
  refine lv_iload_n X.x X.b dX1_takesSign_0 rfl (lv_at hl 1 rfl) ?_
  refine lv_iload_n X.x X.b dX1_takesSign_1 rfl (lv_at hl 2 rfl) ?_
  refine lv_icmp_eq (tgt := 7) X.x X.b dX1_takesSign_2 (by decide) (fun b1 => ?_) (fun b1 => ?_)
  · have hf := zif_t b1 hf
    refine lv_aload_n X.x X.b dX1_takesSign_7 rfl (lv_at hl 0 rfl) ?_
    refine lv_iload_n X.x X.b dX1_takesSign_8 rfl (lv_at hl 3 rfl) ?_
    refine z_pf (w' := (wX1 Δ ad x3 gps gcl gwo)) inG_X1 (ci := 1) rfl tyX1 tyX1_ok nmX1 0 (Nat.le_of_ble_eq_true rfl) rfl rfl X Z wd_155 0 rfl rfl rfl (Nat.le_of_ble_eq_true rfl) rfl dX1_takesSign_9 (fun H locs Z => ?_)
    refine lv_iconst (v := 1) X.x X.b dX1_takesSign_12 ki_1 ?_
    cases hf
    exact z_zret X Z (Or.inr rfl) dX1_takesSign_13
  · have hf := zif_f b1 hf
    refine lv_iconst (v := 0) X.x X.b dX1_takesSign_5 ki_0 ?_
    cases hf
    exact z_zret X Z (Or.inl rfl) dX1_takesSign_6
set_option maxRecDepth 100000 in
set_option maxHeartbeats 4000000 in
theorem mX1_takesEnd (l : Launch) (Δ : zE) (ad : Nat → Nat) (gpl : Int32) (gps : Int32) (gcl : Int32) (gwo : Int32) (x1 : Int32) {res : Int32 × Int32 × Int32 × Int32 × Int32} (hf : fX1_takesEnd gpl gps gcl gwo x1 = some res) : zMet l Δ yX1_takesEnd cX1_takesEnd 2 (some .boolean) 1 20 [.ref (ad 0), .int x1] (wX1 Δ ad gpl gps gcl gwo) (wX1 Δ ad res.2.1 res.2.2.1 res.2.2.2.1 res.2.2.2.2) (some (.int res.1)) := by
  refine z_start (by decide +kernel) (Nat.le_of_ble_eq_true rfl) ?_
  intro p e s m args below meth c A ls X Z hl
  have hl : lv_has ls 2 [(0, .ref (ad 0)), (1, .int x1)] := hl
  rw [fX1_takesEnd.eq_1] at hf
  refine lv_iload_n X.x X.b dX1_takesEnd_0 rfl (lv_at hl 1 rfl) ?_
  refine lv_bipush (v := 59) X.x X.b dX1_takesEnd_1 kb_59 ?_
  refine lv_icmp_eq (tgt := 8) X.x X.b dX1_takesEnd_3 (by decide) (fun b1 => ?_) (fun b1 => ?_)
  · have hf := zif_t b1 hf
    refine lv_aload_n X.x X.b dX1_takesEnd_8 rfl (lv_at hl 0 rfl) ?_
    obtain ⟨q1, hq1, hf⟩ := zb_ok hf
    refine z_callV X Z hl (mX1_restart l Δ ad gpl gps gcl gwo hq1) wd_559 wd_540 wd_541 wd_25 wd_542 ok_X1_restart 1 rfl 0 rfl (w' := (wX1 Δ ad q1.1 q1.2.1 q1.2.2.1 q1.2.2.2)) su_1 fs_1 pu_1 rfl (rest := []) rfl (Nat.le_of_ble_eq_true rfl) ⟨Nat.le_of_ble_eq_true rfl, Nat.le_of_ble_eq_true rfl⟩ ⟨Nat.zero_le _, Nat.zero_le _⟩ (st1 := []) rfl dX1_takesEnd_9 (fun H locs Z => ?_)
    refine lv_iconst (v := 1) X.x X.b dX1_takesEnd_12 ki_1 ?_
    cases hf
    exact z_zret X Z (Or.inr rfl) dX1_takesEnd_13
  · have hf := zif_f b1 hf
    refine lv_iconst (v := 0) X.x X.b dX1_takesEnd_6 ki_0 ?_
    cases hf
    exact z_zret X Z (Or.inl rfl) dX1_takesEnd_7
set_option maxRecDepth 100000 in
set_option maxHeartbeats 4000000 in
theorem mX1_takesCliff (l : Launch) (Δ : zE) (ad : Nat → Nat) (gpl : Int32) (gps : Int32) (gcl : Int32) (gwo : Int32) (x1 : Int32) {res : Int32 × Int32 × Int32} (hf : fX1_takesCliff gpl gps gcl x1 = some res) : zMet l Δ yX1_takesCliff cX1_takesCliff 3 (some .boolean) 1 21 [.ref (ad 0), .int x1] (wX1 Δ ad gpl gps gcl gwo) (wX1 Δ ad res.2.1 gps res.2.2 gwo) (some (.int res.1)) := by
  refine z_start (by decide +kernel) (Nat.le_of_ble_eq_true rfl) ?_
  intro p e s m args below meth c A ls X Z hl
  have hl : lv_has ls 3 [(0, .ref (ad 0)), (1, .int x1)] := hl
  rw [fX1_takesCliff.eq_1] at hf
  refine lv_iload_n X.x X.b dX1_takesCliff_0 rfl (lv_at hl 1 rfl) ?_
  refine lv_bipush (v := 48) X.x X.b dX1_takesCliff_1 kb_48 ?_
  refine lv_isub X.x X.b dX1_takesCliff_3 ?_
  refine lv_istore_n (lv' := [(2, .int (x1 - 48)), (0, .ref (ad 0)), (1, .int x1)]) X.x X.b dX1_takesCliff_4 rfl hl (Nat.le_of_ble_eq_true rfl) rfl (fun ls hl => ?_)
  refine lv_iload_n X.x X.b dX1_takesCliff_5 rfl (lv_at hl 0 rfl) ?_
  refine lv_if_lt (tgt := 26) X.x X.b dX1_takesCliff_6 (by decide) (fun b1 => ?_) (fun b1 => ?_)
  · have hf := zif_t b1 hf
    refine lv_iconst (v := 0) X.x X.b dX1_takesCliff_26 ki_0 ?_
    cases hf
    exact z_zret X Z (Or.inl rfl) dX1_takesCliff_27
  · have hf := zif_f b1 hf
    refine lv_iload_n X.x X.b dX1_takesCliff_9 rfl (lv_at hl 0 rfl) ?_
    refine lv_bipush (v := 6) X.x X.b dX1_takesCliff_10 kb_6 ?_
    refine lv_icmp_ge (tgt := 26) X.x X.b dX1_takesCliff_12 (by decide) (fun b2 => ?_) (fun b2 => ?_)
    · have hf := zif_t b2 hf
      refine lv_iconst (v := 0) X.x X.b dX1_takesCliff_26 ki_0 ?_
      cases hf
      exact z_zret X Z (Or.inl rfl) dX1_takesCliff_27
    · have hf := zif_f b2 hf
      refine lv_aload_n X.x X.b dX1_takesCliff_15 rfl (lv_at hl 1 rfl) ?_
      refine z_gf inG_X1 (ci := 1) rfl 1 (Nat.le_of_ble_eq_true rfl) rfl X Z wd_156 0 rfl (v := .int gps) rfl dX1_takesCliff_16 ?_
      refine lv_iload_n X.x X.b dX1_takesCliff_19 rfl (lv_at hl 0 rfl) ?_
      obtain ⟨q1, hq1, hf⟩ := zb_ok hf
      refine z_callSN (host := "SerialRecaps") X Z hl (mX6_isIn l Δ  gps (x1 - 48) hq1) (by decide +kernel) wd_367 wd_19 wd_368 ok_X6_isIn (w' := (wX1 Δ ad gpl gps gcl gwo)) zSub_nil rfl zput_nil rfl (rest := []) rfl (Nat.le_of_ble_eq_true rfl) ⟨Nat.le_of_ble_eq_true rfl, Nat.le_of_ble_eq_true rfl⟩ ⟨Nat.zero_le _, Nat.zero_le _⟩ (st1 := [.int q1]) rfl dX1_takesCliff_20 (fun H locs Z => ?_)
      refine lv_if_ne (tgt := 28) X.x X.b dX1_takesCliff_23 (by decide) (fun b3 => ?_) (fun b3 => ?_)
      · have hf := zif_f b3 hf
        refine lv_aload_n X.x X.b dX1_takesCliff_28 rfl (lv_at hl 1 rfl) ?_
        refine lv_iload_n X.x X.b dX1_takesCliff_29 rfl (lv_at hl 0 rfl) ?_
        refine z_pf (w' := (wX1 Δ ad gpl gps (x1 - 48) gwo)) inG_X1 (ci := 1) rfl tyX1 tyX1_ok nmX1 2 (Nat.le_of_ble_eq_true rfl) rfl rfl X Z wd_158 0 rfl rfl rfl (Nat.le_of_ble_eq_true rfl) rfl dX1_takesCliff_30 (fun H locs Z => ?_)
        refine lv_aload_n X.x X.b dX1_takesCliff_33 rfl (lv_at hl 1 rfl) ?_
        refine lv_iconst (v := 3) X.x X.b dX1_takesCliff_34 ki_3 ?_
        refine z_pf (w' := (wX1 Δ ad 3 gps (x1 - 48) gwo)) inG_X1 (ci := 1) rfl tyX1 tyX1_ok nmX1 0 (Nat.le_of_ble_eq_true rfl) rfl rfl X Z wd_155 0 rfl rfl rfl (Nat.le_of_ble_eq_true rfl) rfl dX1_takesCliff_35 (fun H locs Z => ?_)
        refine lv_iconst (v := 1) X.x X.b dX1_takesCliff_38 ki_1 ?_
        cases hf
        exact z_zret X Z (Or.inr rfl) dX1_takesCliff_39
      · have hf := zif_t b3 hf
        refine lv_iconst (v := 0) X.x X.b dX1_takesCliff_26 ki_0 ?_
        cases hf
        exact z_zret X Z (Or.inl rfl) dX1_takesCliff_27
set_option maxRecDepth 100000 in
set_option maxHeartbeats 4000000 in
theorem mX1_takesDigit (l : Launch) (Δ : zE) (ad : Nat → Nat) (gpl : Int32) (gps : Int32) (gcl : Int32) (gwo : Int32) (x1 : Int32) (x2 : Int32) (x3 : Int32) {res : Int32 × Int32 × Int32} (hf : fX1_takesDigit gpl gwo x1 x2 x3 = some res) : zMet l Δ yX1_takesDigit cX1_takesDigit 4 (some .boolean) 0 0 [.ref (ad 0), .int x1, .int x2, .int x3] (wX1 Δ ad gpl gps gcl gwo) (wX1 Δ ad res.2.1 gps gcl res.2.2) (some (.int res.1)) := by
  refine z_start (by decide +kernel) (Nat.le_of_ble_eq_true rfl) ?_
  intro p e s m args below meth c A ls X Z hl
  have hl : lv_has ls 4 [(0, .ref (ad 0)), (1, .int x1), (2, .int x2), (3, .int x3)] := hl
  rw [fX1_takesDigit.eq_1] at hf
  refine lv_iload_n X.x X.b dX1_takesDigit_0 rfl (lv_at hl 1 rfl) ?_
  refine lv_bipush (v := 48) X.x X.b dX1_takesDigit_1 kb_48 ?_
  refine lv_icmp_lt (tgt := 12) X.x X.b dX1_takesDigit_3 (by decide) (fun b1 => ?_) (fun b1 => ?_)
  · have hf := zif_t b1 hf
    refine lv_iconst (v := 0) X.x X.b dX1_takesDigit_12 ki_0 ?_
    cases hf
    exact z_zret X Z (Or.inl rfl) dX1_takesDigit_13
  · have hf := zif_f b1 hf
    refine lv_iload_n X.x X.b dX1_takesDigit_6 rfl (lv_at hl 1 rfl) ?_
    refine lv_bipush (v := 57) X.x X.b dX1_takesDigit_7 kb_57 ?_
    refine lv_icmp_le (tgt := 14) X.x X.b dX1_takesDigit_9 (by decide) (fun b2 => ?_) (fun b2 => ?_)
    · have hf := zif_t b2 hf
      refine lv_aload_n X.x X.b dX1_takesDigit_14 rfl (lv_at hl 0 rfl) ?_
      refine lv_iload_n X.x X.b dX1_takesDigit_15 rfl (lv_at hl 2 rfl) ?_
      refine lv_iload_n X.x X.b dX1_takesDigit_16 rfl (lv_at hl 1 rfl) ?_
      refine lv_iadd X.x X.b dX1_takesDigit_17 ?_
      refine lv_bipush (v := 48) X.x X.b dX1_takesDigit_18 kb_48 ?_
      refine lv_isub X.x X.b dX1_takesDigit_20 ?_
      refine z_pf (w' := (wX1 Δ ad gpl gps gcl ((x2 + x1) - 48))) inG_X1 (ci := 1) rfl tyX1 tyX1_ok nmX1 3 (Nat.le_of_ble_eq_true rfl) rfl rfl X Z wd_160 0 rfl rfl rfl (Nat.le_of_ble_eq_true rfl) rfl dX1_takesDigit_21 (fun H locs Z => ?_)
      refine lv_aload_n X.x X.b dX1_takesDigit_24 rfl (lv_at hl 0 rfl) ?_
      refine lv_iload_n X.x X.b dX1_takesDigit_25 rfl (lv_at hl 3 rfl) ?_
      refine z_pf (w' := (wX1 Δ ad x3 gps gcl ((x2 + x1) - 48))) inG_X1 (ci := 1) rfl tyX1 tyX1_ok nmX1 0 (Nat.le_of_ble_eq_true rfl) rfl rfl X Z wd_155 0 rfl rfl rfl (Nat.le_of_ble_eq_true rfl) rfl dX1_takesDigit_26 (fun H locs Z => ?_)
      refine lv_iconst (v := 1) X.x X.b dX1_takesDigit_29 ki_1 ?_
      cases hf
      exact z_zret X Z (Or.inr rfl) dX1_takesDigit_30
    · have hf := zif_f b2 hf
      refine lv_iconst (v := 0) X.x X.b dX1_takesDigit_12 ki_0 ?_
      cases hf
      exact z_zret X Z (Or.inl rfl) dX1_takesDigit_13
set_option maxRecDepth 100000 in
set_option maxHeartbeats 4000000 in
theorem mX1_takes (l : Launch) (Δ : zE) (ad : Nat → Nat) (gpl : Int32) (gps : Int32) (gcl : Int32) (gwo : Int32) (x1 : Int32) {res : Int32 × Int32 × Int32 × Int32 × Int32} (hf : fX1_takes gpl gps gcl gwo x1 = some res) : zMet l Δ yX1_takes cX1_takes 2 (some .boolean) 2 43 [.ref (ad 0), .int x1] (wX1 Δ ad gpl gps gcl gwo) (wX1 Δ ad res.2.1 res.2.2.1 res.2.2.2.1 res.2.2.2.2) (some (.int res.1)) := by
  refine z_start (by decide +kernel) (Nat.le_of_ble_eq_true rfl) ?_
  intro p e s m args below meth c A ls X Z hl
  have hl : lv_has ls 2 [(0, .ref (ad 0)), (1, .int x1)] := hl
  rw [fX1_takes.eq_1] at hf
  refine lv_aload_n X.x X.b dX1_takes_0 rfl (lv_at hl 0 rfl) ?_
  refine z_gf inG_X1 (ci := 1) rfl 0 (Nat.le_of_ble_eq_true rfl) rfl X Z wd_155 0 rfl (v := .int gpl) rfl dX1_takes_1 ?_
  by_cases b1 : gpl = 0
  · have hf := zif_t b1 hf
    refine lv_tableIn (tgt := 44) X.x X.b dX1_takes_4 (zt_lo b1 (by decide)) (zt_hi b1 (by decide)) (zt_at (off := 40) b1 rfl) (by decide) ?_
    refine lv_aload_n X.x X.b dX1_takes_44 rfl (lv_at hl 0 rfl) ?_
    refine lv_iload_n X.x X.b dX1_takes_45 rfl (lv_at hl 1 rfl) ?_
    obtain ⟨q1, hq1, hf⟩ := zb_ok hf
    refine z_callV X Z hl (mX1_takesPlot l Δ ad gpl gps gcl gwo x1 hq1) wd_547 wd_549 wd_8 wd_25 wd_550 ok_X1_takesPlot 1 rfl 0 rfl (w' := (wX1 Δ ad q1.2.1 q1.2.2 gcl gwo)) su_1 fs_1 pu_1 rfl (rest := []) rfl (Nat.le_of_ble_eq_true rfl) ⟨Nat.le_of_ble_eq_true rfl, Nat.le_of_ble_eq_true rfl⟩ ⟨Nat.zero_le _, Nat.zero_le _⟩ (st1 := [.int q1.1]) rfl dX1_takes_46 (fun H locs Z => ?_)
    obtain ⟨b2, hf⟩ := zg_bo hf
    cases hf
    exact z_zret X Z b2 dX1_takes_49
  · have hf := zif_f b1 hf
    by_cases b3 : gpl = 1
    · have hf := zif_t b3 hf
      refine lv_tableIn (tgt := 50) X.x X.b dX1_takes_4 (zt_lo b3 (by decide)) (zt_hi b3 (by decide)) (zt_at (off := 46) b3 rfl) (by decide) ?_
      refine lv_aload_n X.x X.b dX1_takes_50 rfl (lv_at hl 0 rfl) ?_
      refine lv_iload_n X.x X.b dX1_takes_51 rfl (lv_at hl 1 rfl) ?_
      obtain ⟨q2, hq2, hf⟩ := zb_ok hf
      refine z_callV X Z hl (mX1_takesPlot l Δ ad gpl gps gcl gwo x1 hq2) wd_547 wd_549 wd_8 wd_25 wd_550 ok_X1_takesPlot 1 rfl 0 rfl (w' := (wX1 Δ ad q2.2.1 q2.2.2 gcl gwo)) su_1 fs_1 pu_1 rfl (rest := []) rfl (Nat.le_of_ble_eq_true rfl) ⟨Nat.le_of_ble_eq_true rfl, Nat.le_of_ble_eq_true rfl⟩ ⟨Nat.zero_le _, Nat.zero_le _⟩ (st1 := [.int q2.1]) rfl dX1_takes_52 (fun H locs Z => ?_)
      refine lv_if_ne (tgt := 88) X.x X.b dX1_takes_55 (by decide) (fun b4 => ?_) (fun b4 => ?_)
      · have hf := zif_f b4 hf
        refine lv_iconst (v := 1) X.x X.b dX1_takes_88 ki_1 ?_
        refine lv_goto (tgt := 93) X.x X.b dX1_takes_89 (by decide) ?_
        cases hf
        exact z_zret X Z (Or.inr rfl) dX1_takes_93
      · have hf := zif_t b4 hf
        refine lv_aload_n X.x X.b dX1_takes_58 rfl (lv_at hl 0 rfl) ?_
        refine lv_iload_n X.x X.b dX1_takes_59 rfl (lv_at hl 1 rfl) ?_
        refine lv_bipush (v := 33) X.x X.b dX1_takes_60 kb_33 ?_
        refine lv_iconst (v := 2) X.x X.b dX1_takes_62 ki_2 ?_
        obtain ⟨q3, hq3, hf⟩ := zb_ok hf
        refine z_callV X Z hl (mX1_takesSign l Δ ad q2.2.1 q2.2.2 gcl gwo x1 33 2 hq3) wd_551 wd_553 wd_9 wd_25 wd_554 ok_X1_takesSign 1 rfl 0 rfl (w' := (wX1 Δ ad q3.2 q2.2.2 gcl gwo)) su_1 fs_1 pu_1 rfl (rest := []) rfl (Nat.le_of_ble_eq_true rfl) ⟨Nat.le_of_ble_eq_true rfl, Nat.le_of_ble_eq_true rfl⟩ ⟨Nat.zero_le _, Nat.zero_le _⟩ (st1 := [.int q3.1]) rfl dX1_takes_63 (fun H locs Z => ?_)
        refine lv_if_ne (tgt := 88) X.x X.b dX1_takes_66 (by decide) (fun b5 => ?_) (fun b5 => ?_)
        · have hf := zif_f b5 hf
          refine lv_iconst (v := 1) X.x X.b dX1_takes_88 ki_1 ?_
          refine lv_goto (tgt := 93) X.x X.b dX1_takes_89 (by decide) ?_
          cases hf
          exact z_zret X Z (Or.inr rfl) dX1_takes_93
        · have hf := zif_t b5 hf
          refine lv_aload_n X.x X.b dX1_takes_69 rfl (lv_at hl 0 rfl) ?_
          refine lv_iload_n X.x X.b dX1_takes_70 rfl (lv_at hl 1 rfl) ?_
          refine lv_bipush (v := 119) X.x X.b dX1_takes_71 kb_119 ?_
          refine lv_iconst (v := 4) X.x X.b dX1_takes_73 ki_4 ?_
          obtain ⟨q4, hq4, hf⟩ := zb_ok hf
          refine z_callV X Z hl (mX1_takesSign l Δ ad q3.2 q2.2.2 gcl gwo x1 119 4 hq4) wd_551 wd_553 wd_9 wd_25 wd_554 ok_X1_takesSign 1 rfl 0 rfl (w' := (wX1 Δ ad q4.2 q2.2.2 gcl gwo)) su_1 fs_1 pu_1 rfl (rest := []) rfl (Nat.le_of_ble_eq_true rfl) ⟨Nat.le_of_ble_eq_true rfl, Nat.le_of_ble_eq_true rfl⟩ ⟨Nat.zero_le _, Nat.zero_le _⟩ (st1 := [.int q4.1]) rfl dX1_takes_74 (fun H locs Z => ?_)
          refine lv_if_ne (tgt := 88) X.x X.b dX1_takes_77 (by decide) (fun b6 => ?_) (fun b6 => ?_)
          · have hf := zif_f b6 hf
            refine lv_iconst (v := 1) X.x X.b dX1_takes_88 ki_1 ?_
            refine lv_goto (tgt := 93) X.x X.b dX1_takes_89 (by decide) ?_
            cases hf
            exact z_zret X Z (Or.inr rfl) dX1_takes_93
          · have hf := zif_t b6 hf
            refine lv_aload_n X.x X.b dX1_takes_80 rfl (lv_at hl 0 rfl) ?_
            refine lv_iload_n X.x X.b dX1_takes_81 rfl (lv_at hl 1 rfl) ?_
            obtain ⟨q5, hq5, hf⟩ := zb_ok hf
            refine z_callV X Z hl (mX1_takesEnd l Δ ad q4.2 q2.2.2 gcl gwo x1 hq5) wd_555 wd_557 wd_10 wd_25 wd_558 ok_X1_takesEnd 1 rfl 0 rfl (w' := (wX1 Δ ad q5.2.1 q5.2.2.1 q5.2.2.2.1 q5.2.2.2.2)) su_1 fs_1 pu_1 rfl (rest := []) rfl (Nat.le_of_ble_eq_true rfl) ⟨Nat.le_of_ble_eq_true rfl, Nat.le_of_ble_eq_true rfl⟩ ⟨Nat.zero_le _, Nat.zero_le _⟩ (st1 := [.int q5.1]) rfl dX1_takes_82 (fun H locs Z => ?_)
            refine lv_if_eq (tgt := 92) X.x X.b dX1_takes_85 (by decide) (fun b7 => ?_) (fun b7 => ?_)
            · have hf := zif_t b7 hf
              refine lv_iconst (v := 0) X.x X.b dX1_takes_92 ki_0 ?_
              cases hf
              exact z_zret X Z (Or.inl rfl) dX1_takes_93
            · have hf := zif_f b7 hf
              refine lv_iconst (v := 1) X.x X.b dX1_takes_88 ki_1 ?_
              refine lv_goto (tgt := 93) X.x X.b dX1_takes_89 (by decide) ?_
              cases hf
              exact z_zret X Z (Or.inr rfl) dX1_takes_93
    · have hf := zif_f b3 hf
      by_cases b8 : gpl = 2
      · have hf := zif_t b8 hf
        refine lv_tableIn (tgt := 94) X.x X.b dX1_takes_4 (zt_lo b8 (by decide)) (zt_hi b8 (by decide)) (zt_at (off := 90) b8 rfl) (by decide) ?_
        refine lv_aload_n X.x X.b dX1_takes_94 rfl (lv_at hl 0 rfl) ?_
        refine lv_iload_n X.x X.b dX1_takes_95 rfl (lv_at hl 1 rfl) ?_
        obtain ⟨q6, hq6, hf⟩ := zb_ok hf
        refine z_callV X Z hl (mX1_takesCliff l Δ ad gpl gps gcl gwo x1 hq6) wd_560 wd_562 wd_11 wd_25 wd_563 ok_X1_takesCliff 1 rfl 0 rfl (w' := (wX1 Δ ad q6.2.1 gps q6.2.2 gwo)) su_1 fs_1 pu_1 rfl (rest := []) rfl (Nat.le_of_ble_eq_true rfl) ⟨Nat.le_of_ble_eq_true rfl, Nat.le_of_ble_eq_true rfl⟩ ⟨Nat.zero_le _, Nat.zero_le _⟩ (st1 := [.int q6.1]) rfl dX1_takes_96 (fun H locs Z => ?_)
        obtain ⟨b9, hf⟩ := zg_bo hf
        cases hf
        exact z_zret X Z b9 dX1_takes_99
      · have hf := zif_f b8 hf
        by_cases b10 : gpl = 3
        · have hf := zif_t b10 hf
          refine lv_tableIn (tgt := 100) X.x X.b dX1_takes_4 (zt_lo b10 (by decide)) (zt_hi b10 (by decide)) (zt_at (off := 96) b10 rfl) (by decide) ?_
          refine lv_aload_n X.x X.b dX1_takes_100 rfl (lv_at hl 0 rfl) ?_
          refine lv_iload_n X.x X.b dX1_takes_101 rfl (lv_at hl 1 rfl) ?_
          refine lv_bipush (v := 119) X.x X.b dX1_takes_102 kb_119 ?_
          refine lv_iconst (v := 4) X.x X.b dX1_takes_104 ki_4 ?_
          obtain ⟨q7, hq7, hf⟩ := zb_ok hf
          refine z_callV X Z hl (mX1_takesSign l Δ ad gpl gps gcl gwo x1 119 4 hq7) wd_551 wd_553 wd_9 wd_25 wd_554 ok_X1_takesSign 1 rfl 0 rfl (w' := (wX1 Δ ad q7.2 gps gcl gwo)) su_1 fs_1 pu_1 rfl (rest := []) rfl (Nat.le_of_ble_eq_true rfl) ⟨Nat.le_of_ble_eq_true rfl, Nat.le_of_ble_eq_true rfl⟩ ⟨Nat.zero_le _, Nat.zero_le _⟩ (st1 := [.int q7.1]) rfl dX1_takes_105 (fun H locs Z => ?_)
          refine lv_if_ne (tgt := 119) X.x X.b dX1_takes_108 (by decide) (fun b11 => ?_) (fun b11 => ?_)
          · have hf := zif_f b11 hf
            refine lv_iconst (v := 1) X.x X.b dX1_takes_119 ki_1 ?_
            refine lv_goto (tgt := 124) X.x X.b dX1_takes_120 (by decide) ?_
            cases hf
            exact z_zret X Z (Or.inr rfl) dX1_takes_124
          · have hf := zif_t b11 hf
            refine lv_aload_n X.x X.b dX1_takes_111 rfl (lv_at hl 0 rfl) ?_
            refine lv_iload_n X.x X.b dX1_takes_112 rfl (lv_at hl 1 rfl) ?_
            obtain ⟨q8, hq8, hf⟩ := zb_ok hf
            refine z_callV X Z hl (mX1_takesEnd l Δ ad q7.2 gps gcl gwo x1 hq8) wd_555 wd_557 wd_10 wd_25 wd_558 ok_X1_takesEnd 1 rfl 0 rfl (w' := (wX1 Δ ad q8.2.1 q8.2.2.1 q8.2.2.2.1 q8.2.2.2.2)) su_1 fs_1 pu_1 rfl (rest := []) rfl (Nat.le_of_ble_eq_true rfl) ⟨Nat.le_of_ble_eq_true rfl, Nat.le_of_ble_eq_true rfl⟩ ⟨Nat.zero_le _, Nat.zero_le _⟩ (st1 := [.int q8.1]) rfl dX1_takes_113 (fun H locs Z => ?_)
            refine lv_if_eq (tgt := 123) X.x X.b dX1_takes_116 (by decide) (fun b12 => ?_) (fun b12 => ?_)
            · have hf := zif_t b12 hf
              refine lv_iconst (v := 0) X.x X.b dX1_takes_123 ki_0 ?_
              cases hf
              exact z_zret X Z (Or.inl rfl) dX1_takes_124
            · have hf := zif_f b12 hf
              refine lv_iconst (v := 1) X.x X.b dX1_takes_119 ki_1 ?_
              refine lv_goto (tgt := 124) X.x X.b dX1_takes_120 (by decide) ?_
              cases hf
              exact z_zret X Z (Or.inr rfl) dX1_takes_124
        · have hf := zif_f b10 hf
          by_cases b13 : gpl = 4
          · have hf := zif_t b13 hf
            refine lv_tableIn (tgt := 125) X.x X.b dX1_takes_4 (zt_lo b13 (by decide)) (zt_hi b13 (by decide)) (zt_at (off := 121) b13 rfl) (by decide) ?_
            refine lv_iload_n X.x X.b dX1_takes_125 rfl (lv_at hl 1 rfl) ?_
            refine lv_bipush (v := 48) X.x X.b dX1_takes_126 kb_48 ?_
            refine lv_icmp_eq (tgt := 145) X.x X.b dX1_takes_128 (by decide) (fun b14 => ?_) (fun b14 => ?_)
            · have hf := zif_t b14 hf
              refine lv_iconst (v := 0) X.x X.b dX1_takes_145 ki_0 ?_
              cases hf
              exact z_zret X Z (Or.inl rfl) dX1_takes_146
            · have hf := zif_f b14 hf
              refine lv_aload_n X.x X.b dX1_takes_131 rfl (lv_at hl 0 rfl) ?_
              refine lv_iload_n X.x X.b dX1_takes_132 rfl (lv_at hl 1 rfl) ?_
              refine lv_iconst (v := 0) X.x X.b dX1_takes_133 ki_0 ?_
              refine lv_iconst (v := 5) X.x X.b dX1_takes_134 ki_5 ?_
              obtain ⟨q9, hq9, hf⟩ := zb_ok hf
              refine z_callV X Z hl (mX1_takesDigit l Δ ad gpl gps gcl gwo x1 0 5 hq9) wd_565 wd_567 wd_12 wd_25 wd_568 ok_X1_takesDigit 1 rfl 0 rfl (w' := (wX1 Δ ad q9.2.1 gps gcl q9.2.2)) su_1 fs_1 pu_1 rfl (rest := []) rfl (Nat.le_of_ble_eq_true rfl) ⟨Nat.le_of_ble_eq_true rfl, Nat.le_of_ble_eq_true rfl⟩ ⟨Nat.zero_le _, Nat.zero_le _⟩ (st1 := [.int q9.1]) rfl dX1_takes_135 (fun H locs Z => ?_)
              refine lv_if_eq (tgt := 145) X.x X.b dX1_takes_138 (by decide) (fun b15 => ?_) (fun b15 => ?_)
              · have hf := zif_t b15 hf
                refine lv_iconst (v := 0) X.x X.b dX1_takes_145 ki_0 ?_
                cases hf
                exact z_zret X Z (Or.inl rfl) dX1_takes_146
              · have hf := zif_f b15 hf
                refine lv_iconst (v := 1) X.x X.b dX1_takes_141 ki_1 ?_
                refine lv_goto (tgt := 146) X.x X.b dX1_takes_142 (by decide) ?_
                cases hf
                exact z_zret X Z (Or.inr rfl) dX1_takes_146
          · have hf := zif_f b13 hf
            by_cases b16 : gpl = 5
            · have hf := zif_t b16 hf
              refine lv_tableIn (tgt := 147) X.x X.b dX1_takes_4 (zt_lo b16 (by decide)) (zt_hi b16 (by decide)) (zt_at (off := 143) b16 rfl) (by decide) ?_
              refine lv_aload_n X.x X.b dX1_takes_147 rfl (lv_at hl 0 rfl) ?_
              refine lv_iload_n X.x X.b dX1_takes_148 rfl (lv_at hl 1 rfl) ?_
              refine lv_aload_n X.x X.b dX1_takes_149 rfl (lv_at hl 0 rfl) ?_
              refine z_gf inG_X1 (ci := 1) rfl 3 (Nat.le_of_ble_eq_true rfl) rfl X Z wd_160 0 rfl (v := .int gwo) rfl dX1_takes_150 ?_
              refine lv_bipush (v := 10) X.x X.b dX1_takes_153 kb_10 ?_
              refine lv_imul X.x X.b dX1_takes_155 ?_
              refine lv_bipush (v := 6) X.x X.b dX1_takes_156 kb_6 ?_
              obtain ⟨q10, hq10, hf⟩ := zb_ok hf
              refine z_callV X Z hl (mX1_takesDigit l Δ ad gpl gps gcl gwo x1 (gwo * 10) 6 hq10) wd_565 wd_567 wd_12 wd_25 wd_568 ok_X1_takesDigit 1 rfl 0 rfl (w' := (wX1 Δ ad q10.2.1 gps gcl q10.2.2)) su_1 fs_1 pu_1 rfl (rest := []) rfl (Nat.le_of_ble_eq_true rfl) ⟨Nat.le_of_ble_eq_true rfl, Nat.le_of_ble_eq_true rfl⟩ ⟨Nat.zero_le _, Nat.zero_le _⟩ (st1 := [.int q10.1]) rfl dX1_takes_158 (fun H locs Z => ?_)
              refine lv_if_ne (tgt := 172) X.x X.b dX1_takes_161 (by decide) (fun b17 => ?_) (fun b17 => ?_)
              · have hf := zif_f b17 hf
                refine lv_iconst (v := 1) X.x X.b dX1_takes_172 ki_1 ?_
                refine lv_goto (tgt := 177) X.x X.b dX1_takes_173 (by decide) ?_
                cases hf
                exact z_zret X Z (Or.inr rfl) dX1_takes_177
              · have hf := zif_t b17 hf
                refine lv_aload_n X.x X.b dX1_takes_164 rfl (lv_at hl 0 rfl) ?_
                refine lv_iload_n X.x X.b dX1_takes_165 rfl (lv_at hl 1 rfl) ?_
                obtain ⟨q11, hq11, hf⟩ := zb_ok hf
                refine z_callV X Z hl (mX1_takesEnd l Δ ad q10.2.1 gps gcl q10.2.2 x1 hq11) wd_555 wd_557 wd_10 wd_25 wd_558 ok_X1_takesEnd 1 rfl 0 rfl (w' := (wX1 Δ ad q11.2.1 q11.2.2.1 q11.2.2.2.1 q11.2.2.2.2)) su_1 fs_1 pu_1 rfl (rest := []) rfl (Nat.le_of_ble_eq_true rfl) ⟨Nat.le_of_ble_eq_true rfl, Nat.le_of_ble_eq_true rfl⟩ ⟨Nat.zero_le _, Nat.zero_le _⟩ (st1 := [.int q11.1]) rfl dX1_takes_166 (fun H locs Z => ?_)
                refine lv_if_eq (tgt := 176) X.x X.b dX1_takes_169 (by decide) (fun b18 => ?_) (fun b18 => ?_)
                · have hf := zif_t b18 hf
                  refine lv_iconst (v := 0) X.x X.b dX1_takes_176 ki_0 ?_
                  cases hf
                  exact z_zret X Z (Or.inl rfl) dX1_takes_177
                · have hf := zif_f b18 hf
                  refine lv_iconst (v := 1) X.x X.b dX1_takes_172 ki_1 ?_
                  refine lv_goto (tgt := 177) X.x X.b dX1_takes_173 (by decide) ?_
                  cases hf
                  exact z_zret X Z (Or.inr rfl) dX1_takes_177
            · have hf := zif_f b16 hf
              refine lv_tableOut (tgt := 178) X.x X.b dX1_takes_4 (by have := (gpl : Int32).toInt; have := zt_ne (n := 0) b1 (by decide); have := zt_ne (n := 1) b3 (by decide); have := zt_ne (n := 2) b8 (by decide); have := zt_ne (n := 3) b10 (by decide); have := zt_ne (n := 4) b13 (by decide); have := zt_ne (n := 5) b16 (by decide); omega) (by decide) ?_
              refine lv_aload_n X.x X.b dX1_takes_178 rfl (lv_at hl 0 rfl) ?_
              refine lv_iload_n X.x X.b dX1_takes_179 rfl (lv_at hl 1 rfl) ?_
              obtain ⟨q12, hq12, hf⟩ := zb_ok hf
              refine z_callV X Z hl (mX1_takesEnd l Δ ad gpl gps gcl gwo x1 hq12) wd_555 wd_557 wd_10 wd_25 wd_558 ok_X1_takesEnd 1 rfl 0 rfl (w' := (wX1 Δ ad q12.2.1 q12.2.2.1 q12.2.2.2.1 q12.2.2.2.2)) su_1 fs_1 pu_1 rfl (rest := []) rfl (Nat.le_of_ble_eq_true rfl) ⟨Nat.le_of_ble_eq_true rfl, Nat.le_of_ble_eq_true rfl⟩ ⟨Nat.zero_le _, Nat.zero_le _⟩ (st1 := [.int q12.1]) rfl dX1_takes_180 (fun H locs Z => ?_)
              obtain ⟨b19, hf⟩ := zg_bo hf
              cases hf
              exact z_zret X Z b19 dX1_takes_183
set_option maxRecDepth 100000 in
set_option maxHeartbeats 4000000 in
theorem mX2_dropLatest (l : Launch) (Δ : zE) (ad : Nat → Nat) (oldest : Int32) (kept : Int32) (rows : Nat → Option Nat)  {res : Int32} (hf : fX2_dropLatest kept = some res) : zMet l Δ yX2_dropLatest cX2_dropLatest 1 none 0 0 [.ref (ad 0)] (wX2 Δ ad oldest kept rows) (wX2 Δ ad oldest res rows) none := by
  refine z_start (by decide +kernel) (Nat.le_of_ble_eq_true rfl) ?_
  intro p e s m args below meth c A ls X Z hl
  have hl : lv_has ls 1 [(0, .ref (ad 0))] := hl
  rw [fX2_dropLatest.eq_1] at hf
  refine lv_aload_n X.x X.b dX2_dropLatest_0 rfl (lv_at hl 0 rfl) ?_
  refine lv_dup X.x X.b dX2_dropLatest_1 rfl ?_
  refine z_gf inG_X2 (ci := 2) rfl 2 (Nat.le_of_ble_eq_true rfl) rfl X Z wd_134 0 rfl (v := .int kept) rfl dX2_dropLatest_2 ?_
  refine lv_iconst (v := 1) X.x X.b dX2_dropLatest_5 ki_1 ?_
  refine lv_isub X.x X.b dX2_dropLatest_6 ?_
  refine z_pf (w' := (wX2 Δ ad oldest (kept - 1) rows)) inG_X2 (ci := 2) rfl tyX2 tyX2_ok nmX2 2 (Nat.le_of_ble_eq_true rfl) rfl rfl X Z wd_134 0 rfl rfl rfl (Nat.le_of_ble_eq_true rfl) rfl dX2_dropLatest_7 (fun H locs Z => ?_)
  cases hf
  exact z_vret X Z dX2_dropLatest_10
set_option maxRecDepth 100000 in
set_option maxHeartbeats 4000000 in
theorem mX4_copyFrom (l : Launch) (Δ : zE) (ad ad2 : Nat → Nat) (size : Int32) (plots : Nat → Int32) (cliffs : Nat → Int32) (words : Nat → Int32) (needs : Nat → Int32) (sizeo : Int32) (plotso : Nat → Int32) (cliffso : Nat → Int32) (wordso : Nat → Int32) (needso : Nat → Int32)  {res : Int32 × (Nat → Int32) × (Nat → Int32) × (Nat → Int32) × (Nat → Int32)} (hf : fX4_copyFrom size plots cliffs words needs sizeo plotso cliffso wordso needso = some res) : zMet l Δ yX4_copyFrom cX4_copyFrom 2 none 1 40 [.ref (ad 0), .ref (ad2 0)] ((wX4 Δ ad size plots cliffs words needs) ++ (wX4 Δ ad2 sizeo plotso cliffso wordso needso)) ((wX4 Δ ad res.1 res.2.1 res.2.2.1 res.2.2.2.1 res.2.2.2.2) ++ (wX4 Δ ad2 sizeo plotso cliffso wordso needso)) none := by
  refine z_start (by decide +kernel) (Nat.le_of_ble_eq_true rfl) ?_
  intro p e s m args below meth c A ls X Z hl
  have hl : lv_has ls 2 [(0, .ref (ad 0)), (1, .ref (ad2 0))] := hl
  rw [fX4_copyFrom.eq_1] at hf
  refine lv_aload_n X.x X.b dX4_copyFrom_0 rfl (lv_at hl 0 rfl) ?_
  refine lv_aload_n X.x X.b dX4_copyFrom_1 rfl (lv_at hl 1 rfl) ?_
  refine z_gf inG_X4 (ci := 4) rfl 0 (Nat.le_of_ble_eq_true rfl) rfl X Z wd_55 5 rfl (v := .int sizeo) rfl dX4_copyFrom_2 ?_
  refine z_pf (w' := ((wX4 Δ ad sizeo plots cliffs words needs) ++ (wX4 Δ ad2 sizeo plotso cliffso wordso needso))) inG_X4 (ci := 4) rfl tyX4 tyX4_ok nmX4 0 (Nat.le_of_ble_eq_true rfl) rfl rfl X Z wd_55 0 rfl rfl rfl (Nat.le_of_ble_eq_true rfl) rfl dX4_copyFrom_5 (fun H locs Z => ?_)
  refine lv_aload_n X.x X.b dX4_copyFrom_8 rfl (lv_at hl 1 rfl) ?_
  refine z_gf inG_X4 (ci := 4) rfl 1 (Nat.le_of_ble_eq_true rfl) rfl X Z wd_58 5 rfl (v := .ref (ad2 1)) rfl dX4_copyFrom_9 ?_
  refine lv_iconst (v := 0) X.x X.b dX4_copyFrom_12 ki_0 ?_
  refine lv_aload_n X.x X.b dX4_copyFrom_13 rfl (lv_at hl 0 rfl) ?_
  refine z_gf inG_X4 (ci := 4) rfl 1 (Nat.le_of_ble_eq_true rfl) rfl X Z wd_58 0 rfl (v := .ref (ad 1)) rfl dX4_copyFrom_14 ?_
  refine lv_iconst (v := 0) X.x X.b dX4_copyFrom_17 ki_0 ?_
  refine lv_bipush (v := 20) X.x X.b dX4_copyFrom_18 kb_20 ?_
  refine z_copyi (w' := ((wX4 Δ ad sizeo (va_cpy plotso plots (0 : Int32).toNatClampNeg (0 : Int32).toNatClampNeg (20 : Int32).toNatClampNeg) cliffs words needs) ++ (wX4 Δ ad2 sizeo plotso cliffso wordso needso))) X Z hl wd_277 wd_279 wd_278 wd_31 6 1 rfl rfl (by decide) (by decide) (by decide) (by decide) (by decide) (Nat.le_of_ble_eq_true rfl) (Nat.le_of_ble_eq_true rfl) rfl dX4_copyFrom_20 (fun H locs Z => ?_)
  refine lv_aload_n X.x X.b dX4_copyFrom_23 rfl (lv_at hl 1 rfl) ?_
  refine z_gf inG_X4 (ci := 4) rfl 2 (Nat.le_of_ble_eq_true rfl) rfl X Z wd_60 5 rfl (v := .ref (ad2 2)) rfl dX4_copyFrom_24 ?_
  refine lv_iconst (v := 0) X.x X.b dX4_copyFrom_27 ki_0 ?_
  refine lv_aload_n X.x X.b dX4_copyFrom_28 rfl (lv_at hl 0 rfl) ?_
  refine z_gf inG_X4 (ci := 4) rfl 2 (Nat.le_of_ble_eq_true rfl) rfl X Z wd_60 0 rfl (v := .ref (ad 2)) rfl dX4_copyFrom_29 ?_
  refine lv_iconst (v := 0) X.x X.b dX4_copyFrom_32 ki_0 ?_
  refine lv_bipush (v := 20) X.x X.b dX4_copyFrom_33 kb_20 ?_
  refine z_copyi (w' := ((wX4 Δ ad sizeo (va_cpy plotso plots (0 : Int32).toNatClampNeg (0 : Int32).toNatClampNeg (20 : Int32).toNatClampNeg) (va_cpy cliffso cliffs (0 : Int32).toNatClampNeg (0 : Int32).toNatClampNeg (20 : Int32).toNatClampNeg) words needs) ++ (wX4 Δ ad2 sizeo plotso cliffso wordso needso))) X Z hl wd_277 wd_279 wd_278 wd_31 7 2 rfl rfl (by decide) (by decide) (by decide) (by decide) (by decide) (Nat.le_of_ble_eq_true rfl) (Nat.le_of_ble_eq_true rfl) rfl dX4_copyFrom_35 (fun H locs Z => ?_)
  refine lv_aload_n X.x X.b dX4_copyFrom_38 rfl (lv_at hl 1 rfl) ?_
  refine z_gf inG_X4 (ci := 4) rfl 3 (Nat.le_of_ble_eq_true rfl) rfl X Z wd_62 5 rfl (v := .ref (ad2 3)) rfl dX4_copyFrom_39 ?_
  refine lv_iconst (v := 0) X.x X.b dX4_copyFrom_42 ki_0 ?_
  refine lv_aload_n X.x X.b dX4_copyFrom_43 rfl (lv_at hl 0 rfl) ?_
  refine z_gf inG_X4 (ci := 4) rfl 3 (Nat.le_of_ble_eq_true rfl) rfl X Z wd_62 0 rfl (v := .ref (ad 3)) rfl dX4_copyFrom_44 ?_
  refine lv_iconst (v := 0) X.x X.b dX4_copyFrom_47 ki_0 ?_
  refine lv_bipush (v := 20) X.x X.b dX4_copyFrom_48 kb_20 ?_
  refine z_copyi (w' := ((wX4 Δ ad sizeo (va_cpy plotso plots (0 : Int32).toNatClampNeg (0 : Int32).toNatClampNeg (20 : Int32).toNatClampNeg) (va_cpy cliffso cliffs (0 : Int32).toNatClampNeg (0 : Int32).toNatClampNeg (20 : Int32).toNatClampNeg) (va_cpy wordso words (0 : Int32).toNatClampNeg (0 : Int32).toNatClampNeg (20 : Int32).toNatClampNeg) needs) ++ (wX4 Δ ad2 sizeo plotso cliffso wordso needso))) X Z hl wd_277 wd_279 wd_278 wd_31 8 3 rfl rfl (by decide) (by decide) (by decide) (by decide) (by decide) (Nat.le_of_ble_eq_true rfl) (Nat.le_of_ble_eq_true rfl) rfl dX4_copyFrom_50 (fun H locs Z => ?_)
  refine lv_aload_n X.x X.b dX4_copyFrom_53 rfl (lv_at hl 1 rfl) ?_
  refine z_gf inG_X4 (ci := 4) rfl 4 (Nat.le_of_ble_eq_true rfl) rfl X Z wd_64 5 rfl (v := .ref (ad2 4)) rfl dX4_copyFrom_54 ?_
  refine lv_iconst (v := 0) X.x X.b dX4_copyFrom_57 ki_0 ?_
  refine lv_aload_n X.x X.b dX4_copyFrom_58 rfl (lv_at hl 0 rfl) ?_
  refine z_gf inG_X4 (ci := 4) rfl 4 (Nat.le_of_ble_eq_true rfl) rfl X Z wd_64 0 rfl (v := .ref (ad 4)) rfl dX4_copyFrom_59 ?_
  refine lv_iconst (v := 0) X.x X.b dX4_copyFrom_62 ki_0 ?_
  refine lv_bipush (v := 20) X.x X.b dX4_copyFrom_63 kb_20 ?_
  refine z_copyi (w' := ((wX4 Δ ad sizeo (va_cpy plotso plots (0 : Int32).toNatClampNeg (0 : Int32).toNatClampNeg (20 : Int32).toNatClampNeg) (va_cpy cliffso cliffs (0 : Int32).toNatClampNeg (0 : Int32).toNatClampNeg (20 : Int32).toNatClampNeg) (va_cpy wordso words (0 : Int32).toNatClampNeg (0 : Int32).toNatClampNeg (20 : Int32).toNatClampNeg) (va_cpy needso needs (0 : Int32).toNatClampNeg (0 : Int32).toNatClampNeg (20 : Int32).toNatClampNeg)) ++ (wX4 Δ ad2 sizeo plotso cliffso wordso needso))) X Z hl wd_277 wd_279 wd_278 wd_31 9 4 rfl rfl (by decide) (by decide) (by decide) (by decide) (by decide) (Nat.le_of_ble_eq_true rfl) (Nat.le_of_ble_eq_true rfl) rfl dX4_copyFrom_65 (fun H locs Z => ?_)
  cases hf
  exact z_vret X Z dX4_copyFrom_68
set_option maxRecDepth 100000 in
set_option maxHeartbeats 4000000 in
theorem mX3_copyFrom (l : Launch) (Δ : zE) (ad ad2 : Nat → Nat) (reached : Int32) (lost : Int32) (size : Int32) (plots : Nat → Int32) (cliffs : Nat → Int32) (words : Nat → Int32) (needs : Nat → Int32) (told : Nat → Int32) (rea : Nat → Int32) (wread : Nat → Int32) (ltold : Nat → Int32) (lout : Nat → Int32) (sets : Nat → Int32) (reachedo : Int32) (losto : Int32) (sizeo : Int32) (plotso : Nat → Int32) (cliffso : Nat → Int32) (wordso : Nat → Int32) (needso : Nat → Int32) (toldo : Nat → Int32) (reao : Nat → Int32) (wreado : Nat → Int32) (ltoldo : Nat → Int32) (louto : Nat → Int32) (setso : Nat → Int32)  {res : Int32 × Int32 × Int32 × (Nat → Int32) × (Nat → Int32) × (Nat → Int32) × (Nat → Int32) × (Nat → Int32) × (Nat → Int32) × (Nat → Int32) × (Nat → Int32) × (Nat → Int32) × (Nat → Int32)} (hf : fX3_copyFrom reached lost size plots cliffs words needs told rea wread ltold lout sets reachedo losto sizeo plotso cliffso wordso needso toldo reao wreado ltoldo louto setso = some res) : zMet l Δ yX3_copyFrom cX3_copyFrom 2 none 2 61 [.ref (ad 0), .ref (ad2 0)] ((wX3 Δ ad reached lost size plots cliffs words needs told rea wread ltold lout sets) ++ (wX3 Δ ad2 reachedo losto sizeo plotso cliffso wordso needso toldo reao wreado ltoldo louto setso)) ((wX3 Δ ad res.1 res.2.1 res.2.2.1 res.2.2.2.1 res.2.2.2.2.1 res.2.2.2.2.2.1 res.2.2.2.2.2.2.1 res.2.2.2.2.2.2.2.1 res.2.2.2.2.2.2.2.2.1 res.2.2.2.2.2.2.2.2.2.1 res.2.2.2.2.2.2.2.2.2.2.1 res.2.2.2.2.2.2.2.2.2.2.2.1 res.2.2.2.2.2.2.2.2.2.2.2.2) ++ (wX3 Δ ad2 reachedo losto sizeo plotso cliffso wordso needso toldo reao wreado ltoldo louto setso)) none := by
  refine z_start (by decide +kernel) (Nat.le_of_ble_eq_true rfl) ?_
  intro p e s m args below meth c A ls X Z hl
  have hl : lv_has ls 2 [(0, .ref (ad 0)), (1, .ref (ad2 0))] := hl
  rw [fX3_copyFrom.eq_1] at hf
  refine lv_aload_n X.x X.b dX3_copyFrom_0 rfl (lv_at hl 0 rfl) ?_
  refine z_gf inG_X3 (ci := 3) rfl 0 (Nat.le_of_ble_eq_true rfl) rfl X Z wd_105 0 rfl (v := .ref (ad 1)) rfl dX3_copyFrom_1 ?_
  refine lv_aload_n X.x X.b dX3_copyFrom_4 rfl (lv_at hl 1 rfl) ?_
  refine z_gf inG_X3 (ci := 3) rfl 0 (Nat.le_of_ble_eq_true rfl) rfl X Z wd_105 13 rfl (v := .ref (ad2 1)) rfl dX3_copyFrom_5 ?_
  obtain ⟨q1, hq1, hf⟩ := zb_ok hf
  refine z_callV X Z hl (mX4_copyFrom l Δ (fun j => ad (j + 1)) (fun j => ad2 (j + 1)) size plots cliffs words needs sizeo plotso cliffso wordso needso hq1) wd_273 wd_274 wd_275 wd_21 wd_276 ok_X4_copyFrom 4 rfl 1 rfl (w' := ((wX3 Δ ad reached lost q1.1 q1.2.1 q1.2.2.1 q1.2.2.2.1 q1.2.2.2.2 told rea wread ltold lout sets) ++ (wX3 Δ ad2 reachedo losto sizeo plotso cliffso wordso needso toldo reao wreado ltoldo louto setso))) su_2 fs_2 pu_2 rfl (rest := []) rfl (Nat.le_of_ble_eq_true rfl) ⟨Nat.le_of_ble_eq_true rfl, Nat.le_of_ble_eq_true rfl⟩ ⟨Nat.zero_le _, Nat.zero_le _⟩ (st1 := []) rfl dX3_copyFrom_8 (fun H locs Z => ?_)
  refine lv_aload_n X.x X.b dX3_copyFrom_11 rfl (lv_at hl 0 rfl) ?_
  refine z_gf inG_X3 (ci := 3) rfl 1 (Nat.le_of_ble_eq_true rfl) rfl X Z wd_107 0 rfl (v := .ref (ad 6)) rfl dX3_copyFrom_12 ?_
  refine lv_aload_n X.x X.b dX3_copyFrom_15 rfl (lv_at hl 1 rfl) ?_
  refine z_gf inG_X3 (ci := 3) rfl 1 (Nat.le_of_ble_eq_true rfl) rfl X Z wd_107 13 rfl (v := .ref (ad2 6)) rfl dX3_copyFrom_16 ?_
  obtain ⟨q2, hq2, hf⟩ := zb_ok hf
  refine z_callV X Z hl (mX0_copyFrom l Δ (fun j => ad (j + 6)) (fun j => ad2 (j + 6)) told rea wread ltold lout toldo reao wreado ltoldo louto hq2) wd_280 wd_281 wd_282 wd_22 wd_283 ok_X0_copyFrom 0 rfl 6 rfl (w' := ((wX3 Δ ad reached lost q1.1 q1.2.1 q1.2.2.1 q1.2.2.2.1 q1.2.2.2.2 q2.1 q2.2.1 q2.2.2.1 q2.2.2.2.1 q2.2.2.2.2 sets) ++ (wX3 Δ ad2 reachedo losto sizeo plotso cliffso wordso needso toldo reao wreado ltoldo louto setso))) su_3 fs_3 pu_3 rfl (rest := []) rfl (Nat.le_of_ble_eq_true rfl) ⟨Nat.le_of_ble_eq_true rfl, Nat.le_of_ble_eq_true rfl⟩ ⟨Nat.zero_le _, Nat.zero_le _⟩ (st1 := []) rfl dX3_copyFrom_19 (fun H locs Z => ?_)
  refine lv_aload_n X.x X.b dX3_copyFrom_22 rfl (lv_at hl 1 rfl) ?_
  refine z_gf inG_X3 (ci := 3) rfl 2 (Nat.le_of_ble_eq_true rfl) rfl X Z wd_109 13 rfl (v := .ref (ad2 12)) rfl dX3_copyFrom_23 ?_
  refine lv_iconst (v := 0) X.x X.b dX3_copyFrom_26 ki_0 ?_
  refine lv_aload_n X.x X.b dX3_copyFrom_27 rfl (lv_at hl 0 rfl) ?_
  refine z_gf inG_X3 (ci := 3) rfl 2 (Nat.le_of_ble_eq_true rfl) rfl X Z wd_109 0 rfl (v := .ref (ad 12)) rfl dX3_copyFrom_28 ?_
  refine lv_iconst (v := 0) X.x X.b dX3_copyFrom_31 ki_0 ?_
  refine lv_iconst (v := 2) X.x X.b dX3_copyFrom_32 ki_2 ?_
  refine z_copyi (w' := ((wX3 Δ ad reached lost q1.1 q1.2.1 q1.2.2.1 q1.2.2.2.1 q1.2.2.2.2 q2.1 q2.2.1 q2.2.2.1 q2.2.2.2.1 q2.2.2.2.2 (va_cpy setso sets (0 : Int32).toNatClampNeg (0 : Int32).toNatClampNeg (2 : Int32).toNatClampNeg)) ++ (wX3 Δ ad2 reachedo losto sizeo plotso cliffso wordso needso toldo reao wreado ltoldo louto setso))) X Z hl wd_285 wd_279 wd_278 wd_31 25 12 rfl rfl (by decide) (by decide) (by decide) (by decide) (by decide) (Nat.le_of_ble_eq_true rfl) (Nat.le_of_ble_eq_true rfl) rfl dX3_copyFrom_33 (fun H locs Z => ?_)
  refine lv_aload_n X.x X.b dX3_copyFrom_36 rfl (lv_at hl 0 rfl) ?_
  refine lv_aload_n X.x X.b dX3_copyFrom_37 rfl (lv_at hl 1 rfl) ?_
  refine z_gf inG_X3 (ci := 3) rfl 3 (Nat.le_of_ble_eq_true rfl) rfl X Z wd_111 13 rfl (v := .int reachedo) rfl dX3_copyFrom_38 ?_
  refine z_pf (w' := ((wX3 Δ ad reachedo lost q1.1 q1.2.1 q1.2.2.1 q1.2.2.2.1 q1.2.2.2.2 q2.1 q2.2.1 q2.2.2.1 q2.2.2.2.1 q2.2.2.2.2 (va_cpy setso sets (0 : Int32).toNatClampNeg (0 : Int32).toNatClampNeg (2 : Int32).toNatClampNeg)) ++ (wX3 Δ ad2 reachedo losto sizeo plotso cliffso wordso needso toldo reao wreado ltoldo louto setso))) inG_X3 (ci := 3) rfl tyX3 tyX3_ok nmX3 3 (Nat.le_of_ble_eq_true rfl) rfl rfl X Z wd_111 0 rfl rfl rfl (Nat.le_of_ble_eq_true rfl) rfl dX3_copyFrom_41 (fun H locs Z => ?_)
  refine lv_aload_n X.x X.b dX3_copyFrom_44 rfl (lv_at hl 0 rfl) ?_
  refine lv_aload_n X.x X.b dX3_copyFrom_45 rfl (lv_at hl 1 rfl) ?_
  refine z_gf inG_X3 (ci := 3) rfl 4 (Nat.le_of_ble_eq_true rfl) rfl X Z wd_112 13 rfl (v := .int losto) rfl dX3_copyFrom_46 ?_
  refine z_pf (w' := ((wX3 Δ ad reachedo losto q1.1 q1.2.1 q1.2.2.1 q1.2.2.2.1 q1.2.2.2.2 q2.1 q2.2.1 q2.2.2.1 q2.2.2.2.1 q2.2.2.2.2 (va_cpy setso sets (0 : Int32).toNatClampNeg (0 : Int32).toNatClampNeg (2 : Int32).toNatClampNeg)) ++ (wX3 Δ ad2 reachedo losto sizeo plotso cliffso wordso needso toldo reao wreado ltoldo louto setso))) inG_X3 (ci := 3) rfl tyX3 tyX3_ok nmX3 4 (Nat.le_of_ble_eq_true rfl) rfl rfl X Z wd_112 0 rfl rfl rfl (Nat.le_of_ble_eq_true rfl) rfl dX3_copyFrom_49 (fun H locs Z => ?_)
  cases hf
  exact z_vret X Z dX3_copyFrom_52
