set_option maxRecDepth 100000 in
set_option maxHeartbeats 4000000 in
theorem mL_add (l : Launch) (hT : l.stackTraces = false) (Δ : zE) (ad : Nat → Nat) (ao : Nat) (out : Nat → Int64) (reached : Int32) (lost : Int32) (size : Int32) (plots : Nat → Int32) (cliffs : Nat → Int32) (words : Nat → Int32) (needs : Nat → Int32) (told : Nat → Int32) (rea : Nat → Int32) (wread : Nat → Int32) (ltold : Nat → Int32) (lout : Nat → Int32) (sets : Nat → Int32) (len : Int32) (codes : Nat → Int32) (gpl : Int32) (gps : Int32) (gcl : Int32) (gwo : Int32) (o k n : Nat) (α : Nat → Nat → Nat) (σ : Nat → zSC) (hH : zH o k n) (x1 : Int32) (x2 : Int32) (x3 : Int32) {res : String ⊕ (Int32 × Int32 × (Nat → Int32) × (Nat → Int32) × (Nat → Int32) × (Nat → Int32))} (hf : fX6_add size plots cliffs words needs x1 x2 x3 = some res) (hE : ∀ E, res = .inl E → E = "java/lang/IllegalArgumentException" ∨ E = "java/lang/IllegalStateException") : zMX l Δ yL_add (.codeWith yL_add cL_add 6 (some .int) [(0, 12, 15, 13), (0, 12, 19, 15)]) 8 134 14 133 [.ref (ad 0), .int x1, .int x2, .int x3, .ref ao] ([(ao, .inl (Δ.2.2.2.1, 1, .inr (.inl out)))] ++ (wX6 Δ ad reached lost size plots cliffs words needs told rea wread ltold lout sets (nI o) (nI k) (zRows n α) len codes gpl gps gcl gwo ++ zPool Δ n α σ)) (fun rv w1 => (∃ r : Int32 × Int32 × (Nat → Int32) × (Nat → Int32) × (Nat → Int32) × (Nat → Int32), res = .inr r ∧ rv = some (.int 0) ∧ ∃ α1 : Nat → Nat → Nat, w1 = [(ao, .inl (Δ.2.2.2.1, 1, .inr (.inl (vp_updL out (0 : Int32).toNatClampNeg (r.1 : Int32).toInt64))))] ++ (wX6 Δ ad reached lost r.2.1 r.2.2.1 r.2.2.2.1 r.2.2.2.2.1 r.2.2.2.2.2 told rea wread ltold lout sets (nI (zo o k)) (nI (zk k + 1)) (zRows (zn n (zp o k)) α1) len codes gpl gps gcl gwo ++ zPool Δ (zn n (zp o k)) α1 (zkeep o k n σ (reached, lost, size, plots, cliffs, words, needs, told, rea, wread, ltold, lout, sets)))) ∨ (∃ E, res = .inl E ∧ rv = some (.int (if E = "java/lang/IllegalArgumentException" then 1 else 2)) ∧ w1 = [(ao, .inl (Δ.2.2.2.1, 1, .inr (.inl out)))] ++ (wX6 Δ ad reached lost size plots cliffs words needs told rea wread ltold lout sets (nI o) (nI k) (zRows n α) len codes gpl gps gcl gwo ++ zPool Δ n α σ))) (fun _ _ => False) := by
  refine x_startH hT (by decide +kernel) (Nat.le_of_ble_eq_true rfl) ?_
  intro p e s m args below meth c A ls Y htab Z hl
  have X := Y.1
  have hl : lv_has ls 6 [(0, .ref (ad 0)), (1, .int x1), (2, .int x2), (3, .int x3), (4, .ref ao)] := hl
  refine lv_aload X.x X.b dL_add_0 (lv_at hl 4 rfl) ?_
  refine lv_iconst (v := 0) X.x X.b dL_add_2 ki_0 ?_
  refine lv_aload_n X.x X.b dL_add_3 rfl (lv_at hl 0 rfl) ?_
  refine lv_iload_n X.x X.b dL_add_4 rfl (lv_at hl 1 rfl) ?_
  refine lv_iload_n X.x X.b dL_add_5 rfl (lv_at hl 2 rfl) ?_
  refine lv_iload_n X.x X.b dL_add_6 rfl (lv_at hl 3 rfl) ?_
  refine x_callV_G Y Z hl (mX6_add l hT Δ ad reached lost size plots cliffs words needs told rea wread ltold lout sets len codes gpl gps gcl gwo o k n α σ hH x1 x2 x3 hf) wd_453 wd_454 wd_455 wd_61 wd_456 ok_X6_add 6 rfl 1 rfl List.perm_append_comm rfl (rest := [.int 0, .ref ao]) rfl (Nat.le_of_ble_eq_true rfl) ⟨Nat.le_of_ble_eq_true rfl, Nat.le_of_ble_eq_true rfl⟩ ⟨Nat.le_of_ble_eq_true rfl, Nat.le_of_ble_eq_true rfl⟩ dL_add_7 (fun E ce q w9 H locs hPX Z9 g1 g2 g3 => ?_) (fun rv w1 H locs hP Z9 => ?_)
  · obtain ⟨hr, rfl⟩ := hPX
    have Z := Z9.perm List.perm_append_comm
    rcases hE E hr with rfl | rfl
    · refine vx_catch X.own [] ⟨0, 12, 15, 13⟩ [⟨0, 12, 19, 15⟩] (htab.trans rfl) (fun z hz => absurd hz List.not_mem_nil) rfl (by decide) (X.ts _ wd_451) (va_Nw.use rfl (X.K.2.1 _ (zNw_of 462 (by decide +kernel) (by decide +kernel)))) g1 g2 g3 ?_
      refine lv_astore (lv' := [(5, .ref q), (0, .ref (ad 0)), (1, .int x1), (2, .int x2), (3, .int x3), (4, .ref ao)]) X.x X.b dL_add_15 hl (Nat.le_of_ble_eq_true rfl) rfl (fun ls hl => ?_)
      refine lv_iconst (v := 1) X.x X.b dL_add_17 ki_1 ?_
      exact x_iret X Z (Or.inr ⟨_, hr, by decide, rfl⟩) (Nat.le_of_ble_eq_true rfl) (Nat.le_of_ble_eq_true rfl) dL_add_18
    · refine vx_catch X.own [⟨0, 12, 15, 13⟩] ⟨0, 12, 19, 15⟩ [] (htab.trans rfl) (fun z hz => by obtain rfl := List.mem_singleton.mp hz; exact Or.inr ⟨by decide, "java/lang/IllegalArgumentException", X.ts _ wd_451, X.K.2.2.2.2 ("java/lang/IllegalStateException", "java/lang/IllegalArgumentException") (by decide +kernel)⟩) rfl (by decide) (X.ts _ wd_452) (va_Nw.use rfl (X.K.2.1 _ (zNw_of 533 (by decide +kernel) (by decide +kernel)))) g1 g2 g3 ?_
      refine lv_astore (lv' := [(5, .ref q), (0, .ref (ad 0)), (1, .int x1), (2, .int x2), (3, .int x3), (4, .ref ao)]) X.x X.b dL_add_19 hl (Nat.le_of_ble_eq_true rfl) rfl (fun ls hl => ?_)
      refine lv_iconst (v := 2) X.x X.b dL_add_21 ki_2 ?_
      exact x_iret X Z (Or.inr ⟨_, hr, by decide, rfl⟩) (Nat.le_of_ble_eq_true rfl) (Nat.le_of_ble_eq_true rfl) dL_add_22
  · obtain ⟨r, hr, rfl, α1, rfl⟩ := hP
    have Z := Z9.perm List.perm_append_comm
    refine W.eq (g2 := F0 m 10 ls [.int r.1, .int 0, .ref ao]) rfl ?_
    refine lv_i2l (v := (r.1 : Int32).toInt64) X.x X.b dL_add_10 rfl ?_
    refine z_last (w' := [(ao, .inl (Δ.2.2.2.1, 1, .inr (.inl (vp_updL out (0 : Int32).toNatClampNeg (r.1 : Int32).toInt64))))] ++ (wX6 Δ ad reached lost r.2.1 r.2.2.1 r.2.2.2.1 r.2.2.2.2.1 r.2.2.2.2.2 told rea wread ltold lout sets (nI (zo o k)) (nI (zk k + 1)) (zRows (zn n (zp o k)) α1) len codes gpl gps gcl gwo ++ zPool Δ (zn n (zp o k)) α1 (zkeep o k n σ (reached, lost, size, plots, cliffs, words, needs, told, rea, wread, ltold, lout, sets)))) X Z 0 rfl (zvin (by decide)) rfl dL_add_11 (fun H locs Z => ?_)
    refine lv_goto (tgt := 23) X.x X.b dL_add_12 (by decide) ?_
    refine lv_iconst (v := 0) X.x X.b dL_add_23 ki_0 ?_
    exact x_iret X Z (Or.inl ⟨r, hr, rfl, _, rfl⟩) (Nat.le_of_ble_eq_true rfl) (Nat.le_of_ble_eq_true rfl) dL_add_24
set_option maxRecDepth 100000 in
set_option maxHeartbeats 4000000 in
theorem mL_change (l : Launch) (hT : l.stackTraces = false) (Δ : zE) (ad : Nat → Nat) (ao : Nat) (out : Nat → Int64) (reached : Int32) (lost : Int32) (size : Int32) (plots : Nat → Int32) (cliffs : Nat → Int32) (words : Nat → Int32) (needs : Nat → Int32) (told : Nat → Int32) (rea : Nat → Int32) (wread : Nat → Int32) (ltold : Nat → Int32) (lout : Nat → Int32) (sets : Nat → Int32) (len : Int32) (codes : Nat → Int32) (gpl : Int32) (gps : Int32) (gcl : Int32) (gwo : Int32) (o k n : Nat) (α : Nat → Nat → Nat) (σ : Nat → zSC) (hH : zH o k n) (x1 : Int32) (x2 : Int32) (x3 : Int32) {res : String ⊕ (Int32 × (Nat → Int32) × (Nat → Int32) × (Nat → Int32))} (hf : fX6_change size plots cliffs needs x1 x2 x3 = some res) (hE : ∀ E, res = .inl E → E = "java/lang/IndexOutOfBoundsException" ∨ E = "java/lang/IllegalArgumentException") : zMX l Δ yL_change (.codeWith yL_change cL_change 6 (some .int) [(0, 12, 15, 20), (0, 12, 19, 13)]) 8 134 15 139 [.ref (ad 0), .int x1, .int x2, .int x3, .ref ao] ([(ao, .inl (Δ.2.2.2.1, 1, .inr (.inl out)))] ++ (wX6 Δ ad reached lost size plots cliffs words needs told rea wread ltold lout sets (nI o) (nI k) (zRows n α) len codes gpl gps gcl gwo ++ zPool Δ n α σ)) (fun rv w1 => (∃ r : Int32 × (Nat → Int32) × (Nat → Int32) × (Nat → Int32), res = .inr r ∧ rv = some (.int 0) ∧ ∃ α1 : Nat → Nat → Nat, w1 = [(ao, .inl (Δ.2.2.2.1, 1, .inr (.inl (vp_updL out (0 : Int32).toNatClampNeg (r.1 : Int32).toInt64))))] ++ (wX6 Δ ad reached lost size r.2.1 r.2.2.1 words r.2.2.2 told rea wread ltold lout sets (nI (zo o k)) (nI (zk k + 1)) (zRows (zn n (zp o k)) α1) len codes gpl gps gcl gwo ++ zPool Δ (zn n (zp o k)) α1 (zkeep o k n σ (reached, lost, size, plots, cliffs, words, needs, told, rea, wread, ltold, lout, sets)))) ∨ (∃ E, res = .inl E ∧ rv = some (.int (if E = "java/lang/IndexOutOfBoundsException" then 1 else 2)) ∧ w1 = [(ao, .inl (Δ.2.2.2.1, 1, .inr (.inl out)))] ++ (wX6 Δ ad reached lost size plots cliffs words needs told rea wread ltold lout sets (nI o) (nI k) (zRows n α) len codes gpl gps gcl gwo ++ zPool Δ n α σ))) (fun _ _ => False) := by
  refine x_startH hT (by decide +kernel) (Nat.le_of_ble_eq_true rfl) ?_
  intro p e s m args below meth c A ls Y htab Z hl
  have X := Y.1
  have hl : lv_has ls 6 [(0, .ref (ad 0)), (1, .int x1), (2, .int x2), (3, .int x3), (4, .ref ao)] := hl
  refine lv_aload X.x X.b dL_change_0 (lv_at hl 4 rfl) ?_
  refine lv_iconst (v := 0) X.x X.b dL_change_2 ki_0 ?_
  refine lv_aload_n X.x X.b dL_change_3 rfl (lv_at hl 0 rfl) ?_
  refine lv_iload_n X.x X.b dL_change_4 rfl (lv_at hl 1 rfl) ?_
  refine lv_iload_n X.x X.b dL_change_5 rfl (lv_at hl 2 rfl) ?_
  refine lv_iload_n X.x X.b dL_change_6 rfl (lv_at hl 3 rfl) ?_
  refine x_callV_G Y Z hl (mX6_change l hT Δ ad reached lost size plots cliffs words needs told rea wread ltold lout sets len codes gpl gps gcl gwo o k n α σ hH x1 x2 x3 hf) wd_581 wd_582 wd_583 wd_61 wd_584 ok_X6_change 6 rfl 1 rfl List.perm_append_comm rfl (rest := [.int 0, .ref ao]) rfl (Nat.le_of_ble_eq_true rfl) ⟨Nat.le_of_ble_eq_true rfl, Nat.le_of_ble_eq_true rfl⟩ ⟨Nat.le_of_ble_eq_true rfl, Nat.le_of_ble_eq_true rfl⟩ dL_change_7 (fun E ce q w9 H locs hPX Z9 g1 g2 g3 => ?_) (fun rv w1 H locs hP Z9 => ?_)
  · obtain ⟨hr, rfl⟩ := hPX
    have Z := Z9.perm List.perm_append_comm
    rcases hE E hr with rfl | rfl
    · refine vx_catch X.own [] ⟨0, 12, 15, 20⟩ [⟨0, 12, 19, 13⟩] (htab.trans rfl) (fun z hz => absurd hz List.not_mem_nil) rfl (by decide) (X.ts _ wd_580) (va_Nw.use rfl (X.K.2.1 _ (zNw_of 591 (by decide +kernel) (by decide +kernel)))) g1 g2 g3 ?_
      refine lv_astore (lv' := [(5, .ref q), (0, .ref (ad 0)), (1, .int x1), (2, .int x2), (3, .int x3), (4, .ref ao)]) X.x X.b dL_change_15 hl (Nat.le_of_ble_eq_true rfl) rfl (fun ls hl => ?_)
      refine lv_iconst (v := 1) X.x X.b dL_change_17 ki_1 ?_
      exact x_iret X Z (Or.inr ⟨_, hr, by decide, rfl⟩) (Nat.le_of_ble_eq_true rfl) (Nat.le_of_ble_eq_true rfl) dL_change_18
    · refine vx_catch X.own [⟨0, 12, 15, 20⟩] ⟨0, 12, 19, 13⟩ [] (htab.trans rfl) (fun z hz => by obtain rfl := List.mem_singleton.mp hz; exact Or.inr ⟨by decide, "java/lang/IndexOutOfBoundsException", X.ts _ wd_580, X.K.2.2.2.2 ("java/lang/IllegalArgumentException", "java/lang/IndexOutOfBoundsException") (by decide +kernel)⟩) rfl (by decide) (X.ts _ wd_451) (va_Nw.use rfl (X.K.2.1 _ (zNw_of 462 (by decide +kernel) (by decide +kernel)))) g1 g2 g3 ?_
      refine lv_astore (lv' := [(5, .ref q), (0, .ref (ad 0)), (1, .int x1), (2, .int x2), (3, .int x3), (4, .ref ao)]) X.x X.b dL_change_19 hl (Nat.le_of_ble_eq_true rfl) rfl (fun ls hl => ?_)
      refine lv_iconst (v := 2) X.x X.b dL_change_21 ki_2 ?_
      exact x_iret X Z (Or.inr ⟨_, hr, by decide, rfl⟩) (Nat.le_of_ble_eq_true rfl) (Nat.le_of_ble_eq_true rfl) dL_change_22
  · obtain ⟨r, hr, rfl, α1, rfl⟩ := hP
    have Z := Z9.perm List.perm_append_comm
    refine W.eq (g2 := F0 m 10 ls [.int r.1, .int 0, .ref ao]) rfl ?_
    refine lv_i2l (v := (r.1 : Int32).toInt64) X.x X.b dL_change_10 rfl ?_
    refine z_last (w' := [(ao, .inl (Δ.2.2.2.1, 1, .inr (.inl (vp_updL out (0 : Int32).toNatClampNeg (r.1 : Int32).toInt64))))] ++ (wX6 Δ ad reached lost size r.2.1 r.2.2.1 words r.2.2.2 told rea wread ltold lout sets (nI (zo o k)) (nI (zk k + 1)) (zRows (zn n (zp o k)) α1) len codes gpl gps gcl gwo ++ zPool Δ (zn n (zp o k)) α1 (zkeep o k n σ (reached, lost, size, plots, cliffs, words, needs, told, rea, wread, ltold, lout, sets)))) X Z 0 rfl (zvin (by decide)) rfl dL_change_11 (fun H locs Z => ?_)
    refine lv_goto (tgt := 23) X.x X.b dL_change_12 (by decide) ?_
    refine lv_iconst (v := 0) X.x X.b dL_change_23 ki_0 ?_
    exact x_iret X Z (Or.inl ⟨r, hr, rfl, _, rfl⟩) (Nat.le_of_ble_eq_true rfl) (Nat.le_of_ble_eq_true rfl) dL_change_24
set_option maxRecDepth 100000 in
set_option maxHeartbeats 4000000 in
theorem mL_removeLast (l : Launch) (hT : l.stackTraces = false) (Δ : zE) (ad : Nat → Nat) (ao : Nat) (out : Nat → Int64) (reached : Int32) (lost : Int32) (size : Int32) (plots : Nat → Int32) (cliffs : Nat → Int32) (words : Nat → Int32) (needs : Nat → Int32) (told : Nat → Int32) (rea : Nat → Int32) (wread : Nat → Int32) (ltold : Nat → Int32) (lout : Nat → Int32) (sets : Nat → Int32) (len : Int32) (codes : Nat → Int32) (gpl : Int32) (gps : Int32) (gcl : Int32) (gwo : Int32) (o k n : Nat) (α : Nat → Nat → Nat) (σ : Nat → zSC) (hH : zH o k n)  {res : String ⊕ (Int32 × Int32 × (Nat → Int32) × (Nat → Int32))} (hf : fX6_removeLast size told rea = some res) (hE : ∀ E, res = .inl E → E = "java/lang/IllegalStateException") : zMX l Δ yL_removeLast (.codeWith yL_removeLast cL_removeLast 3 (some .int) [(0, 8, 11, 15)]) 7 127 13 127 [.ref (ad 0), .ref ao] ([(ao, .inl (Δ.2.2.2.1, 1, .inr (.inl out)))] ++ (wX6 Δ ad reached lost size plots cliffs words needs told rea wread ltold lout sets (nI o) (nI k) (zRows n α) len codes gpl gps gcl gwo ++ zPool Δ n α σ)) (fun rv w1 => (∃ r : Int32 × Int32 × (Nat → Int32) × (Nat → Int32), res = .inr r ∧ rv = some (.int 0) ∧ ∃ α1 : Nat → Nat → Nat, w1 = [(ao, .inl (Δ.2.2.2.1, 1, .inr (.inl (vp_updL out (0 : Int32).toNatClampNeg (r.1 : Int32).toInt64))))] ++ (wX6 Δ ad reached lost r.2.1 plots cliffs words needs r.2.2.1 r.2.2.2 wread ltold lout sets (nI (zo o k)) (nI (zk k + 1)) (zRows (zn n (zp o k)) α1) len codes gpl gps gcl gwo ++ zPool Δ (zn n (zp o k)) α1 (zkeep o k n σ (reached, lost, size, plots, cliffs, words, needs, told, rea, wread, ltold, lout, sets)))) ∨ (∃ E, res = .inl E ∧ rv = some (.int 1) ∧ w1 = [(ao, .inl (Δ.2.2.2.1, 1, .inr (.inl out)))] ++ (wX6 Δ ad reached lost size plots cliffs words needs told rea wread ltold lout sets (nI o) (nI k) (zRows n α) len codes gpl gps gcl gwo ++ zPool Δ n α σ))) (fun _ _ => False) := by
  refine x_startH hT (by decide +kernel) (Nat.le_of_ble_eq_true rfl) ?_
  intro p e s m args below meth c A ls Y htab Z hl
  have X := Y.1
  have hl : lv_has ls 3 [(0, .ref (ad 0)), (1, .ref ao)] := hl
  refine lv_aload_n X.x X.b dL_removeLast_0 rfl (lv_at hl 1 rfl) ?_
  refine lv_iconst (v := 0) X.x X.b dL_removeLast_1 ki_0 ?_
  refine lv_aload_n X.x X.b dL_removeLast_2 rfl (lv_at hl 0 rfl) ?_
  refine x_callV_G Y Z hl (mX6_removeLast l hT Δ ad reached lost size plots cliffs words needs told rea wread ltold lout sets len codes gpl gps gcl gwo o k n α σ hH  hf) wd_612 wd_613 wd_614 wd_61 wd_615 ok_X6_removeLast 6 rfl 1 rfl List.perm_append_comm rfl (rest := [.int 0, .ref ao]) rfl (Nat.le_of_ble_eq_true rfl) ⟨Nat.le_of_ble_eq_true rfl, Nat.le_of_ble_eq_true rfl⟩ ⟨Nat.le_of_ble_eq_true rfl, Nat.le_of_ble_eq_true rfl⟩ dL_removeLast_3 (fun E ce q w9 H locs hPX Z9 g1 g2 g3 => ?_) (fun rv w1 H locs hP Z9 => ?_)
  · obtain ⟨hr, rfl⟩ := hPX
    have Z := Z9.perm List.perm_append_comm
    obtain rfl := hE E hr
    refine vx_catch X.own [] ⟨0, 8, 11, 15⟩ [] (htab.trans rfl) (fun z hz => absurd hz List.not_mem_nil) rfl (by decide) (X.ts _ wd_452) (va_Nw.use rfl (X.K.2.1 _ (zNw_of 533 (by decide +kernel) (by decide +kernel)))) g1 g2 g3 ?_
    refine lv_astore_n (lv' := [(2, .ref q), (0, .ref (ad 0)), (1, .ref ao)]) X.x X.b dL_removeLast_11 rfl hl (Nat.le_of_ble_eq_true rfl) rfl (fun ls hl => ?_)
    refine lv_iconst (v := 1) X.x X.b dL_removeLast_12 ki_1 ?_
    exact x_iret X Z (Or.inr ⟨_, hr, rfl, rfl⟩) (Nat.le_of_ble_eq_true rfl) (Nat.le_of_ble_eq_true rfl) dL_removeLast_13
  · obtain ⟨r, hr, rfl, α1, rfl⟩ := hP
    have Z := Z9.perm List.perm_append_comm
    refine W.eq (g2 := F0 m 6 ls [.int r.1, .int 0, .ref ao]) rfl ?_
    refine lv_i2l (v := (r.1 : Int32).toInt64) X.x X.b dL_removeLast_6 rfl ?_
    refine z_last (w' := [(ao, .inl (Δ.2.2.2.1, 1, .inr (.inl (vp_updL out (0 : Int32).toNatClampNeg (r.1 : Int32).toInt64))))] ++ (wX6 Δ ad reached lost r.2.1 plots cliffs words needs r.2.2.1 r.2.2.2 wread ltold lout sets (nI (zo o k)) (nI (zk k + 1)) (zRows (zn n (zp o k)) α1) len codes gpl gps gcl gwo ++ zPool Δ (zn n (zp o k)) α1 (zkeep o k n σ (reached, lost, size, plots, cliffs, words, needs, told, rea, wread, ltold, lout, sets)))) X Z 0 rfl (zvin (by decide)) rfl dL_removeLast_7 (fun H locs Z => ?_)
    refine lv_goto (tgt := 14) X.x X.b dL_removeLast_8 (by decide) ?_
    refine lv_iconst (v := 0) X.x X.b dL_removeLast_14 ki_0 ?_
    exact x_iret X Z (Or.inl ⟨r, hr, rfl, _, rfl⟩) (Nat.le_of_ble_eq_true rfl) (Nat.le_of_ble_eq_true rfl) dL_removeLast_15
set_option maxRecDepth 100000 in
set_option maxHeartbeats 4000000 in
theorem mL_set (l : Launch) (hT : l.stackTraces = false) (Δ : zE) (ad : Nat → Nat) (ao : Nat) (out : Nat → Int64) (reached : Int32) (lost : Int32) (size : Int32) (plots : Nat → Int32) (cliffs : Nat → Int32) (words : Nat → Int32) (needs : Nat → Int32) (told : Nat → Int32) (rea : Nat → Int32) (wread : Nat → Int32) (ltold : Nat → Int32) (lout : Nat → Int32) (sets : Nat → Int32) (len : Int32) (codes : Nat → Int32) (gpl : Int32) (gps : Int32) (gcl : Int32) (gwo : Int32) (o k n : Nat) (α : Nat → Nat → Nat) (σ : Nat → zSC) (hH : zH o k n) (x1 : Int32) (x2 : Int32) {res : String ⊕ (Int32 × (Nat → Int32))} (hf : fX6_set sets x1 x2 = some res) (hE : ∀ E, res = .inl E → E = "java/lang/IndexOutOfBoundsException" ∨ E = "java/lang/IllegalArgumentException") : zMX l Δ yL_set (.codeWith yL_set cL_set 5 (some .int) [(0, 10, 13, 20), (0, 10, 17, 13)]) 8 135 14 133 [.ref (ad 0), .int x1, .int x2, .ref ao] ([(ao, .inl (Δ.2.2.2.1, 1, .inr (.inl out)))] ++ (wX6 Δ ad reached lost size plots cliffs words needs told rea wread ltold lout sets (nI o) (nI k) (zRows n α) len codes gpl gps gcl gwo ++ zPool Δ n α σ)) (fun rv w1 => (∃ r : Int32 × (Nat → Int32), res = .inr r ∧ rv = some (.int 0) ∧ ∃ α1 : Nat → Nat → Nat, w1 = [(ao, .inl (Δ.2.2.2.1, 1, .inr (.inl (vp_updL out (0 : Int32).toNatClampNeg (r.1 : Int32).toInt64))))] ++ (wX6 Δ ad reached lost size plots cliffs words needs told rea wread ltold lout r.2 (nI (zo o k)) (nI (zk k + 1)) (zRows (zn n (zp o k)) α1) len codes gpl gps gcl gwo ++ zPool Δ (zn n (zp o k)) α1 (zkeep o k n σ (reached, lost, size, plots, cliffs, words, needs, told, rea, wread, ltold, lout, sets)))) ∨ (∃ E, res = .inl E ∧ rv = some (.int (if E = "java/lang/IndexOutOfBoundsException" then 1 else 2)) ∧ w1 = [(ao, .inl (Δ.2.2.2.1, 1, .inr (.inl out)))] ++ (wX6 Δ ad reached lost size plots cliffs words needs told rea wread ltold lout sets (nI o) (nI k) (zRows n α) len codes gpl gps gcl gwo ++ zPool Δ n α σ))) (fun _ _ => False) := by
  refine x_startH hT (by decide +kernel) (Nat.le_of_ble_eq_true rfl) ?_
  intro p e s m args below meth c A ls Y htab Z hl
  have X := Y.1
  have hl : lv_has ls 5 [(0, .ref (ad 0)), (1, .int x1), (2, .int x2), (3, .ref ao)] := hl
  refine lv_aload_n X.x X.b dL_set_0 rfl (lv_at hl 3 rfl) ?_
  refine lv_iconst (v := 0) X.x X.b dL_set_1 ki_0 ?_
  refine lv_aload_n X.x X.b dL_set_2 rfl (lv_at hl 0 rfl) ?_
  refine lv_iload_n X.x X.b dL_set_3 rfl (lv_at hl 1 rfl) ?_
  refine lv_iload_n X.x X.b dL_set_4 rfl (lv_at hl 2 rfl) ?_
  refine x_callV_G Y Z hl (mX6_set l hT Δ ad reached lost size plots cliffs words needs told rea wread ltold lout sets len codes gpl gps gcl gwo o k n α σ hH x1 x2 hf) wd_626 wd_627 wd_628 wd_61 wd_629 ok_X6_set 6 rfl 1 rfl List.perm_append_comm rfl (rest := [.int 0, .ref ao]) rfl (Nat.le_of_ble_eq_true rfl) ⟨Nat.le_of_ble_eq_true rfl, Nat.le_of_ble_eq_true rfl⟩ ⟨Nat.le_of_ble_eq_true rfl, Nat.le_of_ble_eq_true rfl⟩ dL_set_5 (fun E ce q w9 H locs hPX Z9 g1 g2 g3 => ?_) (fun rv w1 H locs hP Z9 => ?_)
  · obtain ⟨hr, rfl⟩ := hPX
    have Z := Z9.perm List.perm_append_comm
    rcases hE E hr with rfl | rfl
    · refine vx_catch X.own [] ⟨0, 10, 13, 20⟩ [⟨0, 10, 17, 13⟩] (htab.trans rfl) (fun z hz => absurd hz List.not_mem_nil) rfl (by decide) (X.ts _ wd_580) (va_Nw.use rfl (X.K.2.1 _ (zNw_of 591 (by decide +kernel) (by decide +kernel)))) g1 g2 g3 ?_
      refine lv_astore (lv' := [(4, .ref q), (0, .ref (ad 0)), (1, .int x1), (2, .int x2), (3, .ref ao)]) X.x X.b dL_set_13 hl (Nat.le_of_ble_eq_true rfl) rfl (fun ls hl => ?_)
      refine lv_iconst (v := 1) X.x X.b dL_set_15 ki_1 ?_
      exact x_iret X Z (Or.inr ⟨_, hr, by decide, rfl⟩) (Nat.le_of_ble_eq_true rfl) (Nat.le_of_ble_eq_true rfl) dL_set_16
    · refine vx_catch X.own [⟨0, 10, 13, 20⟩] ⟨0, 10, 17, 13⟩ [] (htab.trans rfl) (fun z hz => by obtain rfl := List.mem_singleton.mp hz; exact Or.inr ⟨by decide, "java/lang/IndexOutOfBoundsException", X.ts _ wd_580, X.K.2.2.2.2 ("java/lang/IllegalArgumentException", "java/lang/IndexOutOfBoundsException") (by decide +kernel)⟩) rfl (by decide) (X.ts _ wd_451) (va_Nw.use rfl (X.K.2.1 _ (zNw_of 462 (by decide +kernel) (by decide +kernel)))) g1 g2 g3 ?_
      refine lv_astore (lv' := [(4, .ref q), (0, .ref (ad 0)), (1, .int x1), (2, .int x2), (3, .ref ao)]) X.x X.b dL_set_17 hl (Nat.le_of_ble_eq_true rfl) rfl (fun ls hl => ?_)
      refine lv_iconst (v := 2) X.x X.b dL_set_19 ki_2 ?_
      exact x_iret X Z (Or.inr ⟨_, hr, by decide, rfl⟩) (Nat.le_of_ble_eq_true rfl) (Nat.le_of_ble_eq_true rfl) dL_set_20
  · obtain ⟨r, hr, rfl, α1, rfl⟩ := hP
    have Z := Z9.perm List.perm_append_comm
    refine W.eq (g2 := F0 m 8 ls [.int r.1, .int 0, .ref ao]) rfl ?_
    refine lv_i2l (v := (r.1 : Int32).toInt64) X.x X.b dL_set_8 rfl ?_
    refine z_last (w' := [(ao, .inl (Δ.2.2.2.1, 1, .inr (.inl (vp_updL out (0 : Int32).toNatClampNeg (r.1 : Int32).toInt64))))] ++ (wX6 Δ ad reached lost size plots cliffs words needs told rea wread ltold lout r.2 (nI (zo o k)) (nI (zk k + 1)) (zRows (zn n (zp o k)) α1) len codes gpl gps gcl gwo ++ zPool Δ (zn n (zp o k)) α1 (zkeep o k n σ (reached, lost, size, plots, cliffs, words, needs, told, rea, wread, ltold, lout, sets)))) X Z 0 rfl (zvin (by decide)) rfl dL_set_9 (fun H locs Z => ?_)
    refine lv_goto (tgt := 21) X.x X.b dL_set_10 (by decide) ?_
    refine lv_iconst (v := 0) X.x X.b dL_set_21 ki_0 ?_
    exact x_iret X Z (Or.inl ⟨r, hr, rfl, _, rfl⟩) (Nat.le_of_ble_eq_true rfl) (Nat.le_of_ble_eq_true rfl) dL_set_22
set_option maxRecDepth 100000 in
set_option maxHeartbeats 4000000 in
theorem mL_mail (l : Launch) (hT : l.stackTraces = false) (Δ : zE) (ad : Nat → Nat) (ao : Nat) (out : Nat → Int64) (reached : Int32) (lost : Int32) (size : Int32) (plots : Nat → Int32) (cliffs : Nat → Int32) (words : Nat → Int32) (needs : Nat → Int32) (told : Nat → Int32) (rea : Nat → Int32) (wread : Nat → Int32) (ltold : Nat → Int32) (lout : Nat → Int32) (sets : Nat → Int32) (len : Int32) (codes : Nat → Int32) (gpl : Int32) (gps : Int32) (gcl : Int32) (gwo : Int32) (o k n : Nat) (α : Nat → Nat → Nat) (σ : Nat → zSC) (hH : zH o k n) (x1 : Int32) (x2 : Int32) {res : String ⊕ (Int32 × Int32 × (Nat → Int32) × (Nat → Int32) × (Nat → Int32) × (Nat → Int32) × (Nat → Int32))} (hf : fX6_mail reached size words needs told rea wread ltold lout sets x1 x2 = some res) (hE : ∀ E, res = .inl E → E = "java/lang/IndexOutOfBoundsException" ∨ E = "java/lang/IllegalStateException") : zMX l Δ yL_mail (.codeWith yL_mail cL_mail 5 (some .int) [(0, 10, 13, 20), (0, 10, 17, 15)]) 8 133 15 139 [.ref (ad 0), .int x1, .int x2, .ref ao] ([(ao, .inl (Δ.2.2.2.1, 1, .inr (.inl out)))] ++ (wX6 Δ ad reached lost size plots cliffs words needs told rea wread ltold lout sets (nI o) (nI k) (zRows n α) len codes gpl gps gcl gwo ++ zPool Δ n α σ)) (fun rv w1 => (∃ r : Int32 × Int32 × (Nat → Int32) × (Nat → Int32) × (Nat → Int32) × (Nat → Int32) × (Nat → Int32), res = .inr r ∧ rv = some (.int 0) ∧ ∃ α1 : Nat → Nat → Nat, w1 = [(ao, .inl (Δ.2.2.2.1, 1, .inr (.inl (vp_updL out (0 : Int32).toNatClampNeg (r.1 : Int32).toInt64))))] ++ (wX6 Δ ad r.2.1 lost size plots cliffs words needs r.2.2.1 r.2.2.2.1 r.2.2.2.2.1 r.2.2.2.2.2.1 r.2.2.2.2.2.2 sets (nI (zo o k)) (nI (zk k + 1)) (zRows (zn n (zp o k)) α1) len codes gpl gps gcl gwo ++ zPool Δ (zn n (zp o k)) α1 (zkeep o k n σ (reached, lost, size, plots, cliffs, words, needs, told, rea, wread, ltold, lout, sets)))) ∨ (∃ E, res = .inl E ∧ rv = some (.int (if E = "java/lang/IndexOutOfBoundsException" then 1 else 2)) ∧ w1 = [(ao, .inl (Δ.2.2.2.1, 1, .inr (.inl out)))] ++ (wX6 Δ ad reached lost size plots cliffs words needs told rea wread ltold lout sets (nI o) (nI k) (zRows n α) len codes gpl gps gcl gwo ++ zPool Δ n α σ))) (fun _ _ => False) := by
  refine x_startH hT (by decide +kernel) (Nat.le_of_ble_eq_true rfl) ?_
  intro p e s m args below meth c A ls Y htab Z hl
  have X := Y.1
  have hl : lv_has ls 5 [(0, .ref (ad 0)), (1, .int x1), (2, .int x2), (3, .ref ao)] := hl
  refine lv_aload_n X.x X.b dL_mail_0 rfl (lv_at hl 3 rfl) ?_
  refine lv_iconst (v := 0) X.x X.b dL_mail_1 ki_0 ?_
  refine lv_aload_n X.x X.b dL_mail_2 rfl (lv_at hl 0 rfl) ?_
  refine lv_iload_n X.x X.b dL_mail_3 rfl (lv_at hl 1 rfl) ?_
  refine lv_iload_n X.x X.b dL_mail_4 rfl (lv_at hl 2 rfl) ?_
  refine x_callV_G Y Z hl (mX6_mail l hT Δ ad reached lost size plots cliffs words needs told rea wread ltold lout sets len codes gpl gps gcl gwo o k n α σ hH x1 x2 hf) wd_638 wd_639 wd_640 wd_61 wd_641 ok_X6_mail 6 rfl 1 rfl List.perm_append_comm rfl (rest := [.int 0, .ref ao]) rfl (Nat.le_of_ble_eq_true rfl) ⟨Nat.le_of_ble_eq_true rfl, Nat.le_of_ble_eq_true rfl⟩ ⟨Nat.le_of_ble_eq_true rfl, Nat.le_of_ble_eq_true rfl⟩ dL_mail_5 (fun E ce q w9 H locs hPX Z9 g1 g2 g3 => ?_) (fun rv w1 H locs hP Z9 => ?_)
  · obtain ⟨hr, rfl⟩ := hPX
    have Z := Z9.perm List.perm_append_comm
    rcases hE E hr with rfl | rfl
    · refine vx_catch X.own [] ⟨0, 10, 13, 20⟩ [⟨0, 10, 17, 15⟩] (htab.trans rfl) (fun z hz => absurd hz List.not_mem_nil) rfl (by decide) (X.ts _ wd_580) (va_Nw.use rfl (X.K.2.1 _ (zNw_of 591 (by decide +kernel) (by decide +kernel)))) g1 g2 g3 ?_
      refine lv_astore (lv' := [(4, .ref q), (0, .ref (ad 0)), (1, .int x1), (2, .int x2), (3, .ref ao)]) X.x X.b dL_mail_13 hl (Nat.le_of_ble_eq_true rfl) rfl (fun ls hl => ?_)
      refine lv_iconst (v := 1) X.x X.b dL_mail_15 ki_1 ?_
      exact x_iret X Z (Or.inr ⟨_, hr, by decide, rfl⟩) (Nat.le_of_ble_eq_true rfl) (Nat.le_of_ble_eq_true rfl) dL_mail_16
    · refine vx_catch X.own [⟨0, 10, 13, 20⟩] ⟨0, 10, 17, 15⟩ [] (htab.trans rfl) (fun z hz => by obtain rfl := List.mem_singleton.mp hz; exact Or.inr ⟨by decide, "java/lang/IndexOutOfBoundsException", X.ts _ wd_580, X.K.2.2.2.2 ("java/lang/IllegalStateException", "java/lang/IndexOutOfBoundsException") (by decide +kernel)⟩) rfl (by decide) (X.ts _ wd_452) (va_Nw.use rfl (X.K.2.1 _ (zNw_of 533 (by decide +kernel) (by decide +kernel)))) g1 g2 g3 ?_
      refine lv_astore (lv' := [(4, .ref q), (0, .ref (ad 0)), (1, .int x1), (2, .int x2), (3, .ref ao)]) X.x X.b dL_mail_17 hl (Nat.le_of_ble_eq_true rfl) rfl (fun ls hl => ?_)
      refine lv_iconst (v := 2) X.x X.b dL_mail_19 ki_2 ?_
      exact x_iret X Z (Or.inr ⟨_, hr, by decide, rfl⟩) (Nat.le_of_ble_eq_true rfl) (Nat.le_of_ble_eq_true rfl) dL_mail_20
  · obtain ⟨r, hr, rfl, α1, rfl⟩ := hP
    have Z := Z9.perm List.perm_append_comm
    refine W.eq (g2 := F0 m 8 ls [.int r.1, .int 0, .ref ao]) rfl ?_
    refine lv_i2l (v := (r.1 : Int32).toInt64) X.x X.b dL_mail_8 rfl ?_
    refine z_last (w' := [(ao, .inl (Δ.2.2.2.1, 1, .inr (.inl (vp_updL out (0 : Int32).toNatClampNeg (r.1 : Int32).toInt64))))] ++ (wX6 Δ ad r.2.1 lost size plots cliffs words needs r.2.2.1 r.2.2.2.1 r.2.2.2.2.1 r.2.2.2.2.2.1 r.2.2.2.2.2.2 sets (nI (zo o k)) (nI (zk k + 1)) (zRows (zn n (zp o k)) α1) len codes gpl gps gcl gwo ++ zPool Δ (zn n (zp o k)) α1 (zkeep o k n σ (reached, lost, size, plots, cliffs, words, needs, told, rea, wread, ltold, lout, sets)))) X Z 0 rfl (zvin (by decide)) rfl dL_mail_9 (fun H locs Z => ?_)
    refine lv_goto (tgt := 21) X.x X.b dL_mail_10 (by decide) ?_
    refine lv_iconst (v := 0) X.x X.b dL_mail_21 ki_0 ?_
    exact x_iret X Z (Or.inl ⟨r, hr, rfl, _, rfl⟩) (Nat.le_of_ble_eq_true rfl) (Nat.le_of_ble_eq_true rfl) dL_mail_22
set_option maxRecDepth 100000 in
set_option maxHeartbeats 4000000 in
theorem mL_mailAll (l : Launch) (hT : l.stackTraces = false) (Δ : zE) (ad : Nat → Nat) (ao : Nat) (out : Nat → Int64) (reached : Int32) (lost : Int32) (size : Int32) (plots : Nat → Int32) (cliffs : Nat → Int32) (words : Nat → Int32) (needs : Nat → Int32) (told : Nat → Int32) (rea : Nat → Int32) (wread : Nat → Int32) (ltold : Nat → Int32) (lout : Nat → Int32) (sets : Nat → Int32) (len : Int32) (codes : Nat → Int32) (gpl : Int32) (gps : Int32) (gcl : Int32) (gwo : Int32) (o k n : Nat) (α : Nat → Nat → Nat) (σ : Nat → zSC) (hH : zH o k n) (x1 : Int32) (x2 : Int32) {res : String ⊕ (Int32 × Int32 × Int32 × (Nat → Int32) × (Nat → Int32) × (Nat → Int32) × (Nat → Int32) × (Nat → Int32))} (hf : fX6_mailAll reached lost size words needs told rea wread ltold lout sets x1 x2 = some res) (hE : ∀ E, res = .inl E → E = "java/lang/IndexOutOfBoundsException" ∨ E = "java/lang/IllegalArgumentException") : zMX l Δ yL_mailAll (.codeWith yL_mailAll cL_mailAll 5 (some .int) [(0, 10, 13, 20), (0, 10, 17, 13)]) 8 138 14 133 [.ref (ad 0), .int x1, .int x2, .ref ao] ([(ao, .inl (Δ.2.2.2.1, 1, .inr (.inl out)))] ++ (wX6 Δ ad reached lost size plots cliffs words needs told rea wread ltold lout sets (nI o) (nI k) (zRows n α) len codes gpl gps gcl gwo ++ zPool Δ n α σ)) (fun rv w1 => (∃ r : Int32 × Int32 × Int32 × (Nat → Int32) × (Nat → Int32) × (Nat → Int32) × (Nat → Int32) × (Nat → Int32), res = .inr r ∧ rv = some (.int 0) ∧ ∃ α1 : Nat → Nat → Nat, w1 = [(ao, .inl (Δ.2.2.2.1, 1, .inr (.inl (vp_updL out (0 : Int32).toNatClampNeg (r.1 : Int32).toInt64))))] ++ (wX6 Δ ad r.2.1 r.2.2.1 size plots cliffs words needs r.2.2.2.1 r.2.2.2.2.1 r.2.2.2.2.2.1 r.2.2.2.2.2.2.1 r.2.2.2.2.2.2.2 sets (nI (zo o k)) (nI (zk k + 1)) (zRows (zn n (zp o k)) α1) len codes gpl gps gcl gwo ++ zPool Δ (zn n (zp o k)) α1 (zkeep o k n σ (reached, lost, size, plots, cliffs, words, needs, told, rea, wread, ltold, lout, sets)))) ∨ (∃ E, res = .inl E ∧ rv = some (.int (if E = "java/lang/IndexOutOfBoundsException" then 1 else 2)) ∧ w1 = [(ao, .inl (Δ.2.2.2.1, 1, .inr (.inl out)))] ++ (wX6 Δ ad reached lost size plots cliffs words needs told rea wread ltold lout sets (nI o) (nI k) (zRows n α) len codes gpl gps gcl gwo ++ zPool Δ n α σ))) (fun _ _ => False) := by
  refine x_startH hT (by decide +kernel) (Nat.le_of_ble_eq_true rfl) ?_
  intro p e s m args below meth c A ls Y htab Z hl
  have X := Y.1
  have hl : lv_has ls 5 [(0, .ref (ad 0)), (1, .int x1), (2, .int x2), (3, .ref ao)] := hl
  refine lv_aload_n X.x X.b dL_mailAll_0 rfl (lv_at hl 3 rfl) ?_
  refine lv_iconst (v := 0) X.x X.b dL_mailAll_1 ki_0 ?_
  refine lv_aload_n X.x X.b dL_mailAll_2 rfl (lv_at hl 0 rfl) ?_
  refine lv_iload_n X.x X.b dL_mailAll_3 rfl (lv_at hl 1 rfl) ?_
  refine lv_iload_n X.x X.b dL_mailAll_4 rfl (lv_at hl 2 rfl) ?_
  refine x_callV_G Y Z hl (mX6_mailAll l hT Δ ad reached lost size plots cliffs words needs told rea wread ltold lout sets len codes gpl gps gcl gwo o k n α σ hH x1 x2 hf) wd_659 wd_660 wd_661 wd_61 wd_662 ok_X6_mailAll 6 rfl 1 rfl List.perm_append_comm rfl (rest := [.int 0, .ref ao]) rfl (Nat.le_of_ble_eq_true rfl) ⟨Nat.le_of_ble_eq_true rfl, Nat.le_of_ble_eq_true rfl⟩ ⟨Nat.le_of_ble_eq_true rfl, Nat.le_of_ble_eq_true rfl⟩ dL_mailAll_5 (fun E ce q w9 H locs hPX Z9 g1 g2 g3 => ?_) (fun rv w1 H locs hP Z9 => ?_)
  · obtain ⟨hr, rfl⟩ := hPX
    have Z := Z9.perm List.perm_append_comm
    rcases hE E hr with rfl | rfl
    · refine vx_catch X.own [] ⟨0, 10, 13, 20⟩ [⟨0, 10, 17, 13⟩] (htab.trans rfl) (fun z hz => absurd hz List.not_mem_nil) rfl (by decide) (X.ts _ wd_580) (va_Nw.use rfl (X.K.2.1 _ (zNw_of 591 (by decide +kernel) (by decide +kernel)))) g1 g2 g3 ?_
      refine lv_astore (lv' := [(4, .ref q), (0, .ref (ad 0)), (1, .int x1), (2, .int x2), (3, .ref ao)]) X.x X.b dL_mailAll_13 hl (Nat.le_of_ble_eq_true rfl) rfl (fun ls hl => ?_)
      refine lv_iconst (v := 1) X.x X.b dL_mailAll_15 ki_1 ?_
      exact x_iret X Z (Or.inr ⟨_, hr, by decide, rfl⟩) (Nat.le_of_ble_eq_true rfl) (Nat.le_of_ble_eq_true rfl) dL_mailAll_16
    · refine vx_catch X.own [⟨0, 10, 13, 20⟩] ⟨0, 10, 17, 13⟩ [] (htab.trans rfl) (fun z hz => by obtain rfl := List.mem_singleton.mp hz; exact Or.inr ⟨by decide, "java/lang/IndexOutOfBoundsException", X.ts _ wd_580, X.K.2.2.2.2 ("java/lang/IllegalArgumentException", "java/lang/IndexOutOfBoundsException") (by decide +kernel)⟩) rfl (by decide) (X.ts _ wd_451) (va_Nw.use rfl (X.K.2.1 _ (zNw_of 462 (by decide +kernel) (by decide +kernel)))) g1 g2 g3 ?_
      refine lv_astore (lv' := [(4, .ref q), (0, .ref (ad 0)), (1, .int x1), (2, .int x2), (3, .ref ao)]) X.x X.b dL_mailAll_17 hl (Nat.le_of_ble_eq_true rfl) rfl (fun ls hl => ?_)
      refine lv_iconst (v := 2) X.x X.b dL_mailAll_19 ki_2 ?_
      exact x_iret X Z (Or.inr ⟨_, hr, by decide, rfl⟩) (Nat.le_of_ble_eq_true rfl) (Nat.le_of_ble_eq_true rfl) dL_mailAll_20
  · obtain ⟨r, hr, rfl, α1, rfl⟩ := hP
    have Z := Z9.perm List.perm_append_comm
    refine W.eq (g2 := F0 m 8 ls [.int r.1, .int 0, .ref ao]) rfl ?_
    refine lv_i2l (v := (r.1 : Int32).toInt64) X.x X.b dL_mailAll_8 rfl ?_
    refine z_last (w' := [(ao, .inl (Δ.2.2.2.1, 1, .inr (.inl (vp_updL out (0 : Int32).toNatClampNeg (r.1 : Int32).toInt64))))] ++ (wX6 Δ ad r.2.1 r.2.2.1 size plots cliffs words needs r.2.2.2.1 r.2.2.2.2.1 r.2.2.2.2.2.1 r.2.2.2.2.2.2.1 r.2.2.2.2.2.2.2 sets (nI (zo o k)) (nI (zk k + 1)) (zRows (zn n (zp o k)) α1) len codes gpl gps gcl gwo ++ zPool Δ (zn n (zp o k)) α1 (zkeep o k n σ (reached, lost, size, plots, cliffs, words, needs, told, rea, wread, ltold, lout, sets)))) X Z 0 rfl (zvin (by decide)) rfl dL_mailAll_9 (fun H locs Z => ?_)
    refine lv_goto (tgt := 21) X.x X.b dL_mailAll_10 (by decide) ?_
    refine lv_iconst (v := 0) X.x X.b dL_mailAll_21 ki_0 ?_
    exact x_iret X Z (Or.inl ⟨r, hr, rfl, _, rfl⟩) (Nat.le_of_ble_eq_true rfl) (Nat.le_of_ble_eq_true rfl) dL_mailAll_22
set_option maxRecDepth 100000 in
set_option maxHeartbeats 4000000 in
theorem mL_forget (l : Launch) (hT : l.stackTraces = false) (Δ : zE) (ad : Nat → Nat) (ao : Nat) (out : Nat → Int64) (reached : Int32) (lost : Int32) (size : Int32) (plots : Nat → Int32) (cliffs : Nat → Int32) (words : Nat → Int32) (needs : Nat → Int32) (told : Nat → Int32) (rea : Nat → Int32) (wread : Nat → Int32) (ltold : Nat → Int32) (lout : Nat → Int32) (sets : Nat → Int32) (len : Int32) (codes : Nat → Int32) (gpl : Int32) (gps : Int32) (gcl : Int32) (gwo : Int32) (o k n : Nat) (α : Nat → Nat → Nat) (σ : Nat → zSC) (hH : zH o k n) (x1 : Int32) {res : String ⊕ (Int32 × (Nat → Int32))} (hf : fX6_forget told x1 = some res) (hE : ∀ E, res = .inl E → E = "java/lang/IndexOutOfBoundsException") : zMX l Δ yL_forget (.codeWith yL_forget cL_forget 4 (some .int) [(0, 9, 12, 20)]) 8 131 14 133 [.ref (ad 0), .int x1, .ref ao] ([(ao, .inl (Δ.2.2.2.1, 1, .inr (.inl out)))] ++ (wX6 Δ ad reached lost size plots cliffs words needs told rea wread ltold lout sets (nI o) (nI k) (zRows n α) len codes gpl gps gcl gwo ++ zPool Δ n α σ)) (fun rv w1 => (∃ r : Int32 × (Nat → Int32), res = .inr r ∧ rv = some (.int 0) ∧ ∃ α1 : Nat → Nat → Nat, w1 = [(ao, .inl (Δ.2.2.2.1, 1, .inr (.inl (vp_updL out (0 : Int32).toNatClampNeg (r.1 : Int32).toInt64))))] ++ (wX6 Δ ad reached lost size plots cliffs words needs r.2 rea wread ltold lout sets (nI (zo o k)) (nI (zk k + 1)) (zRows (zn n (zp o k)) α1) len codes gpl gps gcl gwo ++ zPool Δ (zn n (zp o k)) α1 (zkeep o k n σ (reached, lost, size, plots, cliffs, words, needs, told, rea, wread, ltold, lout, sets)))) ∨ (∃ E, res = .inl E ∧ rv = some (.int 1) ∧ w1 = [(ao, .inl (Δ.2.2.2.1, 1, .inr (.inl out)))] ++ (wX6 Δ ad reached lost size plots cliffs words needs told rea wread ltold lout sets (nI o) (nI k) (zRows n α) len codes gpl gps gcl gwo ++ zPool Δ n α σ))) (fun _ _ => False) := by
  refine x_startH hT (by decide +kernel) (Nat.le_of_ble_eq_true rfl) ?_
  intro p e s m args below meth c A ls Y htab Z hl
  have X := Y.1
  have hl : lv_has ls 4 [(0, .ref (ad 0)), (1, .int x1), (2, .ref ao)] := hl
  refine lv_aload_n X.x X.b dL_forget_0 rfl (lv_at hl 2 rfl) ?_
  refine lv_iconst (v := 0) X.x X.b dL_forget_1 ki_0 ?_
  refine lv_aload_n X.x X.b dL_forget_2 rfl (lv_at hl 0 rfl) ?_
  refine lv_iload_n X.x X.b dL_forget_3 rfl (lv_at hl 1 rfl) ?_
  refine x_callV_G Y Z hl (mX6_forget l hT Δ ad reached lost size plots cliffs words needs told rea wread ltold lout sets len codes gpl gps gcl gwo o k n α σ hH x1 hf) wd_672 wd_673 wd_674 wd_61 wd_675 ok_X6_forget 6 rfl 1 rfl List.perm_append_comm rfl (rest := [.int 0, .ref ao]) rfl (Nat.le_of_ble_eq_true rfl) ⟨Nat.le_of_ble_eq_true rfl, Nat.le_of_ble_eq_true rfl⟩ ⟨Nat.le_of_ble_eq_true rfl, Nat.le_of_ble_eq_true rfl⟩ dL_forget_4 (fun E ce q w9 H locs hPX Z9 g1 g2 g3 => ?_) (fun rv w1 H locs hP Z9 => ?_)
  · obtain ⟨hr, rfl⟩ := hPX
    have Z := Z9.perm List.perm_append_comm
    obtain rfl := hE E hr
    refine vx_catch X.own [] ⟨0, 9, 12, 20⟩ [] (htab.trans rfl) (fun z hz => absurd hz List.not_mem_nil) rfl (by decide) (X.ts _ wd_580) (va_Nw.use rfl (X.K.2.1 _ (zNw_of 591 (by decide +kernel) (by decide +kernel)))) g1 g2 g3 ?_
    refine lv_astore_n (lv' := [(3, .ref q), (0, .ref (ad 0)), (1, .int x1), (2, .ref ao)]) X.x X.b dL_forget_12 rfl hl (Nat.le_of_ble_eq_true rfl) rfl (fun ls hl => ?_)
    refine lv_iconst (v := 1) X.x X.b dL_forget_13 ki_1 ?_
    exact x_iret X Z (Or.inr ⟨_, hr, rfl, rfl⟩) (Nat.le_of_ble_eq_true rfl) (Nat.le_of_ble_eq_true rfl) dL_forget_14
  · obtain ⟨r, hr, rfl, α1, rfl⟩ := hP
    have Z := Z9.perm List.perm_append_comm
    refine W.eq (g2 := F0 m 7 ls [.int r.1, .int 0, .ref ao]) rfl ?_
    refine lv_i2l (v := (r.1 : Int32).toInt64) X.x X.b dL_forget_7 rfl ?_
    refine z_last (w' := [(ao, .inl (Δ.2.2.2.1, 1, .inr (.inl (vp_updL out (0 : Int32).toNatClampNeg (r.1 : Int32).toInt64))))] ++ (wX6 Δ ad reached lost size plots cliffs words needs r.2 rea wread ltold lout sets (nI (zo o k)) (nI (zk k + 1)) (zRows (zn n (zp o k)) α1) len codes gpl gps gcl gwo ++ zPool Δ (zn n (zp o k)) α1 (zkeep o k n σ (reached, lost, size, plots, cliffs, words, needs, told, rea, wread, ltold, lout, sets)))) X Z 0 rfl (zvin (by decide)) rfl dL_forget_8 (fun H locs Z => ?_)
    refine lv_goto (tgt := 15) X.x X.b dL_forget_9 (by decide) ?_
    refine lv_iconst (v := 0) X.x X.b dL_forget_15 ki_0 ?_
    exact x_iret X Z (Or.inl ⟨r, hr, rfl, _, rfl⟩) (Nat.le_of_ble_eq_true rfl) (Nat.le_of_ble_eq_true rfl) dL_forget_16
set_option maxRecDepth 100000 in
set_option maxHeartbeats 4000000 in
theorem mL_catchUp (l : Launch) (hT : l.stackTraces = false) (Δ : zE) (ad : Nat → Nat) (ao : Nat) (out : Nat → Int64) (reached : Int32) (lost : Int32) (size : Int32) (plots : Nat → Int32) (cliffs : Nat → Int32) (words : Nat → Int32) (needs : Nat → Int32) (told : Nat → Int32) (rea : Nat → Int32) (wread : Nat → Int32) (ltold : Nat → Int32) (lout : Nat → Int32) (sets : Nat → Int32) (len : Int32) (codes : Nat → Int32) (gpl : Int32) (gps : Int32) (gcl : Int32) (gwo : Int32) (o k n : Nat) (α : Nat → Nat → Nat) (σ : Nat → zSC) (hH : zH o k n) (x1 : Int32) {res : String ⊕ (Int32 × Int32 × (Nat → Int32) × (Nat → Int32) × (Nat → Int32) × (Nat → Int32) × (Nat → Int32))} (hf : fX6_catchUp reached size words needs told rea wread ltold lout sets x1 = some res) (hE : ∀ E, res = .inl E → E = "java/lang/IndexOutOfBoundsException") : zMX l Δ yL_catchUp (.codeWith yL_catchUp cL_catchUp 4 (some .int) [(0, 9, 12, 20)]) 8 136 14 133 [.ref (ad 0), .int x1, .ref ao] ([(ao, .inl (Δ.2.2.2.1, 1, .inr (.inl out)))] ++ (wX6 Δ ad reached lost size plots cliffs words needs told rea wread ltold lout sets (nI o) (nI k) (zRows n α) len codes gpl gps gcl gwo ++ zPool Δ n α σ)) (fun rv w1 => (∃ r : Int32 × Int32 × (Nat → Int32) × (Nat → Int32) × (Nat → Int32) × (Nat → Int32) × (Nat → Int32), res = .inr r ∧ rv = some (.int 0) ∧ ∃ α1 : Nat → Nat → Nat, w1 = [(ao, .inl (Δ.2.2.2.1, 1, .inr (.inl (vp_updL out (0 : Int32).toNatClampNeg (r.1 : Int32).toInt64))))] ++ (wX6 Δ ad r.2.1 lost size plots cliffs words needs r.2.2.1 r.2.2.2.1 r.2.2.2.2.1 r.2.2.2.2.2.1 r.2.2.2.2.2.2 sets (nI (zo o k)) (nI (zk k + 1)) (zRows (zn n (zp o k)) α1) len codes gpl gps gcl gwo ++ zPool Δ (zn n (zp o k)) α1 (zkeep o k n σ (reached, lost, size, plots, cliffs, words, needs, told, rea, wread, ltold, lout, sets)))) ∨ (∃ E, res = .inl E ∧ rv = some (.int 1) ∧ w1 = [(ao, .inl (Δ.2.2.2.1, 1, .inr (.inl out)))] ++ (wX6 Δ ad reached lost size plots cliffs words needs told rea wread ltold lout sets (nI o) (nI k) (zRows n α) len codes gpl gps gcl gwo ++ zPool Δ n α σ))) (fun _ _ => False) := by
  refine x_startH hT (by decide +kernel) (Nat.le_of_ble_eq_true rfl) ?_
  intro p e s m args below meth c A ls Y htab Z hl
  have X := Y.1
  have hl : lv_has ls 4 [(0, .ref (ad 0)), (1, .int x1), (2, .ref ao)] := hl
  refine lv_aload_n X.x X.b dL_catchUp_0 rfl (lv_at hl 2 rfl) ?_
  refine lv_iconst (v := 0) X.x X.b dL_catchUp_1 ki_0 ?_
  refine lv_aload_n X.x X.b dL_catchUp_2 rfl (lv_at hl 0 rfl) ?_
  refine lv_iload_n X.x X.b dL_catchUp_3 rfl (lv_at hl 1 rfl) ?_
  refine x_callV_G Y Z hl (mX6_catchUp l hT Δ ad reached lost size plots cliffs words needs told rea wread ltold lout sets len codes gpl gps gcl gwo o k n α σ hH x1 hf) wd_683 wd_684 wd_685 wd_61 wd_686 ok_X6_catchUp 6 rfl 1 rfl List.perm_append_comm rfl (rest := [.int 0, .ref ao]) rfl (Nat.le_of_ble_eq_true rfl) ⟨Nat.le_of_ble_eq_true rfl, Nat.le_of_ble_eq_true rfl⟩ ⟨Nat.le_of_ble_eq_true rfl, Nat.le_of_ble_eq_true rfl⟩ dL_catchUp_4 (fun E ce q w9 H locs hPX Z9 g1 g2 g3 => ?_) (fun rv w1 H locs hP Z9 => ?_)
  · obtain ⟨hr, rfl⟩ := hPX
    have Z := Z9.perm List.perm_append_comm
    obtain rfl := hE E hr
    refine vx_catch X.own [] ⟨0, 9, 12, 20⟩ [] (htab.trans rfl) (fun z hz => absurd hz List.not_mem_nil) rfl (by decide) (X.ts _ wd_580) (va_Nw.use rfl (X.K.2.1 _ (zNw_of 591 (by decide +kernel) (by decide +kernel)))) g1 g2 g3 ?_
    refine lv_astore_n (lv' := [(3, .ref q), (0, .ref (ad 0)), (1, .int x1), (2, .ref ao)]) X.x X.b dL_catchUp_12 rfl hl (Nat.le_of_ble_eq_true rfl) rfl (fun ls hl => ?_)
    refine lv_iconst (v := 1) X.x X.b dL_catchUp_13 ki_1 ?_
    exact x_iret X Z (Or.inr ⟨_, hr, rfl, rfl⟩) (Nat.le_of_ble_eq_true rfl) (Nat.le_of_ble_eq_true rfl) dL_catchUp_14
  · obtain ⟨r, hr, rfl, α1, rfl⟩ := hP
    have Z := Z9.perm List.perm_append_comm
    refine W.eq (g2 := F0 m 7 ls [.int r.1, .int 0, .ref ao]) rfl ?_
    refine lv_i2l (v := (r.1 : Int32).toInt64) X.x X.b dL_catchUp_7 rfl ?_
    refine z_last (w' := [(ao, .inl (Δ.2.2.2.1, 1, .inr (.inl (vp_updL out (0 : Int32).toNatClampNeg (r.1 : Int32).toInt64))))] ++ (wX6 Δ ad r.2.1 lost size plots cliffs words needs r.2.2.1 r.2.2.2.1 r.2.2.2.2.1 r.2.2.2.2.2.1 r.2.2.2.2.2.2 sets (nI (zo o k)) (nI (zk k + 1)) (zRows (zn n (zp o k)) α1) len codes gpl gps gcl gwo ++ zPool Δ (zn n (zp o k)) α1 (zkeep o k n σ (reached, lost, size, plots, cliffs, words, needs, told, rea, wread, ltold, lout, sets)))) X Z 0 rfl (zvin (by decide)) rfl dL_catchUp_8 (fun H locs Z => ?_)
    refine lv_goto (tgt := 15) X.x X.b dL_catchUp_9 (by decide) ?_
    refine lv_iconst (v := 0) X.x X.b dL_catchUp_15 ki_0 ?_
    exact x_iret X Z (Or.inl ⟨r, hr, rfl, _, rfl⟩) (Nat.le_of_ble_eq_true rfl) (Nat.le_of_ble_eq_true rfl) dL_catchUp_16
set_option maxRecDepth 100000 in
set_option maxHeartbeats 4000000 in
theorem mL_append (l : Launch) (hT : l.stackTraces = false) (Δ : zE) (ad : Nat → Nat) (ao : Nat) (out : Nat → Int64) (reached : Int32) (lost : Int32) (size : Int32) (plots : Nat → Int32) (cliffs : Nat → Int32) (words : Nat → Int32) (needs : Nat → Int32) (told : Nat → Int32) (rea : Nat → Int32) (wread : Nat → Int32) (ltold : Nat → Int32) (lout : Nat → Int32) (sets : Nat → Int32) (oldest : Int32) (kept : Int32) (rows : Nat → Option Nat) (len : Int32) (codes : Nat → Int32) (gpl : Int32) (gps : Int32) (gcl : Int32) (gwo : Int32) (x1 : Int32) {res : String ⊕ (Int32 × Int32 × (Nat → Int32))} (hf : fX6_append len codes x1 = some res) (hE : ∀ E, res = .inl E → E = "java/lang/IllegalArgumentException" ∨ E = "java/lang/IllegalStateException") : zMX l Δ yL_append (.codeWith yL_append cL_append 4 (some .int) [(0, 9, 12, 13), (0, 9, 15, 15)]) 7 111 1 6 [.ref (ad 0), .int x1, .ref ao] ([(ao, .inl (Δ.2.2.2.1, 1, .inr (.inl out)))] ++ (wX6 Δ ad reached lost size plots cliffs words needs told rea wread ltold lout sets oldest kept rows len codes gpl gps gcl gwo)) (fun rv w1 => (∃ r : Int32 × Int32 × (Nat → Int32), res = .inr r ∧ rv = some (.int 0) ∧ w1 = [(ao, .inl (Δ.2.2.2.1, 1, .inr (.inl (vp_updL out (0 : Int32).toNatClampNeg (r.1 : Int32).toInt64))))] ++ (wX6 Δ ad reached lost size plots cliffs words needs told rea wread ltold lout sets oldest kept rows r.2.1 r.2.2 gpl gps gcl gwo)) ∨ (∃ E, res = .inl E ∧ rv = some (.int (if E = "java/lang/IllegalArgumentException" then 1 else 2)) ∧ w1 = [(ao, .inl (Δ.2.2.2.1, 1, .inr (.inl out)))] ++ (wX6 Δ ad reached lost size plots cliffs words needs told rea wread ltold lout sets oldest kept rows len codes gpl gps gcl gwo))) (fun _ _ => False) := by
  refine x_startH hT (by decide +kernel) (Nat.le_of_ble_eq_true rfl) ?_
  intro p e s m args below meth c A ls Y htab Z hl
  have X := Y.1
  have hl : lv_has ls 4 [(0, .ref (ad 0)), (1, .int x1), (2, .ref ao)] := hl
  refine lv_aload_n X.x X.b dL_append_0 rfl (lv_at hl 2 rfl) ?_
  refine lv_iconst (v := 0) X.x X.b dL_append_1 ki_0 ?_
  refine lv_aload_n X.x X.b dL_append_2 rfl (lv_at hl 0 rfl) ?_
  refine lv_iload_n X.x X.b dL_append_3 rfl (lv_at hl 1 rfl) ?_
  refine x_callV_G Y Z hl (mX6_append l hT Δ ad reached lost size plots cliffs words needs told rea wread ltold lout sets oldest kept rows len codes gpl gps gcl gwo x1 hf) wd_694 wd_695 wd_696 wd_61 wd_697 ok_X6_append 6 rfl 1 rfl List.perm_append_comm rfl (rest := [.int 0, .ref ao]) rfl (Nat.le_of_ble_eq_true rfl) ⟨Nat.le_of_ble_eq_true rfl, Nat.le_of_ble_eq_true rfl⟩ ⟨Nat.le_of_ble_eq_true rfl, Nat.le_of_ble_eq_true rfl⟩ dL_append_4 (fun E ce q w9 H locs hPX Z9 g1 g2 g3 => ?_) (fun rv w1 H locs hP Z9 => ?_)
  · obtain ⟨hr, rfl⟩ := hPX
    have Z := Z9.perm List.perm_append_comm
    rcases hE E hr with rfl | rfl
    · refine vx_catch X.own [] ⟨0, 9, 12, 13⟩ [⟨0, 9, 15, 15⟩] (htab.trans rfl) (fun z hz => absurd hz List.not_mem_nil) rfl (by decide) (X.ts _ wd_451) (va_Nw.use rfl (X.K.2.1 _ (zNw_of 462 (by decide +kernel) (by decide +kernel)))) g1 g2 g3 ?_
      refine lv_astore_n (lv' := [(3, .ref q), (0, .ref (ad 0)), (1, .int x1), (2, .ref ao)]) X.x X.b dL_append_12 rfl hl (Nat.le_of_ble_eq_true rfl) rfl (fun ls hl => ?_)
      refine lv_iconst (v := 1) X.x X.b dL_append_13 ki_1 ?_
      exact x_iret X Z (Or.inr ⟨_, hr, by decide, rfl⟩) (Nat.le_of_ble_eq_true rfl) (Nat.le_of_ble_eq_true rfl) dL_append_14
    · refine vx_catch X.own [⟨0, 9, 12, 13⟩] ⟨0, 9, 15, 15⟩ [] (htab.trans rfl) (fun z hz => by obtain rfl := List.mem_singleton.mp hz; exact Or.inr ⟨by decide, "java/lang/IllegalArgumentException", X.ts _ wd_451, X.K.2.2.2.2 ("java/lang/IllegalStateException", "java/lang/IllegalArgumentException") (by decide +kernel)⟩) rfl (by decide) (X.ts _ wd_452) (va_Nw.use rfl (X.K.2.1 _ (zNw_of 533 (by decide +kernel) (by decide +kernel)))) g1 g2 g3 ?_
      refine lv_astore_n (lv' := [(3, .ref q), (0, .ref (ad 0)), (1, .int x1), (2, .ref ao)]) X.x X.b dL_append_15 rfl hl (Nat.le_of_ble_eq_true rfl) rfl (fun ls hl => ?_)
      refine lv_iconst (v := 2) X.x X.b dL_append_16 ki_2 ?_
      exact x_iret X Z (Or.inr ⟨_, hr, by decide, rfl⟩) (Nat.le_of_ble_eq_true rfl) (Nat.le_of_ble_eq_true rfl) dL_append_17
  · obtain ⟨r, hr, rfl, rfl⟩ := hP
    have Z := Z9.perm List.perm_append_comm
    refine W.eq (g2 := F0 m 7 ls [.int r.1, .int 0, .ref ao]) rfl ?_
    refine lv_i2l (v := (r.1 : Int32).toInt64) X.x X.b dL_append_7 rfl ?_
    refine z_last (w' := [(ao, .inl (Δ.2.2.2.1, 1, .inr (.inl (vp_updL out (0 : Int32).toNatClampNeg (r.1 : Int32).toInt64))))] ++ (wX6 Δ ad reached lost size plots cliffs words needs told rea wread ltold lout sets oldest kept rows r.2.1 r.2.2 gpl gps gcl gwo)) X Z 0 rfl (zvin (by decide)) rfl dL_append_8 (fun H locs Z => ?_)
    refine lv_goto (tgt := 18) X.x X.b dL_append_9 (by decide) ?_
    refine lv_iconst (v := 0) X.x X.b dL_append_18 ki_0 ?_
    exact x_iret X Z (Or.inl ⟨r, hr, rfl, rfl⟩) (Nat.le_of_ble_eq_true rfl) (Nat.le_of_ble_eq_true rfl) dL_append_19
set_option maxRecDepth 100000 in
set_option maxHeartbeats 4000000 in
theorem mL_addAll (l : Launch) (hT : l.stackTraces = false) (Δ : zE) (ad : Nat → Nat) (ao : Nat) (out : Nat → Int64) (reached : Int32) (lost : Int32) (size : Int32) (plots : Nat → Int32) (cliffs : Nat → Int32) (words : Nat → Int32) (needs : Nat → Int32) (told : Nat → Int32) (rea : Nat → Int32) (wread : Nat → Int32) (ltold : Nat → Int32) (lout : Nat → Int32) (sets : Nat → Int32) (len : Int32) (codes : Nat → Int32) (gpl : Int32) (gps : Int32) (gcl : Int32) (gwo : Int32) (o k n : Nat) (α : Nat → Nat → Nat) (σ : Nat → zSC) (hH : zH o k n)  {res : String ⊕ (Int32 × Int32 × (Nat → Int32) × (Nat → Int32) × (Nat → Int32) × (Nat → Int32) × Int32 × Int32 × Int32 × Int32 × Int32)} (hf : fX6_addAll size plots cliffs words needs len codes gpl gps gcl gwo = some res) (hE : ∀ E, res = .inl E → E = "java/lang/IllegalArgumentException" ∨ E = "java/lang/IllegalStateException") : zMX l Δ yL_addAll (.codeWith yL_addAll cL_addAll 3 (some .int) [(0, 8, 11, 13), (0, 8, 14, 15)]) 7 125 13 127 [.ref (ad 0), .ref ao] ([(ao, .inl (Δ.2.2.2.1, 1, .inr (.inl out)))] ++ (wX6 Δ ad reached lost size plots cliffs words needs told rea wread ltold lout sets (nI o) (nI k) (zRows n α) len codes gpl gps gcl gwo ++ zPool Δ n α σ)) (fun rv w1 => (∃ r : Int32 × Int32 × (Nat → Int32) × (Nat → Int32) × (Nat → Int32) × (Nat → Int32) × Int32 × Int32 × Int32 × Int32 × Int32, res = .inr r ∧ rv = some (.int 0) ∧ ∃ α1 : Nat → Nat → Nat, w1 = [(ao, .inl (Δ.2.2.2.1, 1, .inr (.inl (vp_updL out (0 : Int32).toNatClampNeg (r.1 : Int32).toInt64))))] ++ (wX6 Δ ad reached lost r.2.1 r.2.2.1 r.2.2.2.1 r.2.2.2.2.1 r.2.2.2.2.2.1 told rea wread ltold lout sets (nI (zo o k)) (nI (zk k + 1)) (zRows (zn n (zp o k)) α1) r.2.2.2.2.2.2.1 codes r.2.2.2.2.2.2.2.1 r.2.2.2.2.2.2.2.2.1 r.2.2.2.2.2.2.2.2.2.1 r.2.2.2.2.2.2.2.2.2.2 ++ zPool Δ (zn n (zp o k)) α1 (zkeep o k n σ (reached, lost, size, plots, cliffs, words, needs, told, rea, wread, ltold, lout, sets)))) ∨ (∃ E, res = .inl E ∧ rv = some (.int (if E = "java/lang/IllegalArgumentException" then 1 else 2)) ∧ ∃ g1 g2 g3 g4 : Int32, w1 = [(ao, .inl (Δ.2.2.2.1, 1, .inr (.inl out)))] ++ (wX6 Δ ad reached lost size plots cliffs words needs told rea wread ltold lout sets (nI o) (nI k) (zRows n α) len codes g1 g2 g3 g4 ++ zPool Δ n α σ))) (fun _ _ => False) := by
  refine x_startH hT (by decide +kernel) (Nat.le_of_ble_eq_true rfl) ?_
  intro p e s m args below meth c A ls Y htab Z hl
  have X := Y.1
  have hl : lv_has ls 3 [(0, .ref (ad 0)), (1, .ref ao)] := hl
  refine lv_aload_n X.x X.b dL_addAll_0 rfl (lv_at hl 1 rfl) ?_
  refine lv_iconst (v := 0) X.x X.b dL_addAll_1 ki_0 ?_
  refine lv_aload_n X.x X.b dL_addAll_2 rfl (lv_at hl 0 rfl) ?_
  refine x_callV_G Y Z hl (mX6_addAll l hT Δ ad reached lost size plots cliffs words needs told rea wread ltold lout sets len codes gpl gps gcl gwo o k n α σ hH  hf) wd_707 wd_708 wd_709 wd_61 wd_710 ok_X6_addAll 6 rfl 1 rfl List.perm_append_comm rfl (rest := [.int 0, .ref ao]) rfl (Nat.le_of_ble_eq_true rfl) ⟨Nat.le_of_ble_eq_true rfl, Nat.le_of_ble_eq_true rfl⟩ ⟨Nat.le_of_ble_eq_true rfl, Nat.le_of_ble_eq_true rfl⟩ dL_addAll_3 (fun E ce q w9 H locs hPX Z9 g1 g2 g3 => ?_) (fun rv w1 H locs hP Z9 => ?_)
  · obtain ⟨hr, a1, a2, a3, a4, rfl⟩ := hPX
    have Z := Z9.perm List.perm_append_comm
    rcases hE E hr with rfl | rfl
    · refine vx_catch X.own [] ⟨0, 8, 11, 13⟩ [⟨0, 8, 14, 15⟩] (htab.trans rfl) (fun z hz => absurd hz List.not_mem_nil) rfl (by decide) (X.ts _ wd_451) (va_Nw.use rfl (X.K.2.1 _ (zNw_of 462 (by decide +kernel) (by decide +kernel)))) g1 g2 g3 ?_
      refine lv_astore_n (lv' := [(2, .ref q), (0, .ref (ad 0)), (1, .ref ao)]) X.x X.b dL_addAll_11 rfl hl (Nat.le_of_ble_eq_true rfl) rfl (fun ls hl => ?_)
      refine lv_iconst (v := 1) X.x X.b dL_addAll_12 ki_1 ?_
      exact x_iret X Z (Or.inr ⟨_, hr, by decide, _, _, _, _, rfl⟩) (Nat.le_of_ble_eq_true rfl) (Nat.le_of_ble_eq_true rfl) dL_addAll_13
    · refine vx_catch X.own [⟨0, 8, 11, 13⟩] ⟨0, 8, 14, 15⟩ [] (htab.trans rfl) (fun z hz => by obtain rfl := List.mem_singleton.mp hz; exact Or.inr ⟨by decide, "java/lang/IllegalArgumentException", X.ts _ wd_451, X.K.2.2.2.2 ("java/lang/IllegalStateException", "java/lang/IllegalArgumentException") (by decide +kernel)⟩) rfl (by decide) (X.ts _ wd_452) (va_Nw.use rfl (X.K.2.1 _ (zNw_of 533 (by decide +kernel) (by decide +kernel)))) g1 g2 g3 ?_
      refine lv_astore_n (lv' := [(2, .ref q), (0, .ref (ad 0)), (1, .ref ao)]) X.x X.b dL_addAll_14 rfl hl (Nat.le_of_ble_eq_true rfl) rfl (fun ls hl => ?_)
      refine lv_iconst (v := 2) X.x X.b dL_addAll_15 ki_2 ?_
      exact x_iret X Z (Or.inr ⟨_, hr, by decide, _, _, _, _, rfl⟩) (Nat.le_of_ble_eq_true rfl) (Nat.le_of_ble_eq_true rfl) dL_addAll_16
  · obtain ⟨r, hr, rfl, α1, rfl⟩ := hP
    have Z := Z9.perm List.perm_append_comm
    refine W.eq (g2 := F0 m 6 ls [.int r.1, .int 0, .ref ao]) rfl ?_
    refine lv_i2l (v := (r.1 : Int32).toInt64) X.x X.b dL_addAll_6 rfl ?_
    refine z_last (w' := [(ao, .inl (Δ.2.2.2.1, 1, .inr (.inl (vp_updL out (0 : Int32).toNatClampNeg (r.1 : Int32).toInt64))))] ++ (wX6 Δ ad reached lost r.2.1 r.2.2.1 r.2.2.2.1 r.2.2.2.2.1 r.2.2.2.2.2.1 told rea wread ltold lout sets (nI (zo o k)) (nI (zk k + 1)) (zRows (zn n (zp o k)) α1) r.2.2.2.2.2.2.1 codes r.2.2.2.2.2.2.2.1 r.2.2.2.2.2.2.2.2.1 r.2.2.2.2.2.2.2.2.2.1 r.2.2.2.2.2.2.2.2.2.2 ++ zPool Δ (zn n (zp o k)) α1 (zkeep o k n σ (reached, lost, size, plots, cliffs, words, needs, told, rea, wread, ltold, lout, sets)))) X Z 0 rfl (zvin (by decide)) rfl dL_addAll_7 (fun H locs Z => ?_)
    refine lv_goto (tgt := 17) X.x X.b dL_addAll_8 (by decide) ?_
    refine lv_iconst (v := 0) X.x X.b dL_addAll_17 ki_0 ?_
    exact x_iret X Z (Or.inl ⟨r, hr, rfl, _, rfl⟩) (Nat.le_of_ble_eq_true rfl) (Nat.le_of_ble_eq_true rfl) dL_addAll_18
set_option maxRecDepth 100000 in
set_option maxHeartbeats 4000000 in
theorem mL_undo (l : Launch) (hT : l.stackTraces = false) (Δ : zE) (ad : Nat → Nat) (ao : Nat) (out : Nat → Int64) (reached : Int32) (lost : Int32) (size : Int32) (plots : Nat → Int32) (cliffs : Nat → Int32) (words : Nat → Int32) (needs : Nat → Int32) (told : Nat → Int32) (rea : Nat → Int32) (wread : Nat → Int32) (ltold : Nat → Int32) (lout : Nat → Int32) (sets : Nat → Int32) (len : Int32) (codes : Nat → Int32) (gpl : Int32) (gps : Int32) (gcl : Int32) (gwo : Int32) (o k n : Nat) (α : Nat → Nat → Nat) (σ : Nat → zSC) (hH : zH o k n)  : zMX l Δ yL_undo (.codeWith yL_undo cL_undo 3 (some .int) [(0, 8, 11, 15)]) 7 111 1 6 [.ref (ad 0), .ref ao] ([(ao, .inl (Δ.2.2.2.1, 1, .inr (.inl out)))] ++ (wX6 Δ ad reached lost size plots cliffs words needs told rea wread ltold lout sets (nI o) (nI k) (zRows n α) len codes gpl gps gcl gwo ++ zPool Δ n α σ)) (fun rv w1 => (¬ k = 0 ∧ rv = some (.int 0) ∧ w1 = [(ao, .inl (Δ.2.2.2.1, 1, .inr (.inl (vp_updL out (0 : Int32).toNatClampNeg (nI (k - 1) : Int32).toInt64))))] ++ (wX6 Δ ad ((zcp (reached, lost, size, plots, cliffs, words, needs, told, rea, wread, ltold, lout, sets) (σ (zl o k))).1) ((zcp (reached, lost, size, plots, cliffs, words, needs, told, rea, wread, ltold, lout, sets) (σ (zl o k))).2.1) ((zcp (reached, lost, size, plots, cliffs, words, needs, told, rea, wread, ltold, lout, sets) (σ (zl o k))).2.2.1) ((zcp (reached, lost, size, plots, cliffs, words, needs, told, rea, wread, ltold, lout, sets) (σ (zl o k))).2.2.2.1) ((zcp (reached, lost, size, plots, cliffs, words, needs, told, rea, wread, ltold, lout, sets) (σ (zl o k))).2.2.2.2.1) ((zcp (reached, lost, size, plots, cliffs, words, needs, told, rea, wread, ltold, lout, sets) (σ (zl o k))).2.2.2.2.2.1) ((zcp (reached, lost, size, plots, cliffs, words, needs, told, rea, wread, ltold, lout, sets) (σ (zl o k))).2.2.2.2.2.2.1) ((zcp (reached, lost, size, plots, cliffs, words, needs, told, rea, wread, ltold, lout, sets) (σ (zl o k))).2.2.2.2.2.2.2.1) ((zcp (reached, lost, size, plots, cliffs, words, needs, told, rea, wread, ltold, lout, sets) (σ (zl o k))).2.2.2.2.2.2.2.2.1) ((zcp (reached, lost, size, plots, cliffs, words, needs, told, rea, wread, ltold, lout, sets) (σ (zl o k))).2.2.2.2.2.2.2.2.2.1) ((zcp (reached, lost, size, plots, cliffs, words, needs, told, rea, wread, ltold, lout, sets) (σ (zl o k))).2.2.2.2.2.2.2.2.2.2.1) ((zcp (reached, lost, size, plots, cliffs, words, needs, told, rea, wread, ltold, lout, sets) (σ (zl o k))).2.2.2.2.2.2.2.2.2.2.2.1) ((zcp (reached, lost, size, plots, cliffs, words, needs, told, rea, wread, ltold, lout, sets) (σ (zl o k))).2.2.2.2.2.2.2.2.2.2.2.2) (nI o) (nI (k - 1)) (zRows n α) len codes gpl gps gcl gwo ++ zPool Δ n α σ)) ∨ (k = 0 ∧ rv = some (.int 1) ∧ w1 = [(ao, .inl (Δ.2.2.2.1, 1, .inr (.inl out)))] ++ (wX6 Δ ad reached lost size plots cliffs words needs told rea wread ltold lout sets (nI o) (nI k) (zRows n α) len codes gpl gps gcl gwo ++ zPool Δ n α σ))) (fun _ _ => False) := by
  refine x_startH hT (by decide +kernel) (Nat.le_of_ble_eq_true rfl) ?_
  intro p e s m args below meth c A ls Y htab Z hl
  have X := Y.1
  have hl : lv_has ls 3 [(0, .ref (ad 0)), (1, .ref ao)] := hl
  refine lv_aload_n X.x X.b dL_undo_0 rfl (lv_at hl 1 rfl) ?_
  refine lv_iconst (v := 0) X.x X.b dL_undo_1 ki_0 ?_
  refine lv_aload_n X.x X.b dL_undo_2 rfl (lv_at hl 0 rfl) ?_
  refine x_callV_G Y Z hl (mX6_undo l hT Δ ad reached lost size plots cliffs words needs told rea wread ltold lout sets len codes gpl gps gcl gwo o k n α σ hH) wd_734 wd_735 wd_736 wd_61 wd_737 ok_X6_undo 6 rfl 1 rfl List.perm_append_comm rfl (rest := [.int 0, .ref ao]) rfl (Nat.le_of_ble_eq_true rfl) ⟨Nat.le_of_ble_eq_true rfl, Nat.le_of_ble_eq_true rfl⟩ ⟨Nat.le_of_ble_eq_true rfl, Nat.le_of_ble_eq_true rfl⟩ dL_undo_3 (fun E ce q w9 H locs hPX Z9 g1 g2 g3 => ?_) (fun rv w1 H locs hP Z9 => ?_)
  · obtain ⟨hr, hk0, rfl⟩ := hPX
    have Z := Z9.perm List.perm_append_comm
    subst hr
    refine vx_catch X.own [] ⟨0, 8, 11, 15⟩ [] (htab.trans rfl) (fun z hz => absurd hz List.not_mem_nil) rfl (by decide) (X.ts _ wd_452) (va_Nw.use rfl (X.K.2.1 _ (zNw_of 533 (by decide +kernel) (by decide +kernel)))) g1 g2 g3 ?_
    refine lv_astore_n (lv' := [(2, .ref q), (0, .ref (ad 0)), (1, .ref ao)]) X.x X.b dL_undo_11 rfl hl (Nat.le_of_ble_eq_true rfl) rfl (fun ls hl => ?_)
    refine lv_iconst (v := 1) X.x X.b dL_undo_12 ki_1 ?_
    exact x_iret X Z (Or.inr ⟨hk0, rfl, rfl⟩) (Nat.le_of_ble_eq_true rfl) (Nat.le_of_ble_eq_true rfl) dL_undo_13
  · obtain ⟨hk0, rfl, rfl⟩ := hP
    have Z := Z9.perm List.perm_append_comm
    refine W.eq (g2 := F0 m 6 ls [.int (nI (k - 1)), .int 0, .ref ao]) rfl ?_
    refine lv_i2l (v := (nI (k - 1) : Int32).toInt64) X.x X.b dL_undo_6 rfl ?_
    refine z_last (w' := [(ao, .inl (Δ.2.2.2.1, 1, .inr (.inl (vp_updL out (0 : Int32).toNatClampNeg (nI (k - 1) : Int32).toInt64))))] ++ (wX6 Δ ad ((zcp (reached, lost, size, plots, cliffs, words, needs, told, rea, wread, ltold, lout, sets) (σ (zl o k))).1) ((zcp (reached, lost, size, plots, cliffs, words, needs, told, rea, wread, ltold, lout, sets) (σ (zl o k))).2.1) ((zcp (reached, lost, size, plots, cliffs, words, needs, told, rea, wread, ltold, lout, sets) (σ (zl o k))).2.2.1) ((zcp (reached, lost, size, plots, cliffs, words, needs, told, rea, wread, ltold, lout, sets) (σ (zl o k))).2.2.2.1) ((zcp (reached, lost, size, plots, cliffs, words, needs, told, rea, wread, ltold, lout, sets) (σ (zl o k))).2.2.2.2.1) ((zcp (reached, lost, size, plots, cliffs, words, needs, told, rea, wread, ltold, lout, sets) (σ (zl o k))).2.2.2.2.2.1) ((zcp (reached, lost, size, plots, cliffs, words, needs, told, rea, wread, ltold, lout, sets) (σ (zl o k))).2.2.2.2.2.2.1) ((zcp (reached, lost, size, plots, cliffs, words, needs, told, rea, wread, ltold, lout, sets) (σ (zl o k))).2.2.2.2.2.2.2.1) ((zcp (reached, lost, size, plots, cliffs, words, needs, told, rea, wread, ltold, lout, sets) (σ (zl o k))).2.2.2.2.2.2.2.2.1) ((zcp (reached, lost, size, plots, cliffs, words, needs, told, rea, wread, ltold, lout, sets) (σ (zl o k))).2.2.2.2.2.2.2.2.2.1) ((zcp (reached, lost, size, plots, cliffs, words, needs, told, rea, wread, ltold, lout, sets) (σ (zl o k))).2.2.2.2.2.2.2.2.2.2.1) ((zcp (reached, lost, size, plots, cliffs, words, needs, told, rea, wread, ltold, lout, sets) (σ (zl o k))).2.2.2.2.2.2.2.2.2.2.2.1) ((zcp (reached, lost, size, plots, cliffs, words, needs, told, rea, wread, ltold, lout, sets) (σ (zl o k))).2.2.2.2.2.2.2.2.2.2.2.2) (nI o) (nI (k - 1)) (zRows n α) len codes gpl gps gcl gwo ++ zPool Δ n α σ)) X Z 0 rfl (zvin (by decide)) rfl dL_undo_7 (fun H locs Z => ?_)
    refine lv_goto (tgt := 14) X.x X.b dL_undo_8 (by decide) ?_
    refine lv_iconst (v := 0) X.x X.b dL_undo_14 ki_0 ?_
    exact x_iret X Z (Or.inl ⟨hk0, rfl, rfl⟩) (Nat.le_of_ble_eq_true rfl) (Nat.le_of_ble_eq_true rfl) dL_undo_15
set_option maxRecDepth 100000 in
set_option maxHeartbeats 4000000 in
theorem mL_part (l : Launch) (hT : l.stackTraces = false) (Δ : zE) (ad : Nat → Nat) (ao : Nat) (out : Nat → Int64) (reached : Int32) (lost : Int32) (size : Int32) (plots : Nat → Int32) (cliffs : Nat → Int32) (words : Nat → Int32) (needs : Nat → Int32) (told : Nat → Int32) (rea : Nat → Int32) (wread : Nat → Int32) (ltold : Nat → Int32) (lout : Nat → Int32) (sets : Nat → Int32) (oldest : Int32) (kept : Int32) (rows : Nat → Option Nat) (len : Int32) (codes : Nat → Int32) (gpl : Int32) (gps : Int32) (gcl : Int32) (gwo : Int32) (x1 : Int32) (x2 : Int32) {res : String ⊕ Int32} (hf : fX6_part size plots cliffs words needs rea x1 x2 = some res) (hE : ∀ E, res = .inl E → E = "java/lang/IndexOutOfBoundsException" ∨ E = "java/lang/IllegalArgumentException") : zMX l Δ yL_part (.codeWith yL_part cL_part 5 (some .int) [(0, 10, 13, 20), (0, 10, 17, 13)]) 8 133 2 12 [.ref (ad 0), .int x1, .int x2, .ref ao] ([(ao, .inl (Δ.2.2.2.1, 1, .inr (.inl out)))] ++ (wX6 Δ ad reached lost size plots cliffs words needs told rea wread ltold lout sets oldest kept rows len codes gpl gps gcl gwo)) (fun rv w1 => (∃ r : Int32, res = .inr r ∧ rv = some (.int 0) ∧ w1 = [(ao, .inl (Δ.2.2.2.1, 1, .inr (.inl (vp_updL out (0 : Int32).toNatClampNeg (r : Int32).toInt64))))] ++ (wX6 Δ ad reached lost size plots cliffs words needs told rea wread ltold lout sets oldest kept rows len codes gpl gps gcl gwo)) ∨ (∃ E, res = .inl E ∧ rv = some (.int (if E = "java/lang/IndexOutOfBoundsException" then 1 else 2)) ∧ w1 = [(ao, .inl (Δ.2.2.2.1, 1, .inr (.inl out)))] ++ (wX6 Δ ad reached lost size plots cliffs words needs told rea wread ltold lout sets oldest kept rows len codes gpl gps gcl gwo))) (fun _ _ => False) := by
  refine x_startH hT (by decide +kernel) (Nat.le_of_ble_eq_true rfl) ?_
  intro p e s m args below meth c A ls Y htab Z hl
  have X := Y.1
  have hl : lv_has ls 5 [(0, .ref (ad 0)), (1, .int x1), (2, .int x2), (3, .ref ao)] := hl
  refine lv_aload_n X.x X.b dL_part_0 rfl (lv_at hl 3 rfl) ?_
  refine lv_iconst (v := 0) X.x X.b dL_part_1 ki_0 ?_
  refine lv_aload_n X.x X.b dL_part_2 rfl (lv_at hl 0 rfl) ?_
  refine lv_iload_n X.x X.b dL_part_3 rfl (lv_at hl 1 rfl) ?_
  refine lv_iload_n X.x X.b dL_part_4 rfl (lv_at hl 2 rfl) ?_
  refine x_callV_G Y Z hl (mX6_part l hT Δ ad reached lost size plots cliffs words needs told rea wread ltold lout sets oldest kept rows len codes gpl gps gcl gwo x1 x2 hf) wd_751 wd_752 wd_753 wd_61 wd_754 ok_X6_part 6 rfl 1 rfl List.perm_append_comm rfl (rest := [.int 0, .ref ao]) rfl (Nat.le_of_ble_eq_true rfl) ⟨Nat.le_of_ble_eq_true rfl, Nat.le_of_ble_eq_true rfl⟩ ⟨Nat.le_of_ble_eq_true rfl, Nat.le_of_ble_eq_true rfl⟩ dL_part_5 (fun E ce q w9 H locs hPX Z9 g1 g2 g3 => ?_) (fun rv w1 H locs hP Z9 => ?_)
  · obtain ⟨hr, rfl⟩ := hPX
    have Z := Z9.perm List.perm_append_comm
    rcases hE E hr with rfl | rfl
    · refine vx_catch X.own [] ⟨0, 10, 13, 20⟩ [⟨0, 10, 17, 13⟩] (htab.trans rfl) (fun z hz => absurd hz List.not_mem_nil) rfl (by decide) (X.ts _ wd_580) (va_Nw.use rfl (X.K.2.1 _ (zNw_of 591 (by decide +kernel) (by decide +kernel)))) g1 g2 g3 ?_
      refine lv_astore (lv' := [(4, .ref q), (0, .ref (ad 0)), (1, .int x1), (2, .int x2), (3, .ref ao)]) X.x X.b dL_part_13 hl (Nat.le_of_ble_eq_true rfl) rfl (fun ls hl => ?_)
      refine lv_iconst (v := 1) X.x X.b dL_part_15 ki_1 ?_
      exact x_iret X Z (Or.inr ⟨_, hr, by decide, rfl⟩) (Nat.le_of_ble_eq_true rfl) (Nat.le_of_ble_eq_true rfl) dL_part_16
    · refine vx_catch X.own [⟨0, 10, 13, 20⟩] ⟨0, 10, 17, 13⟩ [] (htab.trans rfl) (fun z hz => by obtain rfl := List.mem_singleton.mp hz; exact Or.inr ⟨by decide, "java/lang/IndexOutOfBoundsException", X.ts _ wd_580, X.K.2.2.2.2 ("java/lang/IllegalArgumentException", "java/lang/IndexOutOfBoundsException") (by decide +kernel)⟩) rfl (by decide) (X.ts _ wd_451) (va_Nw.use rfl (X.K.2.1 _ (zNw_of 462 (by decide +kernel) (by decide +kernel)))) g1 g2 g3 ?_
      refine lv_astore (lv' := [(4, .ref q), (0, .ref (ad 0)), (1, .int x1), (2, .int x2), (3, .ref ao)]) X.x X.b dL_part_17 hl (Nat.le_of_ble_eq_true rfl) rfl (fun ls hl => ?_)
      refine lv_iconst (v := 2) X.x X.b dL_part_19 ki_2 ?_
      exact x_iret X Z (Or.inr ⟨_, hr, by decide, rfl⟩) (Nat.le_of_ble_eq_true rfl) (Nat.le_of_ble_eq_true rfl) dL_part_20
  · obtain ⟨r, hr, rfl, rfl⟩ := hP
    have Z := Z9.perm List.perm_append_comm
    refine W.eq (g2 := F0 m 8 ls [.int r, .int 0, .ref ao]) rfl ?_
    refine lv_i2l (v := (r : Int32).toInt64) X.x X.b dL_part_8 rfl ?_
    refine z_last (w' := [(ao, .inl (Δ.2.2.2.1, 1, .inr (.inl (vp_updL out (0 : Int32).toNatClampNeg (r : Int32).toInt64))))] ++ (wX6 Δ ad reached lost size plots cliffs words needs told rea wread ltold lout sets oldest kept rows len codes gpl gps gcl gwo)) X Z 0 rfl (zvin (by decide)) rfl dL_part_9 (fun H locs Z => ?_)
    refine lv_goto (tgt := 21) X.x X.b dL_part_10 (by decide) ?_
    refine lv_iconst (v := 0) X.x X.b dL_part_21 ki_0 ?_
    exact x_iret X Z (Or.inl ⟨r, hr, rfl, rfl⟩) (Nat.le_of_ble_eq_true rfl) (Nat.le_of_ble_eq_true rfl) dL_part_22
set_option maxRecDepth 100000 in
set_option maxHeartbeats 4000000 in
theorem mL_knows (l : Launch) (hT : l.stackTraces = false) (Δ : zE) (ad : Nat → Nat) (ao : Nat) (out : Nat → Int64) (reached : Int32) (lost : Int32) (size : Int32) (plots : Nat → Int32) (cliffs : Nat → Int32) (words : Nat → Int32) (needs : Nat → Int32) (told : Nat → Int32) (rea : Nat → Int32) (wread : Nat → Int32) (ltold : Nat → Int32) (lout : Nat → Int32) (sets : Nat → Int32) (oldest : Int32) (kept : Int32) (rows : Nat → Option Nat) (len : Int32) (codes : Nat → Int32) (gpl : Int32) (gps : Int32) (gcl : Int32) (gwo : Int32) (x1 : Int32) (x2 : Int32) {res : String ⊕ Int32} (hf : fX6_knows size told rea x1 x2 = some res) (hE : ∀ E, res = .inl E → E = "java/lang/IndexOutOfBoundsException") : zMX l Δ yL_knows (.codeWith yL_knows cL_knows 5 (some .int) [(0, 10, 13, 20)]) 8 133 2 12 [.ref (ad 0), .int x1, .int x2, .ref ao] ([(ao, .inl (Δ.2.2.2.1, 1, .inr (.inl out)))] ++ (wX6 Δ ad reached lost size plots cliffs words needs told rea wread ltold lout sets oldest kept rows len codes gpl gps gcl gwo)) (fun rv w1 => (∃ r : Int32, res = .inr r ∧ rv = some (.int 0) ∧ w1 = [(ao, .inl (Δ.2.2.2.1, 1, .inr (.inl (vp_updL out (0 : Int32).toNatClampNeg (r : Int32).toInt64))))] ++ (wX6 Δ ad reached lost size plots cliffs words needs told rea wread ltold lout sets oldest kept rows len codes gpl gps gcl gwo)) ∨ (∃ E, res = .inl E ∧ rv = some (.int 1) ∧ w1 = [(ao, .inl (Δ.2.2.2.1, 1, .inr (.inl out)))] ++ (wX6 Δ ad reached lost size plots cliffs words needs told rea wread ltold lout sets oldest kept rows len codes gpl gps gcl gwo))) (fun _ _ => False) := by
  refine x_startH hT (by decide +kernel) (Nat.le_of_ble_eq_true rfl) ?_
  intro p e s m args below meth c A ls Y htab Z hl
  have X := Y.1
  have hl : lv_has ls 5 [(0, .ref (ad 0)), (1, .int x1), (2, .int x2), (3, .ref ao)] := hl
  refine lv_aload_n X.x X.b dL_knows_0 rfl (lv_at hl 3 rfl) ?_
  refine lv_iconst (v := 0) X.x X.b dL_knows_1 ki_0 ?_
  refine lv_aload_n X.x X.b dL_knows_2 rfl (lv_at hl 0 rfl) ?_
  refine lv_iload_n X.x X.b dL_knows_3 rfl (lv_at hl 1 rfl) ?_
  refine lv_iload_n X.x X.b dL_knows_4 rfl (lv_at hl 2 rfl) ?_
  refine x_callV_G Y Z hl (mX6_knows l hT Δ ad reached lost size plots cliffs words needs told rea wread ltold lout sets oldest kept rows len codes gpl gps gcl gwo x1 x2 hf) wd_762 wd_763 wd_764 wd_61 wd_765 ok_X6_knows 6 rfl 1 rfl List.perm_append_comm rfl (rest := [.int 0, .ref ao]) rfl (Nat.le_of_ble_eq_true rfl) ⟨Nat.le_of_ble_eq_true rfl, Nat.le_of_ble_eq_true rfl⟩ ⟨Nat.le_of_ble_eq_true rfl, Nat.le_of_ble_eq_true rfl⟩ dL_knows_5 (fun E ce q w9 H locs hPX Z9 g1 g2 g3 => ?_) (fun rv w1 H locs hP Z9 => ?_)
  · obtain ⟨hr, rfl⟩ := hPX
    have Z := Z9.perm List.perm_append_comm
    obtain rfl := hE E hr
    refine vx_catch X.own [] ⟨0, 10, 13, 20⟩ [] (htab.trans rfl) (fun z hz => absurd hz List.not_mem_nil) rfl (by decide) (X.ts _ wd_580) (va_Nw.use rfl (X.K.2.1 _ (zNw_of 591 (by decide +kernel) (by decide +kernel)))) g1 g2 g3 ?_
    refine lv_astore (lv' := [(4, .ref q), (0, .ref (ad 0)), (1, .int x1), (2, .int x2), (3, .ref ao)]) X.x X.b dL_knows_13 hl (Nat.le_of_ble_eq_true rfl) rfl (fun ls hl => ?_)
    refine lv_iconst (v := 1) X.x X.b dL_knows_15 ki_1 ?_
    exact x_iret X Z (Or.inr ⟨_, hr, rfl, rfl⟩) (Nat.le_of_ble_eq_true rfl) (Nat.le_of_ble_eq_true rfl) dL_knows_16
  · obtain ⟨r, hr, rfl, rfl⟩ := hP
    have Z := Z9.perm List.perm_append_comm
    refine W.eq (g2 := F0 m 8 ls [.int r, .int 0, .ref ao]) rfl ?_
    refine lv_i2l (v := (r : Int32).toInt64) X.x X.b dL_knows_8 rfl ?_
    refine z_last (w' := [(ao, .inl (Δ.2.2.2.1, 1, .inr (.inl (vp_updL out (0 : Int32).toNatClampNeg (r : Int32).toInt64))))] ++ (wX6 Δ ad reached lost size plots cliffs words needs told rea wread ltold lout sets oldest kept rows len codes gpl gps gcl gwo)) X Z 0 rfl (zvin (by decide)) rfl dL_knows_9 (fun H locs Z => ?_)
    refine lv_goto (tgt := 17) X.x X.b dL_knows_10 (by decide) ?_
    refine lv_iconst (v := 0) X.x X.b dL_knows_17 ki_0 ?_
    exact x_iret X Z (Or.inl ⟨r, hr, rfl, rfl⟩) (Nat.le_of_ble_eq_true rfl) (Nat.le_of_ble_eq_true rfl) dL_knows_18
set_option maxRecDepth 100000 in
set_option maxHeartbeats 4000000 in
theorem mL_reader (l : Launch) (hT : l.stackTraces = false) (Δ : zE) (ad : Nat → Nat) (ao : Nat) (out : Nat → Int64) (reached : Int32) (lost : Int32) (size : Int32) (plots : Nat → Int32) (cliffs : Nat → Int32) (words : Nat → Int32) (needs : Nat → Int32) (told : Nat → Int32) (rea : Nat → Int32) (wread : Nat → Int32) (ltold : Nat → Int32) (lout : Nat → Int32) (sets : Nat → Int32) (oldest : Int32) (kept : Int32) (rows : Nat → Option Nat) (len : Int32) (codes : Nat → Int32) (gpl : Int32) (gps : Int32) (gcl : Int32) (gwo : Int32) (x1 : Int32) (x2 : Int32) {res : String ⊕ Int32} (hf : fX6_reader size plots cliffs told rea wread ltold lout x1 x2 = some res) (hE : ∀ E, res = .inl E → E = "java/lang/IndexOutOfBoundsException" ∨ E = "java/lang/IllegalArgumentException") : zMX l Δ yL_reader (.codeWith yL_reader cL_reader 5 (some .int) [(0, 10, 13, 20), (0, 10, 17, 13)]) 8 133 2 12 [.ref (ad 0), .int x1, .int x2, .ref ao] ([(ao, .inl (Δ.2.2.2.1, 1, .inr (.inl out)))] ++ (wX6 Δ ad reached lost size plots cliffs words needs told rea wread ltold lout sets oldest kept rows len codes gpl gps gcl gwo)) (fun rv w1 => (∃ r : Int32, res = .inr r ∧ rv = some (.int 0) ∧ w1 = [(ao, .inl (Δ.2.2.2.1, 1, .inr (.inl (vp_updL out (0 : Int32).toNatClampNeg (r : Int32).toInt64))))] ++ (wX6 Δ ad reached lost size plots cliffs words needs told rea wread ltold lout sets oldest kept rows len codes gpl gps gcl gwo)) ∨ (∃ E, res = .inl E ∧ rv = some (.int (if E = "java/lang/IndexOutOfBoundsException" then 1 else 2)) ∧ w1 = [(ao, .inl (Δ.2.2.2.1, 1, .inr (.inl out)))] ++ (wX6 Δ ad reached lost size plots cliffs words needs told rea wread ltold lout sets oldest kept rows len codes gpl gps gcl gwo))) (fun _ _ => False) := by
  refine x_startH hT (by decide +kernel) (Nat.le_of_ble_eq_true rfl) ?_
  intro p e s m args below meth c A ls Y htab Z hl
  have X := Y.1
  have hl : lv_has ls 5 [(0, .ref (ad 0)), (1, .int x1), (2, .int x2), (3, .ref ao)] := hl
  refine lv_aload_n X.x X.b dL_reader_0 rfl (lv_at hl 3 rfl) ?_
  refine lv_iconst (v := 0) X.x X.b dL_reader_1 ki_0 ?_
  refine lv_aload_n X.x X.b dL_reader_2 rfl (lv_at hl 0 rfl) ?_
  refine lv_iload_n X.x X.b dL_reader_3 rfl (lv_at hl 1 rfl) ?_
  refine lv_iload_n X.x X.b dL_reader_4 rfl (lv_at hl 2 rfl) ?_
  refine x_callV_G Y Z hl (mX6_reader l hT Δ ad reached lost size plots cliffs words needs told rea wread ltold lout sets oldest kept rows len codes gpl gps gcl gwo x1 x2 hf) wd_769 wd_770 wd_771 wd_61 wd_772 ok_X6_reader 6 rfl 1 rfl List.perm_append_comm rfl (rest := [.int 0, .ref ao]) rfl (Nat.le_of_ble_eq_true rfl) ⟨Nat.le_of_ble_eq_true rfl, Nat.le_of_ble_eq_true rfl⟩ ⟨Nat.le_of_ble_eq_true rfl, Nat.le_of_ble_eq_true rfl⟩ dL_reader_5 (fun E ce q w9 H locs hPX Z9 g1 g2 g3 => ?_) (fun rv w1 H locs hP Z9 => ?_)
  · obtain ⟨hr, rfl⟩ := hPX
    have Z := Z9.perm List.perm_append_comm
    rcases hE E hr with rfl | rfl
    · refine vx_catch X.own [] ⟨0, 10, 13, 20⟩ [⟨0, 10, 17, 13⟩] (htab.trans rfl) (fun z hz => absurd hz List.not_mem_nil) rfl (by decide) (X.ts _ wd_580) (va_Nw.use rfl (X.K.2.1 _ (zNw_of 591 (by decide +kernel) (by decide +kernel)))) g1 g2 g3 ?_
      refine lv_astore (lv' := [(4, .ref q), (0, .ref (ad 0)), (1, .int x1), (2, .int x2), (3, .ref ao)]) X.x X.b dL_reader_13 hl (Nat.le_of_ble_eq_true rfl) rfl (fun ls hl => ?_)
      refine lv_iconst (v := 1) X.x X.b dL_reader_15 ki_1 ?_
      exact x_iret X Z (Or.inr ⟨_, hr, by decide, rfl⟩) (Nat.le_of_ble_eq_true rfl) (Nat.le_of_ble_eq_true rfl) dL_reader_16
    · refine vx_catch X.own [⟨0, 10, 13, 20⟩] ⟨0, 10, 17, 13⟩ [] (htab.trans rfl) (fun z hz => by obtain rfl := List.mem_singleton.mp hz; exact Or.inr ⟨by decide, "java/lang/IndexOutOfBoundsException", X.ts _ wd_580, X.K.2.2.2.2 ("java/lang/IllegalArgumentException", "java/lang/IndexOutOfBoundsException") (by decide +kernel)⟩) rfl (by decide) (X.ts _ wd_451) (va_Nw.use rfl (X.K.2.1 _ (zNw_of 462 (by decide +kernel) (by decide +kernel)))) g1 g2 g3 ?_
      refine lv_astore (lv' := [(4, .ref q), (0, .ref (ad 0)), (1, .int x1), (2, .int x2), (3, .ref ao)]) X.x X.b dL_reader_17 hl (Nat.le_of_ble_eq_true rfl) rfl (fun ls hl => ?_)
      refine lv_iconst (v := 2) X.x X.b dL_reader_19 ki_2 ?_
      exact x_iret X Z (Or.inr ⟨_, hr, by decide, rfl⟩) (Nat.le_of_ble_eq_true rfl) (Nat.le_of_ble_eq_true rfl) dL_reader_20
  · obtain ⟨r, hr, rfl, rfl⟩ := hP
    have Z := Z9.perm List.perm_append_comm
    refine W.eq (g2 := F0 m 8 ls [.int r, .int 0, .ref ao]) rfl ?_
    refine lv_i2l (v := (r : Int32).toInt64) X.x X.b dL_reader_8 rfl ?_
    refine z_last (w' := [(ao, .inl (Δ.2.2.2.1, 1, .inr (.inl (vp_updL out (0 : Int32).toNatClampNeg (r : Int32).toInt64))))] ++ (wX6 Δ ad reached lost size plots cliffs words needs told rea wread ltold lout sets oldest kept rows len codes gpl gps gcl gwo)) X Z 0 rfl (zvin (by decide)) rfl dL_reader_9 (fun H locs Z => ?_)
    refine lv_goto (tgt := 21) X.x X.b dL_reader_10 (by decide) ?_
    refine lv_iconst (v := 0) X.x X.b dL_reader_21 ki_0 ?_
    exact x_iret X Z (Or.inl ⟨r, hr, rfl, rfl⟩) (Nat.le_of_ble_eq_true rfl) (Nat.le_of_ble_eq_true rfl) dL_reader_22
set_option maxRecDepth 100000 in
set_option maxHeartbeats 4000000 in
theorem mL_plot (l : Launch) (hT : l.stackTraces = false) (Δ : zE) (ad : Nat → Nat) (ao : Nat) (out : Nat → Int64) (reached : Int32) (lost : Int32) (size : Int32) (plots : Nat → Int32) (cliffs : Nat → Int32) (words : Nat → Int32) (needs : Nat → Int32) (told : Nat → Int32) (rea : Nat → Int32) (wread : Nat → Int32) (ltold : Nat → Int32) (lout : Nat → Int32) (sets : Nat → Int32) (oldest : Int32) (kept : Int32) (rows : Nat → Option Nat) (len : Int32) (codes : Nat → Int32) (gpl : Int32) (gps : Int32) (gcl : Int32) (gwo : Int32) (x1 : Int32) (x2 : Int32) {res : String ⊕ Int32} (hf : fX6_plot size plots cliffs told rea x1 x2 = some res) (hE : ∀ E, res = .inl E → E = "java/lang/IndexOutOfBoundsException" ∨ E = "java/lang/IllegalArgumentException") : zMX l Δ yL_plot (.codeWith yL_plot cL_plot 5 (some .int) [(0, 10, 13, 20), (0, 10, 17, 13)]) 8 133 1 6 [.ref (ad 0), .int x1, .int x2, .ref ao] ([(ao, .inl (Δ.2.2.2.1, 1, .inr (.inl out)))] ++ (wX6 Δ ad reached lost size plots cliffs words needs told rea wread ltold lout sets oldest kept rows len codes gpl gps gcl gwo)) (fun rv w1 => (∃ r : Int32, res = .inr r ∧ rv = some (.int 0) ∧ w1 = [(ao, .inl (Δ.2.2.2.1, 1, .inr (.inl (vp_updL out (0 : Int32).toNatClampNeg (r : Int32).toInt64))))] ++ (wX6 Δ ad reached lost size plots cliffs words needs told rea wread ltold lout sets oldest kept rows len codes gpl gps gcl gwo)) ∨ (∃ E, res = .inl E ∧ rv = some (.int (if E = "java/lang/IndexOutOfBoundsException" then 1 else 2)) ∧ w1 = [(ao, .inl (Δ.2.2.2.1, 1, .inr (.inl out)))] ++ (wX6 Δ ad reached lost size plots cliffs words needs told rea wread ltold lout sets oldest kept rows len codes gpl gps gcl gwo))) (fun _ _ => False) := by
  refine x_startH hT (by decide +kernel) (Nat.le_of_ble_eq_true rfl) ?_
  intro p e s m args below meth c A ls Y htab Z hl
  have X := Y.1
  have hl : lv_has ls 5 [(0, .ref (ad 0)), (1, .int x1), (2, .int x2), (3, .ref ao)] := hl
  refine lv_aload_n X.x X.b dL_plot_0 rfl (lv_at hl 3 rfl) ?_
  refine lv_iconst (v := 0) X.x X.b dL_plot_1 ki_0 ?_
  refine lv_aload_n X.x X.b dL_plot_2 rfl (lv_at hl 0 rfl) ?_
  refine lv_iload_n X.x X.b dL_plot_3 rfl (lv_at hl 1 rfl) ?_
  refine lv_iload_n X.x X.b dL_plot_4 rfl (lv_at hl 2 rfl) ?_
  refine x_callV_G Y Z hl (mX6_plot l hT Δ ad reached lost size plots cliffs words needs told rea wread ltold lout sets oldest kept rows len codes gpl gps gcl gwo x1 x2 hf) wd_776 wd_777 wd_778 wd_61 wd_779 ok_X6_plot 6 rfl 1 rfl List.perm_append_comm rfl (rest := [.int 0, .ref ao]) rfl (Nat.le_of_ble_eq_true rfl) ⟨Nat.le_of_ble_eq_true rfl, Nat.le_of_ble_eq_true rfl⟩ ⟨Nat.le_of_ble_eq_true rfl, Nat.le_of_ble_eq_true rfl⟩ dL_plot_5 (fun E ce q w9 H locs hPX Z9 g1 g2 g3 => ?_) (fun rv w1 H locs hP Z9 => ?_)
  · obtain ⟨hr, rfl⟩ := hPX
    have Z := Z9.perm List.perm_append_comm
    rcases hE E hr with rfl | rfl
    · refine vx_catch X.own [] ⟨0, 10, 13, 20⟩ [⟨0, 10, 17, 13⟩] (htab.trans rfl) (fun z hz => absurd hz List.not_mem_nil) rfl (by decide) (X.ts _ wd_580) (va_Nw.use rfl (X.K.2.1 _ (zNw_of 591 (by decide +kernel) (by decide +kernel)))) g1 g2 g3 ?_
      refine lv_astore (lv' := [(4, .ref q), (0, .ref (ad 0)), (1, .int x1), (2, .int x2), (3, .ref ao)]) X.x X.b dL_plot_13 hl (Nat.le_of_ble_eq_true rfl) rfl (fun ls hl => ?_)
      refine lv_iconst (v := 1) X.x X.b dL_plot_15 ki_1 ?_
      exact x_iret X Z (Or.inr ⟨_, hr, by decide, rfl⟩) (Nat.le_of_ble_eq_true rfl) (Nat.le_of_ble_eq_true rfl) dL_plot_16
    · refine vx_catch X.own [⟨0, 10, 13, 20⟩] ⟨0, 10, 17, 13⟩ [] (htab.trans rfl) (fun z hz => by obtain rfl := List.mem_singleton.mp hz; exact Or.inr ⟨by decide, "java/lang/IndexOutOfBoundsException", X.ts _ wd_580, X.K.2.2.2.2 ("java/lang/IllegalArgumentException", "java/lang/IndexOutOfBoundsException") (by decide +kernel)⟩) rfl (by decide) (X.ts _ wd_451) (va_Nw.use rfl (X.K.2.1 _ (zNw_of 462 (by decide +kernel) (by decide +kernel)))) g1 g2 g3 ?_
      refine lv_astore (lv' := [(4, .ref q), (0, .ref (ad 0)), (1, .int x1), (2, .int x2), (3, .ref ao)]) X.x X.b dL_plot_17 hl (Nat.le_of_ble_eq_true rfl) rfl (fun ls hl => ?_)
      refine lv_iconst (v := 2) X.x X.b dL_plot_19 ki_2 ?_
      exact x_iret X Z (Or.inr ⟨_, hr, by decide, rfl⟩) (Nat.le_of_ble_eq_true rfl) (Nat.le_of_ble_eq_true rfl) dL_plot_20
  · obtain ⟨r, hr, rfl, rfl⟩ := hP
    have Z := Z9.perm List.perm_append_comm
    refine W.eq (g2 := F0 m 8 ls [.int r, .int 0, .ref ao]) rfl ?_
    refine lv_i2l (v := (r : Int32).toInt64) X.x X.b dL_plot_8 rfl ?_
    refine z_last (w' := [(ao, .inl (Δ.2.2.2.1, 1, .inr (.inl (vp_updL out (0 : Int32).toNatClampNeg (r : Int32).toInt64))))] ++ (wX6 Δ ad reached lost size plots cliffs words needs told rea wread ltold lout sets oldest kept rows len codes gpl gps gcl gwo)) X Z 0 rfl (zvin (by decide)) rfl dL_plot_9 (fun H locs Z => ?_)
    refine lv_goto (tgt := 21) X.x X.b dL_plot_10 (by decide) ?_
    refine lv_iconst (v := 0) X.x X.b dL_plot_21 ki_0 ?_
    exact x_iret X Z (Or.inl ⟨r, hr, rfl, rfl⟩) (Nat.le_of_ble_eq_true rfl) (Nat.le_of_ble_eq_true rfl) dL_plot_22
set_option maxRecDepth 100000 in
set_option maxHeartbeats 4000000 in
theorem mL_count (l : Launch) (hT : l.stackTraces = false) (Δ : zE) (ad : Nat → Nat) (ao : Nat) (out : Nat → Int64) (reached : Int32) (lost : Int32) (size : Int32) (plots : Nat → Int32) (cliffs : Nat → Int32) (words : Nat → Int32) (needs : Nat → Int32) (told : Nat → Int32) (rea : Nat → Int32) (wread : Nat → Int32) (ltold : Nat → Int32) (lout : Nat → Int32) (sets : Nat → Int32) (oldest : Int32) (kept : Int32) (rows : Nat → Option Nat) (len : Int32) (codes : Nat → Int32) (gpl : Int32) (gps : Int32) (gcl : Int32) (gwo : Int32) (x1 : Int32) {res : String ⊕ Int32} (hf : fX6_count reached lost size words told rea wread kept x1 = some res) (hE : ∀ E, res = .inl E → E = "java/lang/IllegalArgumentException") : zMX l Δ yL_count (.codeWith yL_count cL_count 4 (some .int) [(0, 9, 12, 13)]) 8 132 1 6 [.ref (ad 0), .int x1, .ref ao] ([(ao, .inl (Δ.2.2.2.1, 1, .inr (.inl out)))] ++ (wX6 Δ ad reached lost size plots cliffs words needs told rea wread ltold lout sets oldest kept rows len codes gpl gps gcl gwo)) (fun rv w1 => (∃ r : Int32, res = .inr r ∧ rv = some (.int 0) ∧ w1 = [(ao, .inl (Δ.2.2.2.1, 1, .inr (.inl (vp_updL out (0 : Int32).toNatClampNeg (r : Int32).toInt64))))] ++ (wX6 Δ ad reached lost size plots cliffs words needs told rea wread ltold lout sets oldest kept rows len codes gpl gps gcl gwo)) ∨ (∃ E, res = .inl E ∧ rv = some (.int 1) ∧ w1 = [(ao, .inl (Δ.2.2.2.1, 1, .inr (.inl out)))] ++ (wX6 Δ ad reached lost size plots cliffs words needs told rea wread ltold lout sets oldest kept rows len codes gpl gps gcl gwo))) (fun _ _ => False) := by
  refine x_startH hT (by decide +kernel) (Nat.le_of_ble_eq_true rfl) ?_
  intro p e s m args below meth c A ls Y htab Z hl
  have X := Y.1
  have hl : lv_has ls 4 [(0, .ref (ad 0)), (1, .int x1), (2, .ref ao)] := hl
  refine lv_aload_n X.x X.b dL_count_0 rfl (lv_at hl 2 rfl) ?_
  refine lv_iconst (v := 0) X.x X.b dL_count_1 ki_0 ?_
  refine lv_aload_n X.x X.b dL_count_2 rfl (lv_at hl 0 rfl) ?_
  refine lv_iload_n X.x X.b dL_count_3 rfl (lv_at hl 1 rfl) ?_
  refine x_callV_G Y Z hl (mX6_count l hT Δ ad reached lost size plots cliffs words needs told rea wread ltold lout sets oldest kept rows len codes gpl gps gcl gwo x1 hf) wd_784 wd_785 wd_786 wd_61 wd_787 ok_X6_count 6 rfl 1 rfl List.perm_append_comm rfl (rest := [.int 0, .ref ao]) rfl (Nat.le_of_ble_eq_true rfl) ⟨Nat.le_of_ble_eq_true rfl, Nat.le_of_ble_eq_true rfl⟩ ⟨Nat.le_of_ble_eq_true rfl, Nat.le_of_ble_eq_true rfl⟩ dL_count_4 (fun E ce q w9 H locs hPX Z9 g1 g2 g3 => ?_) (fun rv w1 H locs hP Z9 => ?_)
  · obtain ⟨hr, rfl⟩ := hPX
    have Z := Z9.perm List.perm_append_comm
    obtain rfl := hE E hr
    refine vx_catch X.own [] ⟨0, 9, 12, 13⟩ [] (htab.trans rfl) (fun z hz => absurd hz List.not_mem_nil) rfl (by decide) (X.ts _ wd_451) (va_Nw.use rfl (X.K.2.1 _ (zNw_of 462 (by decide +kernel) (by decide +kernel)))) g1 g2 g3 ?_
    refine lv_astore_n (lv' := [(3, .ref q), (0, .ref (ad 0)), (1, .int x1), (2, .ref ao)]) X.x X.b dL_count_12 rfl hl (Nat.le_of_ble_eq_true rfl) rfl (fun ls hl => ?_)
    refine lv_iconst (v := 1) X.x X.b dL_count_13 ki_1 ?_
    exact x_iret X Z (Or.inr ⟨_, hr, rfl, rfl⟩) (Nat.le_of_ble_eq_true rfl) (Nat.le_of_ble_eq_true rfl) dL_count_14
  · obtain ⟨r, hr, rfl, rfl⟩ := hP
    have Z := Z9.perm List.perm_append_comm
    refine W.eq (g2 := F0 m 7 ls [.int r, .int 0, .ref ao]) rfl ?_
    refine lv_i2l (v := (r : Int32).toInt64) X.x X.b dL_count_7 rfl ?_
    refine z_last (w' := [(ao, .inl (Δ.2.2.2.1, 1, .inr (.inl (vp_updL out (0 : Int32).toNatClampNeg (r : Int32).toInt64))))] ++ (wX6 Δ ad reached lost size plots cliffs words needs told rea wread ltold lout sets oldest kept rows len codes gpl gps gcl gwo)) X Z 0 rfl (zvin (by decide)) rfl dL_count_8 (fun H locs Z => ?_)
    refine lv_goto (tgt := 15) X.x X.b dL_count_9 (by decide) ?_
    refine lv_iconst (v := 0) X.x X.b dL_count_15 ki_0 ?_
    exact x_iret X Z (Or.inl ⟨r, hr, rfl, rfl⟩) (Nat.le_of_ble_eq_true rfl) (Nat.le_of_ble_eq_true rfl) dL_count_16
set_option maxRecDepth 100000 in
set_option maxHeartbeats 4000000 in
theorem mL_setting (l : Launch) (hT : l.stackTraces = false) (Δ : zE) (ad : Nat → Nat) (ao : Nat) (out : Nat → Int64) (reached : Int32) (lost : Int32) (size : Int32) (plots : Nat → Int32) (cliffs : Nat → Int32) (words : Nat → Int32) (needs : Nat → Int32) (told : Nat → Int32) (rea : Nat → Int32) (wread : Nat → Int32) (ltold : Nat → Int32) (lout : Nat → Int32) (sets : Nat → Int32) (oldest : Int32) (kept : Int32) (rows : Nat → Option Nat) (len : Int32) (codes : Nat → Int32) (gpl : Int32) (gps : Int32) (gcl : Int32) (gwo : Int32) (x1 : Int32) {res : String ⊕ Int32} (hf : fX6_setting sets x1 = some res) (hE : ∀ E, res = .inl E → E = "java/lang/IndexOutOfBoundsException") : zMX l Δ yL_setting (.codeWith yL_setting cL_setting 4 (some .int) [(0, 9, 12, 20)]) 8 131 1 6 [.ref (ad 0), .int x1, .ref ao] ([(ao, .inl (Δ.2.2.2.1, 1, .inr (.inl out)))] ++ (wX6 Δ ad reached lost size plots cliffs words needs told rea wread ltold lout sets oldest kept rows len codes gpl gps gcl gwo)) (fun rv w1 => (∃ r : Int32, res = .inr r ∧ rv = some (.int 0) ∧ w1 = [(ao, .inl (Δ.2.2.2.1, 1, .inr (.inl (vp_updL out (0 : Int32).toNatClampNeg (r : Int32).toInt64))))] ++ (wX6 Δ ad reached lost size plots cliffs words needs told rea wread ltold lout sets oldest kept rows len codes gpl gps gcl gwo)) ∨ (∃ E, res = .inl E ∧ rv = some (.int 1) ∧ w1 = [(ao, .inl (Δ.2.2.2.1, 1, .inr (.inl out)))] ++ (wX6 Δ ad reached lost size plots cliffs words needs told rea wread ltold lout sets oldest kept rows len codes gpl gps gcl gwo))) (fun _ _ => False) := by
  refine x_startH hT (by decide +kernel) (Nat.le_of_ble_eq_true rfl) ?_
  intro p e s m args below meth c A ls Y htab Z hl
  have X := Y.1
  have hl : lv_has ls 4 [(0, .ref (ad 0)), (1, .int x1), (2, .ref ao)] := hl
  refine lv_aload_n X.x X.b dL_setting_0 rfl (lv_at hl 2 rfl) ?_
  refine lv_iconst (v := 0) X.x X.b dL_setting_1 ki_0 ?_
  refine lv_aload_n X.x X.b dL_setting_2 rfl (lv_at hl 0 rfl) ?_
  refine lv_iload_n X.x X.b dL_setting_3 rfl (lv_at hl 1 rfl) ?_
  refine x_callV_G Y Z hl (mX6_setting l hT Δ ad reached lost size plots cliffs words needs told rea wread ltold lout sets oldest kept rows len codes gpl gps gcl gwo x1 hf) wd_791 wd_792 wd_793 wd_61 wd_794 ok_X6_setting 6 rfl 1 rfl List.perm_append_comm rfl (rest := [.int 0, .ref ao]) rfl (Nat.le_of_ble_eq_true rfl) ⟨Nat.le_of_ble_eq_true rfl, Nat.le_of_ble_eq_true rfl⟩ ⟨Nat.le_of_ble_eq_true rfl, Nat.le_of_ble_eq_true rfl⟩ dL_setting_4 (fun E ce q w9 H locs hPX Z9 g1 g2 g3 => ?_) (fun rv w1 H locs hP Z9 => ?_)
  · obtain ⟨hr, rfl⟩ := hPX
    have Z := Z9.perm List.perm_append_comm
    obtain rfl := hE E hr
    refine vx_catch X.own [] ⟨0, 9, 12, 20⟩ [] (htab.trans rfl) (fun z hz => absurd hz List.not_mem_nil) rfl (by decide) (X.ts _ wd_580) (va_Nw.use rfl (X.K.2.1 _ (zNw_of 591 (by decide +kernel) (by decide +kernel)))) g1 g2 g3 ?_
    refine lv_astore_n (lv' := [(3, .ref q), (0, .ref (ad 0)), (1, .int x1), (2, .ref ao)]) X.x X.b dL_setting_12 rfl hl (Nat.le_of_ble_eq_true rfl) rfl (fun ls hl => ?_)
    refine lv_iconst (v := 1) X.x X.b dL_setting_13 ki_1 ?_
    exact x_iret X Z (Or.inr ⟨_, hr, rfl, rfl⟩) (Nat.le_of_ble_eq_true rfl) (Nat.le_of_ble_eq_true rfl) dL_setting_14
  · obtain ⟨r, hr, rfl, rfl⟩ := hP
    have Z := Z9.perm List.perm_append_comm
    refine W.eq (g2 := F0 m 7 ls [.int r, .int 0, .ref ao]) rfl ?_
    refine lv_i2l (v := (r : Int32).toInt64) X.x X.b dL_setting_7 rfl ?_
    refine z_last (w' := [(ao, .inl (Δ.2.2.2.1, 1, .inr (.inl (vp_updL out (0 : Int32).toNatClampNeg (r : Int32).toInt64))))] ++ (wX6 Δ ad reached lost size plots cliffs words needs told rea wread ltold lout sets oldest kept rows len codes gpl gps gcl gwo)) X Z 0 rfl (zvin (by decide)) rfl dL_setting_8 (fun H locs Z => ?_)
    refine lv_goto (tgt := 15) X.x X.b dL_setting_9 (by decide) ?_
    refine lv_iconst (v := 0) X.x X.b dL_setting_15 ki_0 ?_
    exact x_iret X Z (Or.inl ⟨r, hr, rfl, rfl⟩) (Nat.le_of_ble_eq_true rfl) (Nat.le_of_ble_eq_true rfl) dL_setting_16
set_option maxRecDepth 100000 in
set_option maxHeartbeats 4000000 in
theorem mL_recap (l : Launch) (hT : l.stackTraces = false) (Δ : zE) (ad : Nat → Nat) (ao : Nat) (out : Nat → Int64) (reached : Int32) (lost : Int32) (size : Int32) (plots : Nat → Int32) (cliffs : Nat → Int32) (words : Nat → Int32) (needs : Nat → Int32) (told : Nat → Int32) (rea : Nat → Int32) (wread : Nat → Int32) (ltold : Nat → Int32) (lout : Nat → Int32) (sets : Nat → Int32) (oldest : Int32) (kept : Int32) (rows : Nat → Option Nat) (len : Int32) (codes : Nat → Int32) (gpl : Int32) (gps : Int32) (gcl : Int32) (gwo : Int32) (x1 : Int32) (x2 : Int32) (x3 : Int32) {res : String ⊕ Int32} (hf : fX6_recap size words needs told rea sets x1 x2 x3 = some res) (hE : ∀ E, res = .inl E → E = "java/lang/IndexOutOfBoundsException" ∨ E = "java/lang/IllegalArgumentException") : zMX l Δ yL_recap (.codeWith yL_recap cL_recap 6 (some .int) [(0, 12, 15, 20), (0, 12, 19, 13)]) 8 134 3 18 [.ref (ad 0), .int x1, .int x2, .int x3, .ref ao] ([(ao, .inl (Δ.2.2.2.1, 1, .inr (.inl out)))] ++ (wX6 Δ ad reached lost size plots cliffs words needs told rea wread ltold lout sets oldest kept rows len codes gpl gps gcl gwo)) (fun rv w1 => (∃ r : Int32, res = .inr r ∧ rv = some (.int 0) ∧ w1 = [(ao, .inl (Δ.2.2.2.1, 1, .inr (.inl (vp_updL out (0 : Int32).toNatClampNeg (r : Int32).toInt64))))] ++ (wX6 Δ ad reached lost size plots cliffs words needs told rea wread ltold lout sets oldest kept rows len codes gpl gps gcl gwo)) ∨ (∃ E, res = .inl E ∧ rv = some (.int (if E = "java/lang/IndexOutOfBoundsException" then 1 else 2)) ∧ w1 = [(ao, .inl (Δ.2.2.2.1, 1, .inr (.inl out)))] ++ (wX6 Δ ad reached lost size plots cliffs words needs told rea wread ltold lout sets oldest kept rows len codes gpl gps gcl gwo))) (fun _ _ => False) := by
  refine x_startH hT (by decide +kernel) (Nat.le_of_ble_eq_true rfl) ?_
  intro p e s m args below meth c A ls Y htab Z hl
  have X := Y.1
  have hl : lv_has ls 6 [(0, .ref (ad 0)), (1, .int x1), (2, .int x2), (3, .int x3), (4, .ref ao)] := hl
  refine lv_aload X.x X.b dL_recap_0 (lv_at hl 4 rfl) ?_
  refine lv_iconst (v := 0) X.x X.b dL_recap_2 ki_0 ?_
  refine lv_aload_n X.x X.b dL_recap_3 rfl (lv_at hl 0 rfl) ?_
  refine lv_iload_n X.x X.b dL_recap_4 rfl (lv_at hl 1 rfl) ?_
  refine lv_iload_n X.x X.b dL_recap_5 rfl (lv_at hl 2 rfl) ?_
  refine lv_iload_n X.x X.b dL_recap_6 rfl (lv_at hl 3 rfl) ?_
  refine x_callV_G Y Z hl (mX6_recap l hT Δ ad reached lost size plots cliffs words needs told rea wread ltold lout sets oldest kept rows len codes gpl gps gcl gwo x1 x2 x3 hf) wd_798 wd_799 wd_800 wd_61 wd_801 ok_X6_recap 6 rfl 1 rfl List.perm_append_comm rfl (rest := [.int 0, .ref ao]) rfl (Nat.le_of_ble_eq_true rfl) ⟨Nat.le_of_ble_eq_true rfl, Nat.le_of_ble_eq_true rfl⟩ ⟨Nat.le_of_ble_eq_true rfl, Nat.le_of_ble_eq_true rfl⟩ dL_recap_7 (fun E ce q w9 H locs hPX Z9 g1 g2 g3 => ?_) (fun rv w1 H locs hP Z9 => ?_)
  · obtain ⟨hr, rfl⟩ := hPX
    have Z := Z9.perm List.perm_append_comm
    rcases hE E hr with rfl | rfl
    · refine vx_catch X.own [] ⟨0, 12, 15, 20⟩ [⟨0, 12, 19, 13⟩] (htab.trans rfl) (fun z hz => absurd hz List.not_mem_nil) rfl (by decide) (X.ts _ wd_580) (va_Nw.use rfl (X.K.2.1 _ (zNw_of 591 (by decide +kernel) (by decide +kernel)))) g1 g2 g3 ?_
      refine lv_astore (lv' := [(5, .ref q), (0, .ref (ad 0)), (1, .int x1), (2, .int x2), (3, .int x3), (4, .ref ao)]) X.x X.b dL_recap_15 hl (Nat.le_of_ble_eq_true rfl) rfl (fun ls hl => ?_)
      refine lv_iconst (v := 1) X.x X.b dL_recap_17 ki_1 ?_
      exact x_iret X Z (Or.inr ⟨_, hr, by decide, rfl⟩) (Nat.le_of_ble_eq_true rfl) (Nat.le_of_ble_eq_true rfl) dL_recap_18
    · refine vx_catch X.own [⟨0, 12, 15, 20⟩] ⟨0, 12, 19, 13⟩ [] (htab.trans rfl) (fun z hz => by obtain rfl := List.mem_singleton.mp hz; exact Or.inr ⟨by decide, "java/lang/IndexOutOfBoundsException", X.ts _ wd_580, X.K.2.2.2.2 ("java/lang/IllegalArgumentException", "java/lang/IndexOutOfBoundsException") (by decide +kernel)⟩) rfl (by decide) (X.ts _ wd_451) (va_Nw.use rfl (X.K.2.1 _ (zNw_of 462 (by decide +kernel) (by decide +kernel)))) g1 g2 g3 ?_
      refine lv_astore (lv' := [(5, .ref q), (0, .ref (ad 0)), (1, .int x1), (2, .int x2), (3, .int x3), (4, .ref ao)]) X.x X.b dL_recap_19 hl (Nat.le_of_ble_eq_true rfl) rfl (fun ls hl => ?_)
      refine lv_iconst (v := 2) X.x X.b dL_recap_21 ki_2 ?_
      exact x_iret X Z (Or.inr ⟨_, hr, by decide, rfl⟩) (Nat.le_of_ble_eq_true rfl) (Nat.le_of_ble_eq_true rfl) dL_recap_22
  · obtain ⟨r, hr, rfl, rfl⟩ := hP
    have Z := Z9.perm List.perm_append_comm
    refine W.eq (g2 := F0 m 10 ls [.int r, .int 0, .ref ao]) rfl ?_
    refine lv_i2l (v := (r : Int32).toInt64) X.x X.b dL_recap_10 rfl ?_
    refine z_last (w' := [(ao, .inl (Δ.2.2.2.1, 1, .inr (.inl (vp_updL out (0 : Int32).toNatClampNeg (r : Int32).toInt64))))] ++ (wX6 Δ ad reached lost size plots cliffs words needs told rea wread ltold lout sets oldest kept rows len codes gpl gps gcl gwo)) X Z 0 rfl (zvin (by decide)) rfl dL_recap_11 (fun H locs Z => ?_)
    refine lv_goto (tgt := 23) X.x X.b dL_recap_12 (by decide) ?_
    refine lv_iconst (v := 0) X.x X.b dL_recap_23 ki_0 ?_
    exact x_iret X Z (Or.inl ⟨r, hr, rfl, rfl⟩) (Nat.le_of_ble_eq_true rfl) (Nat.le_of_ble_eq_true rfl) dL_recap_24
set_option maxRecDepth 100000 in
set_option maxHeartbeats 4000000 in
theorem mL_easiest (l : Launch) (hT : l.stackTraces = false) (Δ : zE) (ad : Nat → Nat) (ao : Nat) (out : Nat → Int64) (reached : Int32) (lost : Int32) (size : Int32) (plots : Nat → Int32) (cliffs : Nat → Int32) (words : Nat → Int32) (needs : Nat → Int32) (told : Nat → Int32) (rea : Nat → Int32) (wread : Nat → Int32) (ltold : Nat → Int32) (lout : Nat → Int32) (sets : Nat → Int32) (oldest : Int32) (kept : Int32) (rows : Nat → Option Nat) (len : Int32) (codes : Nat → Int32) (gpl : Int32) (gps : Int32) (gcl : Int32) (gwo : Int32) (x1 : Int32) {res : String ⊕ Int32} (hf : fX6_easiest size words needs told rea sets x1 = some res) (hE : ∀ E, res = .inl E → E = "java/lang/IndexOutOfBoundsException") : zMX l Δ yL_easiest (.codeWith yL_easiest cL_easiest 4 (some .int) [(0, 9, 12, 20)]) 8 141 1 6 [.ref (ad 0), .int x1, .ref ao] ([(ao, .inl (Δ.2.2.2.1, 1, .inr (.inl out)))] ++ (wX6 Δ ad reached lost size plots cliffs words needs told rea wread ltold lout sets oldest kept rows len codes gpl gps gcl gwo)) (fun rv w1 => (∃ r : Int32, res = .inr r ∧ rv = some (.int 0) ∧ w1 = [(ao, .inl (Δ.2.2.2.1, 1, .inr (.inl (vp_updL out (0 : Int32).toNatClampNeg (r : Int32).toInt64))))] ++ (wX6 Δ ad reached lost size plots cliffs words needs told rea wread ltold lout sets oldest kept rows len codes gpl gps gcl gwo)) ∨ (∃ E, res = .inl E ∧ rv = some (.int 1) ∧ w1 = [(ao, .inl (Δ.2.2.2.1, 1, .inr (.inl out)))] ++ (wX6 Δ ad reached lost size plots cliffs words needs told rea wread ltold lout sets oldest kept rows len codes gpl gps gcl gwo))) (fun _ _ => False) := by
  refine x_startH hT (by decide +kernel) (Nat.le_of_ble_eq_true rfl) ?_
  intro p e s m args below meth c A ls Y htab Z hl
  have X := Y.1
  have hl : lv_has ls 4 [(0, .ref (ad 0)), (1, .int x1), (2, .ref ao)] := hl
  refine lv_aload_n X.x X.b dL_easiest_0 rfl (lv_at hl 2 rfl) ?_
  refine lv_iconst (v := 0) X.x X.b dL_easiest_1 ki_0 ?_
  refine lv_aload_n X.x X.b dL_easiest_2 rfl (lv_at hl 0 rfl) ?_
  refine lv_iload_n X.x X.b dL_easiest_3 rfl (lv_at hl 1 rfl) ?_
  refine x_callV_G Y Z hl (mX6_easiest l hT Δ ad reached lost size plots cliffs words needs told rea wread ltold lout sets oldest kept rows len codes gpl gps gcl gwo x1 hf) wd_805 wd_806 wd_807 wd_61 wd_808 ok_X6_easiest 6 rfl 1 rfl List.perm_append_comm rfl (rest := [.int 0, .ref ao]) rfl (Nat.le_of_ble_eq_true rfl) ⟨Nat.le_of_ble_eq_true rfl, Nat.le_of_ble_eq_true rfl⟩ ⟨Nat.le_of_ble_eq_true rfl, Nat.le_of_ble_eq_true rfl⟩ dL_easiest_4 (fun E ce q w9 H locs hPX Z9 g1 g2 g3 => ?_) (fun rv w1 H locs hP Z9 => ?_)
  · obtain ⟨hr, rfl⟩ := hPX
    have Z := Z9.perm List.perm_append_comm
    obtain rfl := hE E hr
    refine vx_catch X.own [] ⟨0, 9, 12, 20⟩ [] (htab.trans rfl) (fun z hz => absurd hz List.not_mem_nil) rfl (by decide) (X.ts _ wd_580) (va_Nw.use rfl (X.K.2.1 _ (zNw_of 591 (by decide +kernel) (by decide +kernel)))) g1 g2 g3 ?_
    refine lv_astore_n (lv' := [(3, .ref q), (0, .ref (ad 0)), (1, .int x1), (2, .ref ao)]) X.x X.b dL_easiest_12 rfl hl (Nat.le_of_ble_eq_true rfl) rfl (fun ls hl => ?_)
    refine lv_iconst (v := 1) X.x X.b dL_easiest_13 ki_1 ?_
    exact x_iret X Z (Or.inr ⟨_, hr, rfl, rfl⟩) (Nat.le_of_ble_eq_true rfl) (Nat.le_of_ble_eq_true rfl) dL_easiest_14
  · obtain ⟨r, hr, rfl, rfl⟩ := hP
    have Z := Z9.perm List.perm_append_comm
    refine W.eq (g2 := F0 m 7 ls [.int r, .int 0, .ref ao]) rfl ?_
    refine lv_i2l (v := (r : Int32).toInt64) X.x X.b dL_easiest_7 rfl ?_
    refine z_last (w' := [(ao, .inl (Δ.2.2.2.1, 1, .inr (.inl (vp_updL out (0 : Int32).toNatClampNeg (r : Int32).toInt64))))] ++ (wX6 Δ ad reached lost size plots cliffs words needs told rea wread ltold lout sets oldest kept rows len codes gpl gps gcl gwo)) X Z 0 rfl (zvin (by decide)) rfl dL_easiest_8 (fun H locs Z => ?_)
    refine lv_goto (tgt := 15) X.x X.b dL_easiest_9 (by decide) ?_
    refine lv_iconst (v := 0) X.x X.b dL_easiest_15 ki_0 ?_
    exact x_iret X Z (Or.inl ⟨r, hr, rfl, rfl⟩) (Nat.le_of_ble_eq_true rfl) (Nat.le_of_ble_eq_true rfl) dL_easiest_16
set_option maxRecDepth 100000 in
set_option maxHeartbeats 4000000 in
theorem mL_enough (l : Launch) (hT : l.stackTraces = false) (Δ : zE) (ad : Nat → Nat) (ao : Nat) (out : Nat → Int64) (reached : Int32) (lost : Int32) (size : Int32) (plots : Nat → Int32) (cliffs : Nat → Int32) (words : Nat → Int32) (needs : Nat → Int32) (told : Nat → Int32) (rea : Nat → Int32) (wread : Nat → Int32) (ltold : Nat → Int32) (lout : Nat → Int32) (sets : Nat → Int32) (oldest : Int32) (kept : Int32) (rows : Nat → Option Nat) (len : Int32) (codes : Nat → Int32) (gpl : Int32) (gps : Int32) (gcl : Int32) (gwo : Int32) (x1 : Int32) {res : String ⊕ Int32} (hf : fX6_enough size needs told rea x1 = some res) (hE : ∀ E, res = .inl E → E = "java/lang/IndexOutOfBoundsException") : zMX l Δ yL_enough (.codeWith yL_enough cL_enough 4 (some .int) [(0, 9, 12, 20)]) 8 131 1 6 [.ref (ad 0), .int x1, .ref ao] ([(ao, .inl (Δ.2.2.2.1, 1, .inr (.inl out)))] ++ (wX6 Δ ad reached lost size plots cliffs words needs told rea wread ltold lout sets oldest kept rows len codes gpl gps gcl gwo)) (fun rv w1 => (∃ r : Int32, res = .inr r ∧ rv = some (.int 0) ∧ w1 = [(ao, .inl (Δ.2.2.2.1, 1, .inr (.inl (vp_updL out (0 : Int32).toNatClampNeg (r : Int32).toInt64))))] ++ (wX6 Δ ad reached lost size plots cliffs words needs told rea wread ltold lout sets oldest kept rows len codes gpl gps gcl gwo)) ∨ (∃ E, res = .inl E ∧ rv = some (.int 1) ∧ w1 = [(ao, .inl (Δ.2.2.2.1, 1, .inr (.inl out)))] ++ (wX6 Δ ad reached lost size plots cliffs words needs told rea wread ltold lout sets oldest kept rows len codes gpl gps gcl gwo))) (fun _ _ => False) := by
  refine x_startH hT (by decide +kernel) (Nat.le_of_ble_eq_true rfl) ?_
  intro p e s m args below meth c A ls Y htab Z hl
  have X := Y.1
  have hl : lv_has ls 4 [(0, .ref (ad 0)), (1, .int x1), (2, .ref ao)] := hl
  refine lv_aload_n X.x X.b dL_enough_0 rfl (lv_at hl 2 rfl) ?_
  refine lv_iconst (v := 0) X.x X.b dL_enough_1 ki_0 ?_
  refine lv_aload_n X.x X.b dL_enough_2 rfl (lv_at hl 0 rfl) ?_
  refine lv_iload_n X.x X.b dL_enough_3 rfl (lv_at hl 1 rfl) ?_
  refine x_callV_G Y Z hl (mX6_enough l hT Δ ad reached lost size plots cliffs words needs told rea wread ltold lout sets oldest kept rows len codes gpl gps gcl gwo x1 hf) wd_812 wd_813 wd_814 wd_61 wd_815 ok_X6_enough 6 rfl 1 rfl List.perm_append_comm rfl (rest := [.int 0, .ref ao]) rfl (Nat.le_of_ble_eq_true rfl) ⟨Nat.le_of_ble_eq_true rfl, Nat.le_of_ble_eq_true rfl⟩ ⟨Nat.le_of_ble_eq_true rfl, Nat.le_of_ble_eq_true rfl⟩ dL_enough_4 (fun E ce q w9 H locs hPX Z9 g1 g2 g3 => ?_) (fun rv w1 H locs hP Z9 => ?_)
  · obtain ⟨hr, rfl⟩ := hPX
    have Z := Z9.perm List.perm_append_comm
    obtain rfl := hE E hr
    refine vx_catch X.own [] ⟨0, 9, 12, 20⟩ [] (htab.trans rfl) (fun z hz => absurd hz List.not_mem_nil) rfl (by decide) (X.ts _ wd_580) (va_Nw.use rfl (X.K.2.1 _ (zNw_of 591 (by decide +kernel) (by decide +kernel)))) g1 g2 g3 ?_
    refine lv_astore_n (lv' := [(3, .ref q), (0, .ref (ad 0)), (1, .int x1), (2, .ref ao)]) X.x X.b dL_enough_12 rfl hl (Nat.le_of_ble_eq_true rfl) rfl (fun ls hl => ?_)
    refine lv_iconst (v := 1) X.x X.b dL_enough_13 ki_1 ?_
    exact x_iret X Z (Or.inr ⟨_, hr, rfl, rfl⟩) (Nat.le_of_ble_eq_true rfl) (Nat.le_of_ble_eq_true rfl) dL_enough_14
  · obtain ⟨r, hr, rfl, rfl⟩ := hP
    have Z := Z9.perm List.perm_append_comm
    refine W.eq (g2 := F0 m 7 ls [.int r, .int 0, .ref ao]) rfl ?_
    refine lv_i2l (v := (r : Int32).toInt64) X.x X.b dL_enough_7 rfl ?_
    refine z_last (w' := [(ao, .inl (Δ.2.2.2.1, 1, .inr (.inl (vp_updL out (0 : Int32).toNatClampNeg (r : Int32).toInt64))))] ++ (wX6 Δ ad reached lost size plots cliffs words needs told rea wread ltold lout sets oldest kept rows len codes gpl gps gcl gwo)) X Z 0 rfl (zvin (by decide)) rfl dL_enough_8 (fun H locs Z => ?_)
    refine lv_goto (tgt := 15) X.x X.b dL_enough_9 (by decide) ?_
    refine lv_iconst (v := 0) X.x X.b dL_enough_15 ki_0 ?_
    exact x_iret X Z (Or.inl ⟨r, hr, rfl, rfl⟩) (Nat.le_of_ble_eq_true rfl) (Nat.le_of_ble_eq_true rfl) dL_enough_16
