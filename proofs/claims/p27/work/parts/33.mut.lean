set_option maxRecDepth 100000 in
set_option maxHeartbeats 4000000 in
theorem mX6_add (l : Launch) (hT : l.stackTraces = false) (Δ : zE) (ad : Nat → Nat) (reached : Int32) (lost : Int32) (size : Int32) (plots : Nat → Int32) (cliffs : Nat → Int32) (words : Nat → Int32) (needs : Nat → Int32) (told : Nat → Int32) (rea : Nat → Int32) (wread : Nat → Int32) (ltold : Nat → Int32) (lout : Nat → Int32) (sets : Nat → Int32) (len : Int32) (codes : Nat → Int32) (gpl : Int32) (gps : Int32) (gcl : Int32) (gwo : Int32) (o k n : Nat) (α : Nat → Nat → Nat) (σ : Nat → zSC) (hH : zH o k n) (x1 : Int32) (x2 : Int32) (x3 : Int32) {res : String ⊕ (Int32 × Int32 × (Nat → Int32) × (Nat → Int32) × (Nat → Int32) × (Nat → Int32))} (hf : fX6_add size plots cliffs words needs x1 x2 x3 = some res) : zMX l Δ yX6_add (.code yX6_add cX6_add 4 (some .int)) 7 111 14 133 [.ref (ad 0), .int x1, .int x2, .int x3] ((wX6 Δ ad reached lost size plots cliffs words needs told rea wread ltold lout sets (nI o) (nI k) (zRows n α) len codes gpl gps gcl gwo) ++ zPool Δ n α σ) (fun rv w1 => ∃ r : Int32 × Int32 × (Nat → Int32) × (Nat → Int32) × (Nat → Int32) × (Nat → Int32), res = .inr r ∧ rv = some (.int r.1) ∧ ∃ α1 : Nat → Nat → Nat, w1 = ((wX6 Δ ad reached lost r.2.1 r.2.2.1 r.2.2.2.1 r.2.2.2.2.1 r.2.2.2.2.2 told rea wread ltold lout sets (nI (zo o k)) (nI (zk k + 1)) (zRows (zn n (zp o k)) α1) len codes gpl gps gcl gwo) ++ zPool Δ (zn n (zp o k)) α1 (zkeep o k n σ (reached, lost, size, plots, cliffs, words, needs, told, rea, wread, ltold, lout, sets)))) (fun E w => res = .inl E ∧ w = ((wX6 Δ ad reached lost size plots cliffs words needs told rea wread ltold lout sets (nI o) (nI k) (zRows n α) len codes gpl gps gcl gwo) ++ zPool Δ n α σ)) := by
  refine x_start hT (by decide +kernel) (Nat.le_of_ble_eq_true rfl) ?_
  intro p e s m args below meth c A ls Y htab Z hl
  have X := Y.1
  have hl : lv_has ls 4 [(0, .ref (ad 0)), (1, .int x1), (2, .int x2), (3, .int x3)] := hl
  rw [fX6_add.eq_1] at hf
  refine lv_iload_n X.x X.b dX6_add_0 rfl (lv_at hl 1 rfl) ?_
  refine lv_iload_n X.x X.b dX6_add_1 rfl (lv_at hl 2 rfl) ?_
  rcases zxb_ok hf with ⟨E, hq1, hr⟩ | ⟨q1, hq1, hf⟩
  · subst hr
    exact x_callS_out Y htab Z hl (mX6_checkPlots l hT Δ  x1 x2 hq1) wd_362 wd_363 wd_19 wd_364 ok_X6_checkPlots zSub_nil rfl (rest := []) rfl (Nat.le_of_ble_eq_true rfl) ⟨Nat.le_of_ble_eq_true rfl, Nat.le_of_ble_eq_true rfl⟩ ⟨Nat.le_of_ble_eq_true rfl, Nat.le_of_ble_eq_true rfl⟩ dX6_add_2 (fun rv w h => by obtain ⟨r, h1, -⟩ := h; cases h1) (fun E w h => by obtain ⟨h1, h2⟩ := h; cases h1; exact ⟨h2, rfl, rfl⟩) (Nat.le_of_ble_eq_true rfl) (Nat.le_of_ble_eq_true rfl)
  refine x_callS_in (w' := ((wX6 Δ ad reached lost size plots cliffs words needs told rea wread ltold lout sets (nI o) (nI k) (zRows n α) len codes gpl gps gcl gwo) ++ zPool Δ n α σ)) (rv := none) Y Z hl (mX6_checkPlots l hT Δ  x1 x2 hq1) wd_362 wd_363 wd_19 wd_364 ok_X6_checkPlots zSub_nil rfl zput_nil rfl (rest := []) rfl (Nat.le_of_ble_eq_true rfl) ⟨Nat.le_of_ble_eq_true rfl, Nat.le_of_ble_eq_true rfl⟩ ⟨Nat.le_of_ble_eq_true rfl, Nat.le_of_ble_eq_true rfl⟩ (st1 := []) rfl dX6_add_2 (fun rv w h => by obtain ⟨r, h1, h2, h3⟩ := h; cases h1; exact ⟨h2, h3⟩) (fun E w h => by cases h.1) (fun H locs Z => ?_)
  refine lv_iload_n X.x X.b dX6_add_5 rfl (lv_at hl 3 rfl) ?_
  refine lv_iconst (v := 1) X.x X.b dX6_add_6 ki_1 ?_
  refine lv_icmp_lt (tgt := 16) X.x X.b dX6_add_7 (by decide) (fun b1 => ?_) (fun b1 => ?_)
  · have hf := zif_t b1 hf
    cases hf
    exact x_throw Y htab Z hl wd_297 wd_29 (is := 36) (text := "words are 1 to 99") (by decide +kernel) (ic := 38) xg_38 xn_38 xo_34_38 (by decide +kernel) (by decide +kernel) dX6_add_16 dX6_add_19 dX6_add_20 dX6_add_22 dX6_add_25 (Nat.le_of_ble_eq_true rfl) (Nat.le_of_ble_eq_true rfl) (Nat.le_of_ble_eq_true rfl) (Nat.le_of_ble_eq_true rfl) ⟨rfl, rfl⟩ (Nat.le_of_ble_eq_true rfl) (Nat.le_of_ble_eq_true rfl)
  · have hf := zif_f b1 hf
    refine lv_iload_n X.x X.b dX6_add_10 rfl (lv_at hl 3 rfl) ?_
    refine lv_bipush (v := 99) X.x X.b dX6_add_11 kb_99 ?_
    refine lv_icmp_le (tgt := 26) X.x X.b dX6_add_13 (by decide) (fun b2 => ?_) (fun b2 => ?_)
    · have hf := zif_t b2 hf
      refine lv_aload_n X.x X.b dX6_add_26 rfl (lv_at hl 0 rfl) ?_
      refine z_gf inG_X6 (ci := 6) rfl 0 (Nat.le_of_ble_eq_true rfl) rfl X Z wd_183 0 rfl (v := .ref (ad 1)) rfl dX6_add_27 ?_
      refine z_gf inG_X3 (ci := 3) rfl 0 (Nat.le_of_ble_eq_true rfl) rfl X Z wd_106 1 rfl (v := .ref (ad 2)) rfl dX6_add_30 ?_
      refine z_gf inG_X4 (ci := 4) rfl 0 (Nat.le_of_ble_eq_true rfl) rfl X Z wd_56 2 rfl (v := .int size) rfl dX6_add_33 ?_
      refine lv_bipush (v := 20) X.x X.b dX6_add_36 kb_20 ?_
      refine lv_icmp_lt (tgt := 51) X.x X.b dX6_add_38 (by decide) (fun b3 => ?_) (fun b3 => ?_)
      · have hf := zif_t b3 hf
        refine lv_aload_n X.x X.b dX6_add_51 rfl (lv_at hl 0 rfl) ?_
        refine z_gf inG_X6 (ci := 6) rfl 1 (Nat.le_of_ble_eq_true rfl) rfl X Z wd_184 0 rfl (v := .ref (ad 14)) rfl dX6_add_52 ?_
        refine lv_aload_n X.x X.b dX6_add_55 rfl (lv_at hl 0 rfl) ?_
        refine z_gf inG_X6 (ci := 6) rfl 0 (Nat.le_of_ble_eq_true rfl) rfl X Z wd_183 0 rfl (v := .ref (ad 1)) rfl dX6_add_56 ?_
        refine x_keep X Z hl hH wd_372 wd_373 wd_374 wd_23 wd_375 ok_X2_keep (rest := []) (Nat.le_of_ble_eq_true rfl) ⟨Nat.le_of_ble_eq_true rfl, Nat.le_of_ble_eq_true rfl⟩ ⟨Nat.le_of_ble_eq_true rfl, Nat.le_of_ble_eq_true rfl⟩ dX6_add_59 (fun α1 H locs Z => ?_)
        refine lv_aload_n X.x X.b dX6_add_62 rfl (lv_at hl 0 rfl) ?_
        refine z_gf inG_X6 (ci := 6) rfl 0 (Nat.le_of_ble_eq_true rfl) rfl X Z wd_183 0 rfl (v := .ref (ad 1)) rfl dX6_add_63 ?_
        refine z_gf inG_X3 (ci := 3) rfl 0 (Nat.le_of_ble_eq_true rfl) rfl X Z wd_106 1 rfl (v := .ref (ad 2)) rfl dX6_add_66 ?_
        refine lv_iload_n X.x X.b dX6_add_69 rfl (lv_at hl 1 rfl) ?_
        refine lv_iload_n X.x X.b dX6_add_70 rfl (lv_at hl 2 rfl) ?_
        refine lv_iload_n X.x X.b dX6_add_71 rfl (lv_at hl 3 rfl) ?_
        obtain ⟨q2, hq2, hf⟩ := zb_ok hf
        refine z_callV X Z hl (mX4_put l Δ (fun j => ad (j + 2)) size plots cliffs words needs x1 x2 x3 hq2) wd_378 wd_379 wd_380 wd_21 wd_381 ok_X4_put 4 rfl 2 rfl (w' := ((wX6 Δ ad reached lost q2.1 q2.2.1 q2.2.2.1 q2.2.2.2.1 q2.2.2.2.2 told rea wread ltold lout sets (nI (zo o k)) (nI (zk k + 1)) (zRows (zn n (zp o k)) α1) len codes gpl gps gcl gwo) ++ zPool Δ (zn n (zp o k)) α1 (zkeep o k n σ (reached, lost, size, plots, cliffs, words, needs, told, rea, wread, ltold, lout, sets)))) (zSub_tail su_16) fs_16 (zput_tail su_16 pu_16) rfl (rest := []) rfl (Nat.le_of_ble_eq_true rfl) ⟨Nat.le_of_ble_eq_true rfl, Nat.le_of_ble_eq_true rfl⟩ ⟨Nat.le_of_ble_eq_true rfl, Nat.le_of_ble_eq_true rfl⟩ (st1 := []) rfl dX6_add_72 (fun H locs Z => ?_)
        refine lv_aload_n X.x X.b dX6_add_75 rfl (lv_at hl 0 rfl) ?_
        refine z_gf inG_X6 (ci := 6) rfl 0 (Nat.le_of_ble_eq_true rfl) rfl X Z wd_183 0 rfl (v := .ref (ad 1)) rfl dX6_add_76 ?_
        refine z_gf inG_X3 (ci := 3) rfl 0 (Nat.le_of_ble_eq_true rfl) rfl X Z wd_106 1 rfl (v := .ref (ad 2)) rfl dX6_add_79 ?_
        refine z_gf inG_X4 (ci := 4) rfl 0 (Nat.le_of_ble_eq_true rfl) rfl X Z wd_56 2 rfl (v := .int q2.1) rfl dX6_add_82 ?_
        refine lv_iconst (v := 1) X.x X.b dX6_add_85 ki_1 ?_
        refine lv_isub X.x X.b dX6_add_86 ?_
        cases hf
        exact x_iret X Z ⟨_, rfl, rfl, _, rfl⟩ (Nat.le_of_ble_eq_true rfl) (Nat.le_of_ble_eq_true rfl) dX6_add_87
      · have hf := zif_f b3 hf
        cases hf
        exact x_throw Y htab Z hl wd_201 wd_30 (is := 53) (text := "there are 20 parts") (by decide +kernel) (ic := 55) xg_55 xn_55 xo_51_55 (by decide +kernel) (by decide +kernel) dX6_add_41 dX6_add_44 dX6_add_45 dX6_add_47 dX6_add_50 (Nat.le_of_ble_eq_true rfl) (Nat.le_of_ble_eq_true rfl) (Nat.le_of_ble_eq_true rfl) (Nat.le_of_ble_eq_true rfl) ⟨rfl, rfl⟩ (Nat.le_of_ble_eq_true rfl) (Nat.le_of_ble_eq_true rfl)
    · have hf := zif_f b2 hf
      cases hf
      exact x_throw Y htab Z hl wd_297 wd_29 (is := 36) (text := "words are 1 to 99") (by decide +kernel) (ic := 38) xg_38 xn_38 xo_34_38 (by decide +kernel) (by decide +kernel) dX6_add_16 dX6_add_19 dX6_add_20 dX6_add_22 dX6_add_25 (Nat.le_of_ble_eq_true rfl) (Nat.le_of_ble_eq_true rfl) (Nat.le_of_ble_eq_true rfl) (Nat.le_of_ble_eq_true rfl) ⟨rfl, rfl⟩ (Nat.le_of_ble_eq_true rfl) (Nat.le_of_ble_eq_true rfl)
set_option maxRecDepth 100000 in
set_option maxHeartbeats 4000000 in
theorem mX6_change (l : Launch) (hT : l.stackTraces = false) (Δ : zE) (ad : Nat → Nat) (reached : Int32) (lost : Int32) (size : Int32) (plots : Nat → Int32) (cliffs : Nat → Int32) (words : Nat → Int32) (needs : Nat → Int32) (told : Nat → Int32) (rea : Nat → Int32) (wread : Nat → Int32) (ltold : Nat → Int32) (lout : Nat → Int32) (sets : Nat → Int32) (len : Int32) (codes : Nat → Int32) (gpl : Int32) (gps : Int32) (gcl : Int32) (gwo : Int32) (o k n : Nat) (α : Nat → Nat → Nat) (σ : Nat → zSC) (hH : zH o k n) (x1 : Int32) (x2 : Int32) (x3 : Int32) {res : String ⊕ (Int32 × (Nat → Int32) × (Nat → Int32) × (Nat → Int32))} (hf : fX6_change size plots cliffs needs x1 x2 x3 = some res) : zMX l Δ yX6_change (.code yX6_change cX6_change 4 (some .int)) 7 111 15 139 [.ref (ad 0), .int x1, .int x2, .int x3] ((wX6 Δ ad reached lost size plots cliffs words needs told rea wread ltold lout sets (nI o) (nI k) (zRows n α) len codes gpl gps gcl gwo) ++ zPool Δ n α σ) (fun rv w1 => ∃ r : Int32 × (Nat → Int32) × (Nat → Int32) × (Nat → Int32), res = .inr r ∧ rv = some (.int r.1) ∧ ∃ α1 : Nat → Nat → Nat, w1 = ((wX6 Δ ad reached lost size r.2.1 r.2.2.1 words r.2.2.2 told rea wread ltold lout sets (nI (zo o k)) (nI (zk k + 1)) (zRows (zn n (zp o k)) α1) len codes gpl gps gcl gwo) ++ zPool Δ (zn n (zp o k)) α1 (zkeep o k n σ (reached, lost, size, plots, cliffs, words, needs, told, rea, wread, ltold, lout, sets)))) (fun E w => res = .inl E ∧ w = ((wX6 Δ ad reached lost size plots cliffs words needs told rea wread ltold lout sets (nI o) (nI k) (zRows n α) len codes gpl gps gcl gwo) ++ zPool Δ n α σ)) := by
  refine x_start hT (by decide +kernel) (Nat.le_of_ble_eq_true rfl) ?_
  intro p e s m args below meth c A ls Y htab Z hl
  have X := Y.1
  have hl : lv_has ls 4 [(0, .ref (ad 0)), (1, .int x1), (2, .int x2), (3, .int x3)] := hl
  rw [fX6_change.eq_1] at hf
  refine lv_aload_n X.x X.b dX6_change_0 rfl (lv_at hl 0 rfl) ?_
  refine lv_iload_n X.x X.b dX6_change_1 rfl (lv_at hl 1 rfl) ?_
  rcases zxb_ok hf with ⟨E, hq1, hr⟩ | ⟨q1, hq1, hf⟩
  · subst hr
    exact x_callV_out Y htab Z hl (mX6_checkPart l hT Δ ad reached lost size plots cliffs words needs told rea wread ltold lout sets (nI o) (nI k) (zRows n α) len codes gpl gps gcl gwo x1 hq1) wd_390 wd_392 wd_3 wd_19 wd_393 ok_X6_checkPart 6 rfl 0 rfl (zSub_tail su_13) rfl (rest := []) rfl (Nat.le_of_ble_eq_true rfl) ⟨Nat.le_of_ble_eq_true rfl, Nat.le_of_ble_eq_true rfl⟩ ⟨Nat.le_of_ble_eq_true rfl, Nat.le_of_ble_eq_true rfl⟩ dX6_change_2 (fun rv w h => by obtain ⟨r, h1, -⟩ := h; cases h1) (fun E w h => by obtain ⟨h1, h2⟩ := h; cases h1; exact ⟨h2, rfl, rfl⟩) (Nat.le_of_ble_eq_true rfl) (Nat.le_of_ble_eq_true rfl)
  refine x_callV_in (w' := ((wX6 Δ ad reached lost size plots cliffs words needs told rea wread ltold lout sets (nI o) (nI k) (zRows n α) len codes gpl gps gcl gwo) ++ zPool Δ n α σ)) (rv := none) Y Z hl (mX6_checkPart l hT Δ ad reached lost size plots cliffs words needs told rea wread ltold lout sets (nI o) (nI k) (zRows n α) len codes gpl gps gcl gwo x1 hq1) wd_390 wd_392 wd_3 wd_19 wd_393 ok_X6_checkPart 6 rfl 0 rfl (zSub_tail su_13) fs_13 (zput_tail su_13 pu_13) rfl (rest := []) rfl (Nat.le_of_ble_eq_true rfl) ⟨Nat.le_of_ble_eq_true rfl, Nat.le_of_ble_eq_true rfl⟩ ⟨Nat.le_of_ble_eq_true rfl, Nat.le_of_ble_eq_true rfl⟩ (st1 := []) rfl dX6_change_2 (fun rv w h => by obtain ⟨r, h1, h2, h3⟩ := h; cases h1; exact ⟨h2, h3⟩) (fun E w h => by cases h.1) (fun H locs Z => ?_)
  refine lv_iload_n X.x X.b dX6_change_5 rfl (lv_at hl 2 rfl) ?_
  refine lv_iload_n X.x X.b dX6_change_6 rfl (lv_at hl 3 rfl) ?_
  rcases zxb_ok hf with ⟨E, hq2, hr⟩ | ⟨q2, hq2, hf⟩
  · subst hr
    exact x_callS_out Y htab Z hl (mX6_checkPlots l hT Δ  x2 x3 hq2) wd_362 wd_363 wd_19 wd_364 ok_X6_checkPlots zSub_nil rfl (rest := []) rfl (Nat.le_of_ble_eq_true rfl) ⟨Nat.le_of_ble_eq_true rfl, Nat.le_of_ble_eq_true rfl⟩ ⟨Nat.le_of_ble_eq_true rfl, Nat.le_of_ble_eq_true rfl⟩ dX6_change_7 (fun rv w h => by obtain ⟨r, h1, -⟩ := h; cases h1) (fun E w h => by obtain ⟨h1, h2⟩ := h; cases h1; exact ⟨h2, rfl, rfl⟩) (Nat.le_of_ble_eq_true rfl) (Nat.le_of_ble_eq_true rfl)
  refine x_callS_in (w' := ((wX6 Δ ad reached lost size plots cliffs words needs told rea wread ltold lout sets (nI o) (nI k) (zRows n α) len codes gpl gps gcl gwo) ++ zPool Δ n α σ)) (rv := none) Y Z hl (mX6_checkPlots l hT Δ  x2 x3 hq2) wd_362 wd_363 wd_19 wd_364 ok_X6_checkPlots zSub_nil rfl zput_nil rfl (rest := []) rfl (Nat.le_of_ble_eq_true rfl) ⟨Nat.le_of_ble_eq_true rfl, Nat.le_of_ble_eq_true rfl⟩ ⟨Nat.le_of_ble_eq_true rfl, Nat.le_of_ble_eq_true rfl⟩ (st1 := []) rfl dX6_change_7 (fun rv w h => by obtain ⟨r, h1, h2, h3⟩ := h; cases h1; exact ⟨h2, h3⟩) (fun E w h => by cases h.1) (fun H locs Z => ?_)
  refine lv_aload_n X.x X.b dX6_change_10 rfl (lv_at hl 0 rfl) ?_
  refine z_gf inG_X6 (ci := 6) rfl 1 (Nat.le_of_ble_eq_true rfl) rfl X Z wd_184 0 rfl (v := .ref (ad 14)) rfl dX6_change_11 ?_
  refine lv_aload_n X.x X.b dX6_change_14 rfl (lv_at hl 0 rfl) ?_
  refine z_gf inG_X6 (ci := 6) rfl 0 (Nat.le_of_ble_eq_true rfl) rfl X Z wd_183 0 rfl (v := .ref (ad 1)) rfl dX6_change_15 ?_
  refine x_keep X Z hl hH wd_372 wd_373 wd_374 wd_23 wd_375 ok_X2_keep (rest := []) (Nat.le_of_ble_eq_true rfl) ⟨Nat.le_of_ble_eq_true rfl, Nat.le_of_ble_eq_true rfl⟩ ⟨Nat.le_of_ble_eq_true rfl, Nat.le_of_ble_eq_true rfl⟩ dX6_change_18 (fun α1 H locs Z => ?_)
  refine lv_aload_n X.x X.b dX6_change_21 rfl (lv_at hl 0 rfl) ?_
  refine z_gf inG_X6 (ci := 6) rfl 0 (Nat.le_of_ble_eq_true rfl) rfl X Z wd_183 0 rfl (v := .ref (ad 1)) rfl dX6_change_22 ?_
  refine z_gf inG_X3 (ci := 3) rfl 0 (Nat.le_of_ble_eq_true rfl) rfl X Z wd_106 1 rfl (v := .ref (ad 2)) rfl dX6_change_25 ?_
  refine lv_iload_n X.x X.b dX6_change_28 rfl (lv_at hl 1 rfl) ?_
  refine lv_iload_n X.x X.b dX6_change_29 rfl (lv_at hl 2 rfl) ?_
  refine lv_iload_n X.x X.b dX6_change_30 rfl (lv_at hl 3 rfl) ?_
  obtain ⟨q3, hq3, hf⟩ := zb_ok hf
  refine z_callV X Z hl (mX4_rewrite l Δ (fun j => ad (j + 2)) size plots cliffs words needs x1 x2 x3 hq3) wd_410 wd_411 wd_412 wd_21 wd_413 ok_X4_rewrite 4 rfl 2 rfl (w' := ((wX6 Δ ad reached lost size q3.2.1 q3.2.2.1 words q3.2.2.2 told rea wread ltold lout sets (nI (zo o k)) (nI (zk k + 1)) (zRows (zn n (zp o k)) α1) len codes gpl gps gcl gwo) ++ zPool Δ (zn n (zp o k)) α1 (zkeep o k n σ (reached, lost, size, plots, cliffs, words, needs, told, rea, wread, ltold, lout, sets)))) (zSub_tail su_16) fs_16 (zput_tail su_16 pu_16) rfl (rest := []) rfl (Nat.le_of_ble_eq_true rfl) ⟨Nat.le_of_ble_eq_true rfl, Nat.le_of_ble_eq_true rfl⟩ ⟨Nat.le_of_ble_eq_true rfl, Nat.le_of_ble_eq_true rfl⟩ (st1 := [.int q3.1]) rfl dX6_change_31 (fun H locs Z => ?_)
  cases hf
  exact x_iret X Z ⟨_, rfl, rfl, _, rfl⟩ (Nat.le_of_ble_eq_true rfl) (Nat.le_of_ble_eq_true rfl) dX6_change_34
set_option maxRecDepth 100000 in
set_option maxHeartbeats 4000000 in
theorem mX6_removeLast (l : Launch) (hT : l.stackTraces = false) (Δ : zE) (ad : Nat → Nat) (reached : Int32) (lost : Int32) (size : Int32) (plots : Nat → Int32) (cliffs : Nat → Int32) (words : Nat → Int32) (needs : Nat → Int32) (told : Nat → Int32) (rea : Nat → Int32) (wread : Nat → Int32) (ltold : Nat → Int32) (lout : Nat → Int32) (sets : Nat → Int32) (len : Int32) (codes : Nat → Int32) (gpl : Int32) (gps : Int32) (gcl : Int32) (gwo : Int32) (o k n : Nat) (α : Nat → Nat → Nat) (σ : Nat → zSC) (hH : zH o k n)  {res : String ⊕ (Int32 × Int32 × (Nat → Int32) × (Nat → Int32))} (hf : fX6_removeLast size told rea = some res) : zMX l Δ yX6_removeLast (.code yX6_removeLast cX6_removeLast 3 (some .int)) 6 105 13 127 [.ref (ad 0)] ((wX6 Δ ad reached lost size plots cliffs words needs told rea wread ltold lout sets (nI o) (nI k) (zRows n α) len codes gpl gps gcl gwo) ++ zPool Δ n α σ) (fun rv w1 => ∃ r : Int32 × Int32 × (Nat → Int32) × (Nat → Int32), res = .inr r ∧ rv = some (.int r.1) ∧ ∃ α1 : Nat → Nat → Nat, w1 = ((wX6 Δ ad reached lost r.2.1 plots cliffs words needs r.2.2.1 r.2.2.2 wread ltold lout sets (nI (zo o k)) (nI (zk k + 1)) (zRows (zn n (zp o k)) α1) len codes gpl gps gcl gwo) ++ zPool Δ (zn n (zp o k)) α1 (zkeep o k n σ (reached, lost, size, plots, cliffs, words, needs, told, rea, wread, ltold, lout, sets)))) (fun E w => res = .inl E ∧ w = ((wX6 Δ ad reached lost size plots cliffs words needs told rea wread ltold lout sets (nI o) (nI k) (zRows n α) len codes gpl gps gcl gwo) ++ zPool Δ n α σ)) := by
  refine x_start hT (by decide +kernel) (Nat.le_of_ble_eq_true rfl) ?_
  intro p e s m args below meth c A ls Y htab Z hl
  have X := Y.1
  have hl : lv_has ls 3 [(0, .ref (ad 0))] := hl
  rw [fX6_removeLast.eq_1] at hf
  refine lv_aload_n X.x X.b dX6_removeLast_0 rfl (lv_at hl 0 rfl) ?_
  refine z_gf inG_X6 (ci := 6) rfl 0 (Nat.le_of_ble_eq_true rfl) rfl X Z wd_183 0 rfl (v := .ref (ad 1)) rfl dX6_removeLast_1 ?_
  refine z_gf inG_X3 (ci := 3) rfl 0 (Nat.le_of_ble_eq_true rfl) rfl X Z wd_106 1 rfl (v := .ref (ad 2)) rfl dX6_removeLast_4 ?_
  refine z_gf inG_X4 (ci := 4) rfl 0 (Nat.le_of_ble_eq_true rfl) rfl X Z wd_56 2 rfl (v := .int size) rfl dX6_removeLast_7 ?_
  refine lv_iconst (v := 1) X.x X.b dX6_removeLast_10 ki_1 ?_
  refine lv_icmp_ge (tgt := 24) X.x X.b dX6_removeLast_11 (by decide) (fun b1 => ?_) (fun b1 => ?_)
  · have hf := zif_t b1 hf
    refine lv_aload_n X.x X.b dX6_removeLast_24 rfl (lv_at hl 0 rfl) ?_
    refine z_gf inG_X6 (ci := 6) rfl 1 (Nat.le_of_ble_eq_true rfl) rfl X Z wd_184 0 rfl (v := .ref (ad 14)) rfl dX6_removeLast_25 ?_
    refine lv_aload_n X.x X.b dX6_removeLast_28 rfl (lv_at hl 0 rfl) ?_
    refine z_gf inG_X6 (ci := 6) rfl 0 (Nat.le_of_ble_eq_true rfl) rfl X Z wd_183 0 rfl (v := .ref (ad 1)) rfl dX6_removeLast_29 ?_
    refine x_keep X Z hl hH wd_372 wd_373 wd_374 wd_23 wd_375 ok_X2_keep (rest := []) (Nat.le_of_ble_eq_true rfl) ⟨Nat.le_of_ble_eq_true rfl, Nat.le_of_ble_eq_true rfl⟩ ⟨Nat.le_of_ble_eq_true rfl, Nat.le_of_ble_eq_true rfl⟩ dX6_removeLast_32 (fun α1 H locs Z => ?_)
    refine lv_aload_n X.x X.b dX6_removeLast_35 rfl (lv_at hl 0 rfl) ?_
    refine z_gf inG_X6 (ci := 6) rfl 0 (Nat.le_of_ble_eq_true rfl) rfl X Z wd_183 0 rfl (v := .ref (ad 1)) rfl dX6_removeLast_36 ?_
    refine z_gf inG_X3 (ci := 3) rfl 0 (Nat.le_of_ble_eq_true rfl) rfl X Z wd_106 1 rfl (v := .ref (ad 2)) rfl dX6_removeLast_39 ?_
    refine z_gf inG_X4 (ci := 4) rfl 0 (Nat.le_of_ble_eq_true rfl) rfl X Z wd_56 2 rfl (v := .int size) rfl dX6_removeLast_42 ?_
    refine lv_iconst (v := 1) X.x X.b dX6_removeLast_45 ki_1 ?_
    refine lv_isub X.x X.b dX6_removeLast_46 ?_
    refine lv_istore_n (lv' := [(1, .int (size - 1)), (0, .ref (ad 0))]) X.x X.b dX6_removeLast_47 rfl hl (Nat.le_of_ble_eq_true rfl) rfl (fun ls hl => ?_)
    refine lv_aload_n X.x X.b dX6_removeLast_48 rfl (lv_at hl 1 rfl) ?_
    refine z_gf inG_X6 (ci := 6) rfl 0 (Nat.le_of_ble_eq_true rfl) rfl X Z wd_183 0 rfl (v := .ref (ad 1)) rfl dX6_removeLast_49 ?_
    refine z_gf inG_X3 (ci := 3) rfl 1 (Nat.le_of_ble_eq_true rfl) rfl X Z wd_108 1 rfl (v := .ref (ad 7)) rfl dX6_removeLast_52 ?_
    refine lv_iload_n X.x X.b dX6_removeLast_55 rfl (lv_at hl 0 rfl) ?_
    obtain ⟨q1, hq1, hf⟩ := zb_ok hf
    refine z_callV X Z hl (mX0_whoRead l Δ (fun j => ad (j + 7)) told rea wread ltold lout (size - 1) hq1) wd_419 wd_420 wd_421 wd_22 wd_422 ok_X0_whoRead 0 rfl 7 rfl (w' := ((wX6 Δ ad reached lost size plots cliffs words needs told rea wread ltold lout sets (nI (zo o k)) (nI (zk k + 1)) (zRows (zn n (zp o k)) α1) len codes gpl gps gcl gwo) ++ zPool Δ (zn n (zp o k)) α1 (zkeep o k n σ (reached, lost, size, plots, cliffs, words, needs, told, rea, wread, ltold, lout, sets)))) (zSub_tail su_15) fs_15 (zput_tail su_15 pu_15) rfl (rest := []) rfl (Nat.le_of_ble_eq_true rfl) ⟨Nat.le_of_ble_eq_true rfl, Nat.le_of_ble_eq_true rfl⟩ ⟨Nat.le_of_ble_eq_true rfl, Nat.le_of_ble_eq_true rfl⟩ (st1 := [.int q1]) rfl dX6_removeLast_56 (fun H locs Z => ?_)
    obtain ⟨q2, hq2, hf⟩ := zb_ok hf
    refine z_callS X Z hl (mJ6_bitCount_0f7a4 l Δ  q1 hq2) wd_428 wd_429 wd_33 wd_430 ok_J6_bitCount_0f7a4 (w' := ((wX6 Δ ad reached lost size plots cliffs words needs told rea wread ltold lout sets (nI (zo o k)) (nI (zk k + 1)) (zRows (zn n (zp o k)) α1) len codes gpl gps gcl gwo) ++ zPool Δ (zn n (zp o k)) α1 (zkeep o k n σ (reached, lost, size, plots, cliffs, words, needs, told, rea, wread, ltold, lout, sets)))) zSub_nil rfl zput_nil rfl (rest := []) rfl (Nat.le_of_ble_eq_true rfl) ⟨Nat.le_of_ble_eq_true rfl, Nat.le_of_ble_eq_true rfl⟩ ⟨Nat.le_of_ble_eq_true rfl, Nat.le_of_ble_eq_true rfl⟩ (st1 := [.int q2]) rfl dX6_removeLast_59 (fun H locs Z => ?_)
    refine lv_istore_n (lv' := [(2, .int q2), (1, .int (size - 1)), (0, .ref (ad 0))]) X.x X.b dX6_removeLast_62 rfl hl (Nat.le_of_ble_eq_true rfl) rfl (fun ls hl => ?_)
    refine lv_aload_n X.x X.b dX6_removeLast_63 rfl (lv_at hl 2 rfl) ?_
    refine z_gf inG_X6 (ci := 6) rfl 0 (Nat.le_of_ble_eq_true rfl) rfl X Z wd_183 0 rfl (v := .ref (ad 1)) rfl dX6_removeLast_64 ?_
    refine z_gf inG_X3 (ci := 3) rfl 1 (Nat.le_of_ble_eq_true rfl) rfl X Z wd_108 1 rfl (v := .ref (ad 7)) rfl dX6_removeLast_67 ?_
    refine lv_iload_n X.x X.b dX6_removeLast_70 rfl (lv_at hl 1 rfl) ?_
    obtain ⟨q3, hq3, hf⟩ := zb_ok hf
    refine z_callV X Z hl (mX0_dropPart l Δ (fun j => ad (j + 7)) told rea wread ltold lout (size - 1) hq3) wd_434 wd_435 wd_436 wd_22 wd_437 ok_X0_dropPart 0 rfl 7 rfl (w' := ((wX6 Δ ad reached lost size plots cliffs words needs q3.1 q3.2 wread ltold lout sets (nI (zo o k)) (nI (zk k + 1)) (zRows (zn n (zp o k)) α1) len codes gpl gps gcl gwo) ++ zPool Δ (zn n (zp o k)) α1 (zkeep o k n σ (reached, lost, size, plots, cliffs, words, needs, told, rea, wread, ltold, lout, sets)))) (zSub_tail su_15) fs_15 (zput_tail su_15 pu_15) rfl (rest := []) rfl (Nat.le_of_ble_eq_true rfl) ⟨Nat.le_of_ble_eq_true rfl, Nat.le_of_ble_eq_true rfl⟩ ⟨Nat.le_of_ble_eq_true rfl, Nat.le_of_ble_eq_true rfl⟩ (st1 := []) rfl dX6_removeLast_71 (fun H locs Z => ?_)
    refine lv_aload_n X.x X.b dX6_removeLast_74 rfl (lv_at hl 2 rfl) ?_
    refine z_gf inG_X6 (ci := 6) rfl 0 (Nat.le_of_ble_eq_true rfl) rfl X Z wd_183 0 rfl (v := .ref (ad 1)) rfl dX6_removeLast_75 ?_
    refine z_gf inG_X3 (ci := 3) rfl 0 (Nat.le_of_ble_eq_true rfl) rfl X Z wd_106 1 rfl (v := .ref (ad 2)) rfl dX6_removeLast_78 ?_
    refine lv_iload_n X.x X.b dX6_removeLast_81 rfl (lv_at hl 1 rfl) ?_
    refine z_pf (w' := ((wX6 Δ ad reached lost (size - 1) plots cliffs words needs q3.1 q3.2 wread ltold lout sets (nI (zo o k)) (nI (zk k + 1)) (zRows (zn n (zp o k)) α1) len codes gpl gps gcl gwo) ++ zPool Δ (zn n (zp o k)) α1 (zkeep o k n σ (reached, lost, size, plots, cliffs, words, needs, told, rea, wread, ltold, lout, sets)))) inG_X4 (ci := 4) rfl tyX4 tyX4_ok nmX4 0 (Nat.le_of_ble_eq_true rfl) rfl rfl X Z wd_56 2 rfl rfl rfl (Nat.le_of_ble_eq_true rfl) rfl dX6_removeLast_82 (fun H locs Z => ?_)
    refine lv_iload_n X.x X.b dX6_removeLast_85 rfl (lv_at hl 0 rfl) ?_
    cases hf
    exact x_iret X Z ⟨_, rfl, rfl, _, rfl⟩ (Nat.le_of_ble_eq_true rfl) (Nat.le_of_ble_eq_true rfl) dX6_removeLast_86
  · have hf := zif_f b1 hf
    cases hf
    exact x_throw Y htab Z hl wd_201 wd_30 (is := 72) (text := "there are no parts") (by decide +kernel) (ic := 55) xg_55 xn_55 xo_51_55 (by decide +kernel) (by decide +kernel) dX6_removeLast_14 dX6_removeLast_17 dX6_removeLast_18 dX6_removeLast_20 dX6_removeLast_23 (Nat.le_of_ble_eq_true rfl) (Nat.le_of_ble_eq_true rfl) (Nat.le_of_ble_eq_true rfl) (Nat.le_of_ble_eq_true rfl) ⟨rfl, rfl⟩ (Nat.le_of_ble_eq_true rfl) (Nat.le_of_ble_eq_true rfl)
set_option maxRecDepth 100000 in
set_option maxHeartbeats 4000000 in
theorem mX6_set (l : Launch) (hT : l.stackTraces = false) (Δ : zE) (ad : Nat → Nat) (reached : Int32) (lost : Int32) (size : Int32) (plots : Nat → Int32) (cliffs : Nat → Int32) (words : Nat → Int32) (needs : Nat → Int32) (told : Nat → Int32) (rea : Nat → Int32) (wread : Nat → Int32) (ltold : Nat → Int32) (lout : Nat → Int32) (sets : Nat → Int32) (len : Int32) (codes : Nat → Int32) (gpl : Int32) (gps : Int32) (gcl : Int32) (gwo : Int32) (o k n : Nat) (α : Nat → Nat → Nat) (σ : Nat → zSC) (hH : zH o k n) (x1 : Int32) (x2 : Int32) {res : String ⊕ (Int32 × (Nat → Int32))} (hf : fX6_set sets x1 x2 = some res) : zMX l Δ yX6_set (.code yX6_set cX6_set 6 (some .int)) 7 110 14 133 [.ref (ad 0), .int x1, .int x2] ((wX6 Δ ad reached lost size plots cliffs words needs told rea wread ltold lout sets (nI o) (nI k) (zRows n α) len codes gpl gps gcl gwo) ++ zPool Δ n α σ) (fun rv w1 => ∃ r : Int32 × (Nat → Int32), res = .inr r ∧ rv = some (.int r.1) ∧ ∃ α1 : Nat → Nat → Nat, w1 = ((wX6 Δ ad reached lost size plots cliffs words needs told rea wread ltold lout r.2 (nI (zo o k)) (nI (zk k + 1)) (zRows (zn n (zp o k)) α1) len codes gpl gps gcl gwo) ++ zPool Δ (zn n (zp o k)) α1 (zkeep o k n σ (reached, lost, size, plots, cliffs, words, needs, told, rea, wread, ltold, lout, sets)))) (fun E w => res = .inl E ∧ w = ((wX6 Δ ad reached lost size plots cliffs words needs told rea wread ltold lout sets (nI o) (nI k) (zRows n α) len codes gpl gps gcl gwo) ++ zPool Δ n α σ)) := by
  refine x_start hT (by decide +kernel) (Nat.le_of_ble_eq_true rfl) ?_
  intro p e s m args below meth c A ls Y htab Z hl
  have X := Y.1
  have hl : lv_has ls 6 [(0, .ref (ad 0)), (1, .int x1), (2, .int x2)] := hl
  rw [fX6_set.eq_1] at hf
  refine lv_iload_n X.x X.b dX6_set_0 rfl (lv_at hl 1 rfl) ?_
  rcases zxb_ok hf with ⟨E, hq1, hr⟩ | ⟨q1, hq1, hf⟩
  · subst hr
    exact x_callS_out Y htab Z hl (mX6_checkSetting l hT Δ  x1 hq1) wd_442 wd_443 wd_19 wd_444 ok_X6_checkSetting zSub_nil rfl (rest := []) rfl (Nat.le_of_ble_eq_true rfl) ⟨Nat.le_of_ble_eq_true rfl, Nat.le_of_ble_eq_true rfl⟩ ⟨Nat.le_of_ble_eq_true rfl, Nat.le_of_ble_eq_true rfl⟩ dX6_set_1 (fun rv w h => by obtain ⟨r, h1, -⟩ := h; cases h1) (fun E w h => by obtain ⟨h1, h2⟩ := h; cases h1; exact ⟨h2, rfl, rfl⟩) (Nat.le_of_ble_eq_true rfl) (Nat.le_of_ble_eq_true rfl)
  refine x_callS_in (w' := ((wX6 Δ ad reached lost size plots cliffs words needs told rea wread ltold lout sets (nI o) (nI k) (zRows n α) len codes gpl gps gcl gwo) ++ zPool Δ n α σ)) (rv := none) Y Z hl (mX6_checkSetting l hT Δ  x1 hq1) wd_442 wd_443 wd_19 wd_444 ok_X6_checkSetting zSub_nil rfl zput_nil rfl (rest := []) rfl (Nat.le_of_ble_eq_true rfl) ⟨Nat.le_of_ble_eq_true rfl, Nat.le_of_ble_eq_true rfl⟩ ⟨Nat.le_of_ble_eq_true rfl, Nat.le_of_ble_eq_true rfl⟩ (st1 := []) rfl dX6_set_1 (fun rv w h => by obtain ⟨r, h1, h2, h3⟩ := h; cases h1; exact ⟨h2, h3⟩) (fun E w h => by cases h.1) (fun H locs Z => ?_)
  refine lv_iload_n X.x X.b dX6_set_4 rfl (lv_at hl 1 rfl) ?_
  refine lv_if_ne (tgt := 12) X.x X.b dX6_set_5 (by decide) (fun b1 => ?_) (fun b1 => ?_)
  · have hf := zif_f b1 hf
    refine lv_iconst (v := 1) X.x X.b dX6_set_12 ki_1 ?_
    refine lv_istore_n (lv' := [(3, .int 1), (0, .ref (ad 0)), (1, .int x1), (2, .int x2)]) X.x X.b dX6_set_13 rfl hl (Nat.le_of_ble_eq_true rfl) rfl (fun ls hl => ?_)
    refine lv_iload_n X.x X.b dX6_set_14 rfl (lv_at hl 2 rfl) ?_
    refine lv_if_ne (tgt := 23) X.x X.b dX6_set_15 (by decide) (fun b2 => ?_) (fun b2 => ?_)
    · have hf := zif_f b2 hf
      refine lv_bipush (v := 20) X.x X.b dX6_set_23 kb_20 ?_
      refine lv_istore (lv' := [(4, .int 20), (3, .int 1), (0, .ref (ad 0)), (1, .int x1), (2, .int x2)]) X.x X.b dX6_set_25 hl (Nat.le_of_ble_eq_true rfl) rfl (fun ls hl => ?_)
      refine lv_iload_n X.x X.b dX6_set_27 rfl (lv_at hl 4 rfl) ?_
      refine lv_iload_n X.x X.b dX6_set_28 rfl (lv_at hl 1 rfl) ?_
      refine lv_icmp_lt (tgt := 38) X.x X.b dX6_set_29 (by decide) (fun b3 => ?_) (fun b3 => ?_)
      · have hf := zif_t b3 hf
        cases hf
        exact x_throw Y htab Z hl wd_297 wd_29 (is := 95) (text := "the value is out of range") (by decide +kernel) (ic := 38) xg_38 xn_38 xo_34_38 (by decide +kernel) (by decide +kernel) dX6_set_38 dX6_set_41 dX6_set_42 dX6_set_44 dX6_set_47 (Nat.le_of_ble_eq_true rfl) (Nat.le_of_ble_eq_true rfl) (Nat.le_of_ble_eq_true rfl) (Nat.le_of_ble_eq_true rfl) ⟨rfl, rfl⟩ (Nat.le_of_ble_eq_true rfl) (Nat.le_of_ble_eq_true rfl)
      · have hf := zif_f b3 hf
        refine lv_iload_n X.x X.b dX6_set_32 rfl (lv_at hl 4 rfl) ?_
        refine lv_iload X.x X.b dX6_set_33 (lv_at hl 0 rfl) ?_
        refine lv_icmp_le (tgt := 48) X.x X.b dX6_set_35 (by decide) (fun b4 => ?_) (fun b4 => ?_)
        · have hf := zif_t b4 hf
          refine lv_aload_n X.x X.b dX6_set_48 rfl (lv_at hl 2 rfl) ?_
          refine z_gf inG_X6 (ci := 6) rfl 1 (Nat.le_of_ble_eq_true rfl) rfl X Z wd_184 0 rfl (v := .ref (ad 14)) rfl dX6_set_49 ?_
          refine lv_aload_n X.x X.b dX6_set_52 rfl (lv_at hl 2 rfl) ?_
          refine z_gf inG_X6 (ci := 6) rfl 0 (Nat.le_of_ble_eq_true rfl) rfl X Z wd_183 0 rfl (v := .ref (ad 1)) rfl dX6_set_53 ?_
          refine x_keep X Z hl hH wd_372 wd_373 wd_374 wd_23 wd_375 ok_X2_keep (rest := []) (Nat.le_of_ble_eq_true rfl) ⟨Nat.le_of_ble_eq_true rfl, Nat.le_of_ble_eq_true rfl⟩ ⟨Nat.le_of_ble_eq_true rfl, Nat.le_of_ble_eq_true rfl⟩ dX6_set_56 (fun α1 H locs Z => ?_)
          refine lv_aload_n X.x X.b dX6_set_59 rfl (lv_at hl 2 rfl) ?_
          refine z_gf inG_X6 (ci := 6) rfl 0 (Nat.le_of_ble_eq_true rfl) rfl X Z wd_183 0 rfl (v := .ref (ad 1)) rfl dX6_set_60 ?_
          refine z_gf inG_X3 (ci := 3) rfl 2 (Nat.le_of_ble_eq_true rfl) rfl X Z wd_110 1 rfl (v := .ref (ad 13)) rfl dX6_set_63 ?_
          refine lv_iload_n X.x X.b dX6_set_66 rfl (lv_at hl 3 rfl) ?_
          obtain ⟨b5, hf⟩ := zg_in hf
          refine z_iald X Z 13 rfl b5 dX6_set_67 ?_
          refine lv_istore (lv' := [(5, .int (sets x1.toNatClampNeg)), (4, .int 20), (3, .int 1), (0, .ref (ad 0)), (1, .int x1), (2, .int x2)]) X.x X.b dX6_set_68 hl (Nat.le_of_ble_eq_true rfl) rfl (fun ls hl => ?_)
          refine lv_aload_n X.x X.b dX6_set_70 rfl (lv_at hl 3 rfl) ?_
          refine z_gf inG_X6 (ci := 6) rfl 0 (Nat.le_of_ble_eq_true rfl) rfl X Z wd_183 0 rfl (v := .ref (ad 1)) rfl dX6_set_71 ?_
          refine z_gf inG_X3 (ci := 3) rfl 2 (Nat.le_of_ble_eq_true rfl) rfl X Z wd_110 1 rfl (v := .ref (ad 13)) rfl dX6_set_74 ?_
          refine lv_iload_n X.x X.b dX6_set_77 rfl (lv_at hl 4 rfl) ?_
          refine lv_iload_n X.x X.b dX6_set_78 rfl (lv_at hl 5 rfl) ?_
          obtain ⟨b6, hf⟩ := zg_in hf
          refine z_iast (w' := ((wX6 Δ ad reached lost size plots cliffs words needs told rea wread ltold lout (upd sets x1.toNatClampNeg x2) (nI (zo o k)) (nI (zk k + 1)) (zRows (zn n (zp o k)) α1) len codes gpl gps gcl gwo) ++ zPool Δ (zn n (zp o k)) α1 (zkeep o k n σ (reached, lost, size, plots, cliffs, words, needs, told, rea, wread, ltold, lout, sets)))) X Z 13 rfl b6 rfl dX6_set_79 (fun H locs Z => ?_)
          refine lv_iload X.x X.b dX6_set_80 (lv_at hl 0 rfl) ?_
          cases hf
          exact x_iret X Z ⟨_, rfl, rfl, _, rfl⟩ (Nat.le_of_ble_eq_true rfl) (Nat.le_of_ble_eq_true rfl) dX6_set_82
        · have hf := zif_f b4 hf
          cases hf
          exact x_throw Y htab Z hl wd_297 wd_29 (is := 95) (text := "the value is out of range") (by decide +kernel) (ic := 38) xg_38 xn_38 xo_34_38 (by decide +kernel) (by decide +kernel) dX6_set_38 dX6_set_41 dX6_set_42 dX6_set_44 dX6_set_47 (Nat.le_of_ble_eq_true rfl) (Nat.le_of_ble_eq_true rfl) (Nat.le_of_ble_eq_true rfl) (Nat.le_of_ble_eq_true rfl) ⟨rfl, rfl⟩ (Nat.le_of_ble_eq_true rfl) (Nat.le_of_ble_eq_true rfl)
    · have hf := zif_t b2 hf
      refine lv_bipush (v := 19) X.x X.b dX6_set_18 kb_19 ?_
      refine lv_goto (tgt := 25) X.x X.b dX6_set_20 (by decide) ?_
      refine lv_istore (lv' := [(4, .int 19), (3, .int 1), (0, .ref (ad 0)), (1, .int x1), (2, .int x2)]) X.x X.b dX6_set_25 hl (Nat.le_of_ble_eq_true rfl) rfl (fun ls hl => ?_)
      refine lv_iload_n X.x X.b dX6_set_27 rfl (lv_at hl 4 rfl) ?_
      refine lv_iload_n X.x X.b dX6_set_28 rfl (lv_at hl 1 rfl) ?_
      refine lv_icmp_lt (tgt := 38) X.x X.b dX6_set_29 (by decide) (fun b7 => ?_) (fun b7 => ?_)
      · have hf := zif_t b7 hf
        cases hf
        exact x_throw Y htab Z hl wd_297 wd_29 (is := 95) (text := "the value is out of range") (by decide +kernel) (ic := 38) xg_38 xn_38 xo_34_38 (by decide +kernel) (by decide +kernel) dX6_set_38 dX6_set_41 dX6_set_42 dX6_set_44 dX6_set_47 (Nat.le_of_ble_eq_true rfl) (Nat.le_of_ble_eq_true rfl) (Nat.le_of_ble_eq_true rfl) (Nat.le_of_ble_eq_true rfl) ⟨rfl, rfl⟩ (Nat.le_of_ble_eq_true rfl) (Nat.le_of_ble_eq_true rfl)
      · have hf := zif_f b7 hf
        refine lv_iload_n X.x X.b dX6_set_32 rfl (lv_at hl 4 rfl) ?_
        refine lv_iload X.x X.b dX6_set_33 (lv_at hl 0 rfl) ?_
        refine lv_icmp_le (tgt := 48) X.x X.b dX6_set_35 (by decide) (fun b8 => ?_) (fun b8 => ?_)
        · have hf := zif_t b8 hf
          refine lv_aload_n X.x X.b dX6_set_48 rfl (lv_at hl 2 rfl) ?_
          refine z_gf inG_X6 (ci := 6) rfl 1 (Nat.le_of_ble_eq_true rfl) rfl X Z wd_184 0 rfl (v := .ref (ad 14)) rfl dX6_set_49 ?_
          refine lv_aload_n X.x X.b dX6_set_52 rfl (lv_at hl 2 rfl) ?_
          refine z_gf inG_X6 (ci := 6) rfl 0 (Nat.le_of_ble_eq_true rfl) rfl X Z wd_183 0 rfl (v := .ref (ad 1)) rfl dX6_set_53 ?_
          refine x_keep X Z hl hH wd_372 wd_373 wd_374 wd_23 wd_375 ok_X2_keep (rest := []) (Nat.le_of_ble_eq_true rfl) ⟨Nat.le_of_ble_eq_true rfl, Nat.le_of_ble_eq_true rfl⟩ ⟨Nat.le_of_ble_eq_true rfl, Nat.le_of_ble_eq_true rfl⟩ dX6_set_56 (fun α1 H locs Z => ?_)
          refine lv_aload_n X.x X.b dX6_set_59 rfl (lv_at hl 2 rfl) ?_
          refine z_gf inG_X6 (ci := 6) rfl 0 (Nat.le_of_ble_eq_true rfl) rfl X Z wd_183 0 rfl (v := .ref (ad 1)) rfl dX6_set_60 ?_
          refine z_gf inG_X3 (ci := 3) rfl 2 (Nat.le_of_ble_eq_true rfl) rfl X Z wd_110 1 rfl (v := .ref (ad 13)) rfl dX6_set_63 ?_
          refine lv_iload_n X.x X.b dX6_set_66 rfl (lv_at hl 3 rfl) ?_
          obtain ⟨b9, hf⟩ := zg_in hf
          refine z_iald X Z 13 rfl b9 dX6_set_67 ?_
          refine lv_istore (lv' := [(5, .int (sets x1.toNatClampNeg)), (4, .int 19), (3, .int 1), (0, .ref (ad 0)), (1, .int x1), (2, .int x2)]) X.x X.b dX6_set_68 hl (Nat.le_of_ble_eq_true rfl) rfl (fun ls hl => ?_)
          refine lv_aload_n X.x X.b dX6_set_70 rfl (lv_at hl 3 rfl) ?_
          refine z_gf inG_X6 (ci := 6) rfl 0 (Nat.le_of_ble_eq_true rfl) rfl X Z wd_183 0 rfl (v := .ref (ad 1)) rfl dX6_set_71 ?_
          refine z_gf inG_X3 (ci := 3) rfl 2 (Nat.le_of_ble_eq_true rfl) rfl X Z wd_110 1 rfl (v := .ref (ad 13)) rfl dX6_set_74 ?_
          refine lv_iload_n X.x X.b dX6_set_77 rfl (lv_at hl 4 rfl) ?_
          refine lv_iload_n X.x X.b dX6_set_78 rfl (lv_at hl 5 rfl) ?_
          obtain ⟨b10, hf⟩ := zg_in hf
          refine z_iast (w' := ((wX6 Δ ad reached lost size plots cliffs words needs told rea wread ltold lout (upd sets x1.toNatClampNeg x2) (nI (zo o k)) (nI (zk k + 1)) (zRows (zn n (zp o k)) α1) len codes gpl gps gcl gwo) ++ zPool Δ (zn n (zp o k)) α1 (zkeep o k n σ (reached, lost, size, plots, cliffs, words, needs, told, rea, wread, ltold, lout, sets)))) X Z 13 rfl b10 rfl dX6_set_79 (fun H locs Z => ?_)
          refine lv_iload X.x X.b dX6_set_80 (lv_at hl 0 rfl) ?_
          cases hf
          exact x_iret X Z ⟨_, rfl, rfl, _, rfl⟩ (Nat.le_of_ble_eq_true rfl) (Nat.le_of_ble_eq_true rfl) dX6_set_82
        · have hf := zif_f b8 hf
          cases hf
          exact x_throw Y htab Z hl wd_297 wd_29 (is := 95) (text := "the value is out of range") (by decide +kernel) (ic := 38) xg_38 xn_38 xo_34_38 (by decide +kernel) (by decide +kernel) dX6_set_38 dX6_set_41 dX6_set_42 dX6_set_44 dX6_set_47 (Nat.le_of_ble_eq_true rfl) (Nat.le_of_ble_eq_true rfl) (Nat.le_of_ble_eq_true rfl) (Nat.le_of_ble_eq_true rfl) ⟨rfl, rfl⟩ (Nat.le_of_ble_eq_true rfl) (Nat.le_of_ble_eq_true rfl)
  · have hf := zif_t b1 hf
    refine lv_iconst (v := 0) X.x X.b dX6_set_8 ki_0 ?_
    refine lv_goto (tgt := 13) X.x X.b dX6_set_9 (by decide) ?_
    refine lv_istore_n (lv' := [(3, .int 0), (0, .ref (ad 0)), (1, .int x1), (2, .int x2)]) X.x X.b dX6_set_13 rfl hl (Nat.le_of_ble_eq_true rfl) rfl (fun ls hl => ?_)
    refine lv_iload_n X.x X.b dX6_set_14 rfl (lv_at hl 2 rfl) ?_
    refine lv_if_ne (tgt := 23) X.x X.b dX6_set_15 (by decide) (fun b11 => ?_) (fun b11 => ?_)
    · have hf := zif_f b11 hf
      refine lv_bipush (v := 20) X.x X.b dX6_set_23 kb_20 ?_
      refine lv_istore (lv' := [(4, .int 20), (3, .int 0), (0, .ref (ad 0)), (1, .int x1), (2, .int x2)]) X.x X.b dX6_set_25 hl (Nat.le_of_ble_eq_true rfl) rfl (fun ls hl => ?_)
      refine lv_iload_n X.x X.b dX6_set_27 rfl (lv_at hl 4 rfl) ?_
      refine lv_iload_n X.x X.b dX6_set_28 rfl (lv_at hl 1 rfl) ?_
      refine lv_icmp_lt (tgt := 38) X.x X.b dX6_set_29 (by decide) (fun b12 => ?_) (fun b12 => ?_)
      · have hf := zif_t b12 hf
        cases hf
        exact x_throw Y htab Z hl wd_297 wd_29 (is := 95) (text := "the value is out of range") (by decide +kernel) (ic := 38) xg_38 xn_38 xo_34_38 (by decide +kernel) (by decide +kernel) dX6_set_38 dX6_set_41 dX6_set_42 dX6_set_44 dX6_set_47 (Nat.le_of_ble_eq_true rfl) (Nat.le_of_ble_eq_true rfl) (Nat.le_of_ble_eq_true rfl) (Nat.le_of_ble_eq_true rfl) ⟨rfl, rfl⟩ (Nat.le_of_ble_eq_true rfl) (Nat.le_of_ble_eq_true rfl)
      · have hf := zif_f b12 hf
        refine lv_iload_n X.x X.b dX6_set_32 rfl (lv_at hl 4 rfl) ?_
        refine lv_iload X.x X.b dX6_set_33 (lv_at hl 0 rfl) ?_
        refine lv_icmp_le (tgt := 48) X.x X.b dX6_set_35 (by decide) (fun b13 => ?_) (fun b13 => ?_)
        · have hf := zif_t b13 hf
          refine lv_aload_n X.x X.b dX6_set_48 rfl (lv_at hl 2 rfl) ?_
          refine z_gf inG_X6 (ci := 6) rfl 1 (Nat.le_of_ble_eq_true rfl) rfl X Z wd_184 0 rfl (v := .ref (ad 14)) rfl dX6_set_49 ?_
          refine lv_aload_n X.x X.b dX6_set_52 rfl (lv_at hl 2 rfl) ?_
          refine z_gf inG_X6 (ci := 6) rfl 0 (Nat.le_of_ble_eq_true rfl) rfl X Z wd_183 0 rfl (v := .ref (ad 1)) rfl dX6_set_53 ?_
          refine x_keep X Z hl hH wd_372 wd_373 wd_374 wd_23 wd_375 ok_X2_keep (rest := []) (Nat.le_of_ble_eq_true rfl) ⟨Nat.le_of_ble_eq_true rfl, Nat.le_of_ble_eq_true rfl⟩ ⟨Nat.le_of_ble_eq_true rfl, Nat.le_of_ble_eq_true rfl⟩ dX6_set_56 (fun α1 H locs Z => ?_)
          refine lv_aload_n X.x X.b dX6_set_59 rfl (lv_at hl 2 rfl) ?_
          refine z_gf inG_X6 (ci := 6) rfl 0 (Nat.le_of_ble_eq_true rfl) rfl X Z wd_183 0 rfl (v := .ref (ad 1)) rfl dX6_set_60 ?_
          refine z_gf inG_X3 (ci := 3) rfl 2 (Nat.le_of_ble_eq_true rfl) rfl X Z wd_110 1 rfl (v := .ref (ad 13)) rfl dX6_set_63 ?_
          refine lv_iload_n X.x X.b dX6_set_66 rfl (lv_at hl 3 rfl) ?_
          obtain ⟨b14, hf⟩ := zg_in hf
          refine z_iald X Z 13 rfl b14 dX6_set_67 ?_
          refine lv_istore (lv' := [(5, .int (sets x1.toNatClampNeg)), (4, .int 20), (3, .int 0), (0, .ref (ad 0)), (1, .int x1), (2, .int x2)]) X.x X.b dX6_set_68 hl (Nat.le_of_ble_eq_true rfl) rfl (fun ls hl => ?_)
          refine lv_aload_n X.x X.b dX6_set_70 rfl (lv_at hl 3 rfl) ?_
          refine z_gf inG_X6 (ci := 6) rfl 0 (Nat.le_of_ble_eq_true rfl) rfl X Z wd_183 0 rfl (v := .ref (ad 1)) rfl dX6_set_71 ?_
          refine z_gf inG_X3 (ci := 3) rfl 2 (Nat.le_of_ble_eq_true rfl) rfl X Z wd_110 1 rfl (v := .ref (ad 13)) rfl dX6_set_74 ?_
          refine lv_iload_n X.x X.b dX6_set_77 rfl (lv_at hl 4 rfl) ?_
          refine lv_iload_n X.x X.b dX6_set_78 rfl (lv_at hl 5 rfl) ?_
          obtain ⟨b15, hf⟩ := zg_in hf
          refine z_iast (w' := ((wX6 Δ ad reached lost size plots cliffs words needs told rea wread ltold lout (upd sets x1.toNatClampNeg x2) (nI (zo o k)) (nI (zk k + 1)) (zRows (zn n (zp o k)) α1) len codes gpl gps gcl gwo) ++ zPool Δ (zn n (zp o k)) α1 (zkeep o k n σ (reached, lost, size, plots, cliffs, words, needs, told, rea, wread, ltold, lout, sets)))) X Z 13 rfl b15 rfl dX6_set_79 (fun H locs Z => ?_)
          refine lv_iload X.x X.b dX6_set_80 (lv_at hl 0 rfl) ?_
          cases hf
          exact x_iret X Z ⟨_, rfl, rfl, _, rfl⟩ (Nat.le_of_ble_eq_true rfl) (Nat.le_of_ble_eq_true rfl) dX6_set_82
        · have hf := zif_f b13 hf
          cases hf
          exact x_throw Y htab Z hl wd_297 wd_29 (is := 95) (text := "the value is out of range") (by decide +kernel) (ic := 38) xg_38 xn_38 xo_34_38 (by decide +kernel) (by decide +kernel) dX6_set_38 dX6_set_41 dX6_set_42 dX6_set_44 dX6_set_47 (Nat.le_of_ble_eq_true rfl) (Nat.le_of_ble_eq_true rfl) (Nat.le_of_ble_eq_true rfl) (Nat.le_of_ble_eq_true rfl) ⟨rfl, rfl⟩ (Nat.le_of_ble_eq_true rfl) (Nat.le_of_ble_eq_true rfl)
    · have hf := zif_t b11 hf
      refine lv_bipush (v := 19) X.x X.b dX6_set_18 kb_19 ?_
      refine lv_goto (tgt := 25) X.x X.b dX6_set_20 (by decide) ?_
      refine lv_istore (lv' := [(4, .int 19), (3, .int 0), (0, .ref (ad 0)), (1, .int x1), (2, .int x2)]) X.x X.b dX6_set_25 hl (Nat.le_of_ble_eq_true rfl) rfl (fun ls hl => ?_)
      refine lv_iload_n X.x X.b dX6_set_27 rfl (lv_at hl 4 rfl) ?_
      refine lv_iload_n X.x X.b dX6_set_28 rfl (lv_at hl 1 rfl) ?_
      refine lv_icmp_lt (tgt := 38) X.x X.b dX6_set_29 (by decide) (fun b16 => ?_) (fun b16 => ?_)
      · have hf := zif_t b16 hf
        cases hf
        exact x_throw Y htab Z hl wd_297 wd_29 (is := 95) (text := "the value is out of range") (by decide +kernel) (ic := 38) xg_38 xn_38 xo_34_38 (by decide +kernel) (by decide +kernel) dX6_set_38 dX6_set_41 dX6_set_42 dX6_set_44 dX6_set_47 (Nat.le_of_ble_eq_true rfl) (Nat.le_of_ble_eq_true rfl) (Nat.le_of_ble_eq_true rfl) (Nat.le_of_ble_eq_true rfl) ⟨rfl, rfl⟩ (Nat.le_of_ble_eq_true rfl) (Nat.le_of_ble_eq_true rfl)
      · have hf := zif_f b16 hf
        refine lv_iload_n X.x X.b dX6_set_32 rfl (lv_at hl 4 rfl) ?_
        refine lv_iload X.x X.b dX6_set_33 (lv_at hl 0 rfl) ?_
        refine lv_icmp_le (tgt := 48) X.x X.b dX6_set_35 (by decide) (fun b17 => ?_) (fun b17 => ?_)
        · have hf := zif_t b17 hf
          refine lv_aload_n X.x X.b dX6_set_48 rfl (lv_at hl 2 rfl) ?_
          refine z_gf inG_X6 (ci := 6) rfl 1 (Nat.le_of_ble_eq_true rfl) rfl X Z wd_184 0 rfl (v := .ref (ad 14)) rfl dX6_set_49 ?_
          refine lv_aload_n X.x X.b dX6_set_52 rfl (lv_at hl 2 rfl) ?_
          refine z_gf inG_X6 (ci := 6) rfl 0 (Nat.le_of_ble_eq_true rfl) rfl X Z wd_183 0 rfl (v := .ref (ad 1)) rfl dX6_set_53 ?_
          refine x_keep X Z hl hH wd_372 wd_373 wd_374 wd_23 wd_375 ok_X2_keep (rest := []) (Nat.le_of_ble_eq_true rfl) ⟨Nat.le_of_ble_eq_true rfl, Nat.le_of_ble_eq_true rfl⟩ ⟨Nat.le_of_ble_eq_true rfl, Nat.le_of_ble_eq_true rfl⟩ dX6_set_56 (fun α1 H locs Z => ?_)
          refine lv_aload_n X.x X.b dX6_set_59 rfl (lv_at hl 2 rfl) ?_
          refine z_gf inG_X6 (ci := 6) rfl 0 (Nat.le_of_ble_eq_true rfl) rfl X Z wd_183 0 rfl (v := .ref (ad 1)) rfl dX6_set_60 ?_
          refine z_gf inG_X3 (ci := 3) rfl 2 (Nat.le_of_ble_eq_true rfl) rfl X Z wd_110 1 rfl (v := .ref (ad 13)) rfl dX6_set_63 ?_
          refine lv_iload_n X.x X.b dX6_set_66 rfl (lv_at hl 3 rfl) ?_
          obtain ⟨b18, hf⟩ := zg_in hf
          refine z_iald X Z 13 rfl b18 dX6_set_67 ?_
          refine lv_istore (lv' := [(5, .int (sets x1.toNatClampNeg)), (4, .int 19), (3, .int 0), (0, .ref (ad 0)), (1, .int x1), (2, .int x2)]) X.x X.b dX6_set_68 hl (Nat.le_of_ble_eq_true rfl) rfl (fun ls hl => ?_)
          refine lv_aload_n X.x X.b dX6_set_70 rfl (lv_at hl 3 rfl) ?_
          refine z_gf inG_X6 (ci := 6) rfl 0 (Nat.le_of_ble_eq_true rfl) rfl X Z wd_183 0 rfl (v := .ref (ad 1)) rfl dX6_set_71 ?_
          refine z_gf inG_X3 (ci := 3) rfl 2 (Nat.le_of_ble_eq_true rfl) rfl X Z wd_110 1 rfl (v := .ref (ad 13)) rfl dX6_set_74 ?_
          refine lv_iload_n X.x X.b dX6_set_77 rfl (lv_at hl 4 rfl) ?_
          refine lv_iload_n X.x X.b dX6_set_78 rfl (lv_at hl 5 rfl) ?_
          obtain ⟨b19, hf⟩ := zg_in hf
          refine z_iast (w' := ((wX6 Δ ad reached lost size plots cliffs words needs told rea wread ltold lout (upd sets x1.toNatClampNeg x2) (nI (zo o k)) (nI (zk k + 1)) (zRows (zn n (zp o k)) α1) len codes gpl gps gcl gwo) ++ zPool Δ (zn n (zp o k)) α1 (zkeep o k n σ (reached, lost, size, plots, cliffs, words, needs, told, rea, wread, ltold, lout, sets)))) X Z 13 rfl b19 rfl dX6_set_79 (fun H locs Z => ?_)
          refine lv_iload X.x X.b dX6_set_80 (lv_at hl 0 rfl) ?_
          cases hf
          exact x_iret X Z ⟨_, rfl, rfl, _, rfl⟩ (Nat.le_of_ble_eq_true rfl) (Nat.le_of_ble_eq_true rfl) dX6_set_82
        · have hf := zif_f b17 hf
          cases hf
          exact x_throw Y htab Z hl wd_297 wd_29 (is := 95) (text := "the value is out of range") (by decide +kernel) (ic := 38) xg_38 xn_38 xo_34_38 (by decide +kernel) (by decide +kernel) dX6_set_38 dX6_set_41 dX6_set_42 dX6_set_44 dX6_set_47 (Nat.le_of_ble_eq_true rfl) (Nat.le_of_ble_eq_true rfl) (Nat.le_of_ble_eq_true rfl) (Nat.le_of_ble_eq_true rfl) ⟨rfl, rfl⟩ (Nat.le_of_ble_eq_true rfl) (Nat.le_of_ble_eq_true rfl)
set_option maxRecDepth 100000 in
set_option maxHeartbeats 4000000 in
theorem mX6_mail (l : Launch) (hT : l.stackTraces = false) (Δ : zE) (ad : Nat → Nat) (reached : Int32) (lost : Int32) (size : Int32) (plots : Nat → Int32) (cliffs : Nat → Int32) (words : Nat → Int32) (needs : Nat → Int32) (told : Nat → Int32) (rea : Nat → Int32) (wread : Nat → Int32) (ltold : Nat → Int32) (lout : Nat → Int32) (sets : Nat → Int32) (len : Int32) (codes : Nat → Int32) (gpl : Int32) (gps : Int32) (gcl : Int32) (gwo : Int32) (o k n : Nat) (α : Nat → Nat → Nat) (σ : Nat → zSC) (hH : zH o k n) (x1 : Int32) (x2 : Int32) {res : String ⊕ (Int32 × Int32 × (Nat → Int32) × (Nat → Int32) × (Nat → Int32) × (Nat → Int32) × (Nat → Int32))} (hf : fX6_mail reached size words needs told rea wread ltold lout sets x1 x2 = some res) : zMX l Δ yX6_mail (.code yX6_mail cX6_mail 3 (some .int)) 7 111 15 139 [.ref (ad 0), .int x1, .int x2] ((wX6 Δ ad reached lost size plots cliffs words needs told rea wread ltold lout sets (nI o) (nI k) (zRows n α) len codes gpl gps gcl gwo) ++ zPool Δ n α σ) (fun rv w1 => ∃ r : Int32 × Int32 × (Nat → Int32) × (Nat → Int32) × (Nat → Int32) × (Nat → Int32) × (Nat → Int32), res = .inr r ∧ rv = some (.int r.1) ∧ ∃ α1 : Nat → Nat → Nat, w1 = ((wX6 Δ ad r.2.1 lost size plots cliffs words needs r.2.2.1 r.2.2.2.1 r.2.2.2.2.1 r.2.2.2.2.2.1 r.2.2.2.2.2.2 sets (nI (zo o k)) (nI (zk k + 1)) (zRows (zn n (zp o k)) α1) len codes gpl gps gcl gwo) ++ zPool Δ (zn n (zp o k)) α1 (zkeep o k n σ (reached, lost, size, plots, cliffs, words, needs, told, rea, wread, ltold, lout, sets)))) (fun E w => res = .inl E ∧ w = ((wX6 Δ ad reached lost size plots cliffs words needs told rea wread ltold lout sets (nI o) (nI k) (zRows n α) len codes gpl gps gcl gwo) ++ zPool Δ n α σ)) := by
  refine x_start hT (by decide +kernel) (Nat.le_of_ble_eq_true rfl) ?_
  intro p e s m args below meth c A ls Y htab Z hl
  have X := Y.1
  have hl : lv_has ls 3 [(0, .ref (ad 0)), (1, .int x1), (2, .int x2)] := hl
  rw [fX6_mail.eq_1] at hf
  refine lv_iload_n X.x X.b dX6_mail_0 rfl (lv_at hl 1 rfl) ?_
  rcases zxb_ok hf with ⟨E, hq1, hr⟩ | ⟨q1, hq1, hf⟩
  · subst hr
    exact x_callS_out Y htab Z hl (mX6_checkReader l hT Δ  x1 hq1) wd_451 wd_452 wd_19 wd_453 ok_X6_checkReader zSub_nil rfl (rest := []) rfl (Nat.le_of_ble_eq_true rfl) ⟨Nat.le_of_ble_eq_true rfl, Nat.le_of_ble_eq_true rfl⟩ ⟨Nat.le_of_ble_eq_true rfl, Nat.le_of_ble_eq_true rfl⟩ dX6_mail_1 (fun rv w h => by obtain ⟨r, h1, -⟩ := h; cases h1) (fun E w h => by obtain ⟨h1, h2⟩ := h; cases h1; exact ⟨h2, rfl, rfl⟩) (Nat.le_of_ble_eq_true rfl) (Nat.le_of_ble_eq_true rfl)
  refine x_callS_in (w' := ((wX6 Δ ad reached lost size plots cliffs words needs told rea wread ltold lout sets (nI o) (nI k) (zRows n α) len codes gpl gps gcl gwo) ++ zPool Δ n α σ)) (rv := none) Y Z hl (mX6_checkReader l hT Δ  x1 hq1) wd_451 wd_452 wd_19 wd_453 ok_X6_checkReader zSub_nil rfl zput_nil rfl (rest := []) rfl (Nat.le_of_ble_eq_true rfl) ⟨Nat.le_of_ble_eq_true rfl, Nat.le_of_ble_eq_true rfl⟩ ⟨Nat.le_of_ble_eq_true rfl, Nat.le_of_ble_eq_true rfl⟩ (st1 := []) rfl dX6_mail_1 (fun rv w h => by obtain ⟨r, h1, h2, h3⟩ := h; cases h1; exact ⟨h2, h3⟩) (fun E w h => by cases h.1) (fun H locs Z => ?_)
  refine lv_aload_n X.x X.b dX6_mail_4 rfl (lv_at hl 0 rfl) ?_
  refine lv_iload_n X.x X.b dX6_mail_5 rfl (lv_at hl 2 rfl) ?_
  rcases zxb_ok hf with ⟨E, hq2, hr⟩ | ⟨q2, hq2, hf⟩
  · subst hr
    exact x_callV_out Y htab Z hl (mX6_checkPart l hT Δ ad reached lost size plots cliffs words needs told rea wread ltold lout sets (nI o) (nI k) (zRows n α) len codes gpl gps gcl gwo x2 hq2) wd_390 wd_392 wd_3 wd_19 wd_393 ok_X6_checkPart 6 rfl 0 rfl (zSub_tail su_13) rfl (rest := []) rfl (Nat.le_of_ble_eq_true rfl) ⟨Nat.le_of_ble_eq_true rfl, Nat.le_of_ble_eq_true rfl⟩ ⟨Nat.le_of_ble_eq_true rfl, Nat.le_of_ble_eq_true rfl⟩ dX6_mail_6 (fun rv w h => by obtain ⟨r, h1, -⟩ := h; cases h1) (fun E w h => by obtain ⟨h1, h2⟩ := h; cases h1; exact ⟨h2, rfl, rfl⟩) (Nat.le_of_ble_eq_true rfl) (Nat.le_of_ble_eq_true rfl)
  refine x_callV_in (w' := ((wX6 Δ ad reached lost size plots cliffs words needs told rea wread ltold lout sets (nI o) (nI k) (zRows n α) len codes gpl gps gcl gwo) ++ zPool Δ n α σ)) (rv := none) Y Z hl (mX6_checkPart l hT Δ ad reached lost size plots cliffs words needs told rea wread ltold lout sets (nI o) (nI k) (zRows n α) len codes gpl gps gcl gwo x2 hq2) wd_390 wd_392 wd_3 wd_19 wd_393 ok_X6_checkPart 6 rfl 0 rfl (zSub_tail su_13) fs_13 (zput_tail su_13 pu_13) rfl (rest := []) rfl (Nat.le_of_ble_eq_true rfl) ⟨Nat.le_of_ble_eq_true rfl, Nat.le_of_ble_eq_true rfl⟩ ⟨Nat.le_of_ble_eq_true rfl, Nat.le_of_ble_eq_true rfl⟩ (st1 := []) rfl dX6_mail_6 (fun rv w h => by obtain ⟨r, h1, h2, h3⟩ := h; cases h1; exact ⟨h2, h3⟩) (fun E w h => by cases h.1) (fun H locs Z => ?_)
  refine lv_aload_n X.x X.b dX6_mail_9 rfl (lv_at hl 0 rfl) ?_
  refine z_gf inG_X6 (ci := 6) rfl 0 (Nat.le_of_ble_eq_true rfl) rfl X Z wd_183 0 rfl (v := .ref (ad 1)) rfl dX6_mail_10 ?_
  refine z_gf inG_X3 (ci := 3) rfl 1 (Nat.le_of_ble_eq_true rfl) rfl X Z wd_108 1 rfl (v := .ref (ad 7)) rfl dX6_mail_13 ?_
  refine lv_iload_n X.x X.b dX6_mail_16 rfl (lv_at hl 1 rfl) ?_
  refine lv_iload_n X.x X.b dX6_mail_17 rfl (lv_at hl 2 rfl) ?_
  obtain ⟨q3, hq3, hf⟩ := zb_ok hf
  refine z_callV X Z hl (mX0_hasRead l Δ (fun j => ad (j + 7)) told rea wread ltold lout x1 x2 hq3) wd_455 wd_424 wd_425 wd_22 wd_426 ok_X0_hasRead 0 rfl 7 rfl (w' := ((wX6 Δ ad reached lost size plots cliffs words needs told rea wread ltold lout sets (nI o) (nI k) (zRows n α) len codes gpl gps gcl gwo) ++ zPool Δ n α σ)) (zSub_tail su_15) fs_15 (zput_tail su_15 pu_15) rfl (rest := []) rfl (Nat.le_of_ble_eq_true rfl) ⟨Nat.le_of_ble_eq_true rfl, Nat.le_of_ble_eq_true rfl⟩ ⟨Nat.le_of_ble_eq_true rfl, Nat.le_of_ble_eq_true rfl⟩ (st1 := [.int q3]) rfl dX6_mail_18 (fun H locs Z => ?_)
  refine lv_if_eq (tgt := 34) X.x X.b dX6_mail_21 (by decide) (fun b1 => ?_) (fun b1 => ?_)
  · have hf := zif_t b1 hf
    refine lv_aload_n X.x X.b dX6_mail_34 rfl (lv_at hl 0 rfl) ?_
    refine z_gf inG_X6 (ci := 6) rfl 1 (Nat.le_of_ble_eq_true rfl) rfl X Z wd_184 0 rfl (v := .ref (ad 14)) rfl dX6_mail_35 ?_
    refine lv_aload_n X.x X.b dX6_mail_38 rfl (lv_at hl 0 rfl) ?_
    refine z_gf inG_X6 (ci := 6) rfl 0 (Nat.le_of_ble_eq_true rfl) rfl X Z wd_183 0 rfl (v := .ref (ad 1)) rfl dX6_mail_39 ?_
    refine x_keep X Z hl hH wd_372 wd_373 wd_374 wd_23 wd_375 ok_X2_keep (rest := []) (Nat.le_of_ble_eq_true rfl) ⟨Nat.le_of_ble_eq_true rfl, Nat.le_of_ble_eq_true rfl⟩ ⟨Nat.le_of_ble_eq_true rfl, Nat.le_of_ble_eq_true rfl⟩ dX6_mail_42 (fun α1 H locs Z => ?_)
    refine lv_aload_n X.x X.b dX6_mail_45 rfl (lv_at hl 0 rfl) ?_
    refine z_gf inG_X6 (ci := 6) rfl 0 (Nat.le_of_ble_eq_true rfl) rfl X Z wd_183 0 rfl (v := .ref (ad 1)) rfl dX6_mail_46 ?_
    refine lv_iload_n X.x X.b dX6_mail_49 rfl (lv_at hl 1 rfl) ?_
    refine lv_iload_n X.x X.b dX6_mail_50 rfl (lv_at hl 2 rfl) ?_
    obtain ⟨q4, hq4, hf⟩ := zb_ok hf
    refine z_callV X Z hl (mX3_deliver l Δ (fun j => ad (j + 1)) reached lost size plots cliffs words needs told rea wread ltold lout sets x1 x2 hq4) wd_457 wd_458 wd_459 wd_20 wd_460 ok_X3_deliver 3 rfl 1 rfl (w' := ((wX6 Δ ad q4.2.1 lost size plots cliffs words needs q4.2.2.1 q4.2.2.2.1 q4.2.2.2.2.1 q4.2.2.2.2.2.1 q4.2.2.2.2.2.2 sets (nI (zo o k)) (nI (zk k + 1)) (zRows (zn n (zp o k)) α1) len codes gpl gps gcl gwo) ++ zPool Δ (zn n (zp o k)) α1 (zkeep o k n σ (reached, lost, size, plots, cliffs, words, needs, told, rea, wread, ltold, lout, sets)))) (zSub_tail su_14) fs_14 (zput_tail su_14 pu_14) rfl (rest := []) rfl (Nat.le_of_ble_eq_true rfl) ⟨Nat.le_of_ble_eq_true rfl, Nat.le_of_ble_eq_true rfl⟩ ⟨Nat.le_of_ble_eq_true rfl, Nat.le_of_ble_eq_true rfl⟩ (st1 := [.int q4.1]) rfl dX6_mail_51 (fun H locs Z => ?_)
    cases hf
    exact x_iret X Z ⟨_, rfl, rfl, _, rfl⟩ (Nat.le_of_ble_eq_true rfl) (Nat.le_of_ble_eq_true rfl) dX6_mail_54
  · have hf := zif_f b1 hf
    cases hf
    exact x_throw Y htab Z hl wd_201 wd_30 (is := 108) (text := "the reader has read it") (by decide +kernel) (ic := 55) xg_55 xn_55 xo_51_55 (by decide +kernel) (by decide +kernel) dX6_mail_24 dX6_mail_27 dX6_mail_28 dX6_mail_30 dX6_mail_33 (Nat.le_of_ble_eq_true rfl) (Nat.le_of_ble_eq_true rfl) (Nat.le_of_ble_eq_true rfl) (Nat.le_of_ble_eq_true rfl) ⟨rfl, rfl⟩ (Nat.le_of_ble_eq_true rfl) (Nat.le_of_ble_eq_true rfl)
set_option maxRecDepth 100000 in
set_option maxHeartbeats 4000000 in
theorem mX6_mailAll (l : Launch) (hT : l.stackTraces = false) (Δ : zE) (ad : Nat → Nat) (reached : Int32) (lost : Int32) (size : Int32) (plots : Nat → Int32) (cliffs : Nat → Int32) (words : Nat → Int32) (needs : Nat → Int32) (told : Nat → Int32) (rea : Nat → Int32) (wread : Nat → Int32) (ltold : Nat → Int32) (lout : Nat → Int32) (sets : Nat → Int32) (len : Int32) (codes : Nat → Int32) (gpl : Int32) (gps : Int32) (gcl : Int32) (gwo : Int32) (o k n : Nat) (α : Nat → Nat → Nat) (σ : Nat → zSC) (hH : zH o k n) (x1 : Int32) (x2 : Int32) {res : String ⊕ (Int32 × Int32 × Int32 × (Nat → Int32) × (Nat → Int32) × (Nat → Int32) × (Nat → Int32) × (Nat → Int32))} (hf : fX6_mailAll reached lost size words needs told rea wread ltold lout sets x1 x2 = some res) : zMX l Δ yX6_mailAll (.code yX6_mailAll cX6_mailAll 3 (some .int)) 7 116 14 133 [.ref (ad 0), .int x1, .int x2] ((wX6 Δ ad reached lost size plots cliffs words needs told rea wread ltold lout sets (nI o) (nI k) (zRows n α) len codes gpl gps gcl gwo) ++ zPool Δ n α σ) (fun rv w1 => ∃ r : Int32 × Int32 × Int32 × (Nat → Int32) × (Nat → Int32) × (Nat → Int32) × (Nat → Int32) × (Nat → Int32), res = .inr r ∧ rv = some (.int r.1) ∧ ∃ α1 : Nat → Nat → Nat, w1 = ((wX6 Δ ad r.2.1 r.2.2.1 size plots cliffs words needs r.2.2.2.1 r.2.2.2.2.1 r.2.2.2.2.2.1 r.2.2.2.2.2.2.1 r.2.2.2.2.2.2.2 sets (nI (zo o k)) (nI (zk k + 1)) (zRows (zn n (zp o k)) α1) len codes gpl gps gcl gwo) ++ zPool Δ (zn n (zp o k)) α1 (zkeep o k n σ (reached, lost, size, plots, cliffs, words, needs, told, rea, wread, ltold, lout, sets)))) (fun E w => res = .inl E ∧ w = ((wX6 Δ ad reached lost size plots cliffs words needs told rea wread ltold lout sets (nI o) (nI k) (zRows n α) len codes gpl gps gcl gwo) ++ zPool Δ n α σ)) := by
  refine x_start hT (by decide +kernel) (Nat.le_of_ble_eq_true rfl) ?_
  intro p e s m args below meth c A ls Y htab Z hl
  have X := Y.1
  have hl : lv_has ls 3 [(0, .ref (ad 0)), (1, .int x1), (2, .int x2)] := hl
  rw [fX6_mailAll.eq_1] at hf
  refine lv_aload_n X.x X.b dX6_mailAll_0 rfl (lv_at hl 0 rfl) ?_
  refine lv_iload_n X.x X.b dX6_mailAll_1 rfl (lv_at hl 1 rfl) ?_
  rcases zxb_ok hf with ⟨E, hq1, hr⟩ | ⟨q1, hq1, hf⟩
  · subst hr
    exact x_callV_out Y htab Z hl (mX6_checkPart l hT Δ ad reached lost size plots cliffs words needs told rea wread ltold lout sets (nI o) (nI k) (zRows n α) len codes gpl gps gcl gwo x1 hq1) wd_390 wd_392 wd_3 wd_19 wd_393 ok_X6_checkPart 6 rfl 0 rfl (zSub_tail su_13) rfl (rest := []) rfl (Nat.le_of_ble_eq_true rfl) ⟨Nat.le_of_ble_eq_true rfl, Nat.le_of_ble_eq_true rfl⟩ ⟨Nat.le_of_ble_eq_true rfl, Nat.le_of_ble_eq_true rfl⟩ dX6_mailAll_2 (fun rv w h => by obtain ⟨r, h1, -⟩ := h; cases h1) (fun E w h => by obtain ⟨h1, h2⟩ := h; cases h1; exact ⟨h2, rfl, rfl⟩) (Nat.le_of_ble_eq_true rfl) (Nat.le_of_ble_eq_true rfl)
  refine x_callV_in (w' := ((wX6 Δ ad reached lost size plots cliffs words needs told rea wread ltold lout sets (nI o) (nI k) (zRows n α) len codes gpl gps gcl gwo) ++ zPool Δ n α σ)) (rv := none) Y Z hl (mX6_checkPart l hT Δ ad reached lost size plots cliffs words needs told rea wread ltold lout sets (nI o) (nI k) (zRows n α) len codes gpl gps gcl gwo x1 hq1) wd_390 wd_392 wd_3 wd_19 wd_393 ok_X6_checkPart 6 rfl 0 rfl (zSub_tail su_13) fs_13 (zput_tail su_13 pu_13) rfl (rest := []) rfl (Nat.le_of_ble_eq_true rfl) ⟨Nat.le_of_ble_eq_true rfl, Nat.le_of_ble_eq_true rfl⟩ ⟨Nat.le_of_ble_eq_true rfl, Nat.le_of_ble_eq_true rfl⟩ (st1 := []) rfl dX6_mailAll_2 (fun rv w h => by obtain ⟨r, h1, h2, h3⟩ := h; cases h1; exact ⟨h2, h3⟩) (fun E w h => by cases h.1) (fun H locs Z => ?_)
  refine lv_iload_n X.x X.b dX6_mailAll_5 rfl (lv_at hl 2 rfl) ?_
  refine lv_if_lt (tgt := 15) X.x X.b dX6_mailAll_6 (by decide) (fun b1 => ?_) (fun b1 => ?_)
  · have hf := zif_t b1 hf
    cases hf
    exact x_throw Y htab Z hl wd_297 wd_29 (is := 114) (text := "lost is 0 to 63") (by decide +kernel) (ic := 38) xg_38 xn_38 xo_34_38 (by decide +kernel) (by decide +kernel) dX6_mailAll_15 dX6_mailAll_18 dX6_mailAll_19 dX6_mailAll_21 dX6_mailAll_24 (Nat.le_of_ble_eq_true rfl) (Nat.le_of_ble_eq_true rfl) (Nat.le_of_ble_eq_true rfl) (Nat.le_of_ble_eq_true rfl) ⟨rfl, rfl⟩ (Nat.le_of_ble_eq_true rfl) (Nat.le_of_ble_eq_true rfl)
  · have hf := zif_f b1 hf
    refine lv_iload_n X.x X.b dX6_mailAll_9 rfl (lv_at hl 2 rfl) ?_
    refine lv_bipush (v := 63) X.x X.b dX6_mailAll_10 kb_63 ?_
    refine lv_icmp_le (tgt := 25) X.x X.b dX6_mailAll_12 (by decide) (fun b2 => ?_) (fun b2 => ?_)
    · have hf := zif_t b2 hf
      refine lv_aload_n X.x X.b dX6_mailAll_25 rfl (lv_at hl 0 rfl) ?_
      refine z_gf inG_X6 (ci := 6) rfl 1 (Nat.le_of_ble_eq_true rfl) rfl X Z wd_184 0 rfl (v := .ref (ad 14)) rfl dX6_mailAll_26 ?_
      refine lv_aload_n X.x X.b dX6_mailAll_29 rfl (lv_at hl 0 rfl) ?_
      refine z_gf inG_X6 (ci := 6) rfl 0 (Nat.le_of_ble_eq_true rfl) rfl X Z wd_183 0 rfl (v := .ref (ad 1)) rfl dX6_mailAll_30 ?_
      refine x_keep X Z hl hH wd_372 wd_373 wd_374 wd_23 wd_375 ok_X2_keep (rest := []) (Nat.le_of_ble_eq_true rfl) ⟨Nat.le_of_ble_eq_true rfl, Nat.le_of_ble_eq_true rfl⟩ ⟨Nat.le_of_ble_eq_true rfl, Nat.le_of_ble_eq_true rfl⟩ dX6_mailAll_33 (fun α1 H locs Z => ?_)
      refine lv_aload_n X.x X.b dX6_mailAll_36 rfl (lv_at hl 0 rfl) ?_
      refine z_gf inG_X6 (ci := 6) rfl 0 (Nat.le_of_ble_eq_true rfl) rfl X Z wd_183 0 rfl (v := .ref (ad 1)) rfl dX6_mailAll_37 ?_
      refine lv_iload_n X.x X.b dX6_mailAll_40 rfl (lv_at hl 1 rfl) ?_
      refine lv_iload_n X.x X.b dX6_mailAll_41 rfl (lv_at hl 2 rfl) ?_
      obtain ⟨q2, hq2, hf⟩ := zb_ok hf
      refine z_callV X Z hl (mX3_deliverToAll l Δ (fun j => ad (j + 1)) reached lost size plots cliffs words needs told rea wread ltold lout sets x1 x2 hq2) wd_494 wd_495 wd_496 wd_20 wd_497 ok_X3_deliverToAll 3 rfl 1 rfl (w' := ((wX6 Δ ad q2.2.1 q2.2.2.1 size plots cliffs words needs q2.2.2.2.1 q2.2.2.2.2.1 q2.2.2.2.2.2.1 q2.2.2.2.2.2.2.1 q2.2.2.2.2.2.2.2 sets (nI (zo o k)) (nI (zk k + 1)) (zRows (zn n (zp o k)) α1) len codes gpl gps gcl gwo) ++ zPool Δ (zn n (zp o k)) α1 (zkeep o k n σ (reached, lost, size, plots, cliffs, words, needs, told, rea, wread, ltold, lout, sets)))) (zSub_tail su_14) fs_14 (zput_tail su_14 pu_14) rfl (rest := []) rfl (Nat.le_of_ble_eq_true rfl) ⟨Nat.le_of_ble_eq_true rfl, Nat.le_of_ble_eq_true rfl⟩ ⟨Nat.le_of_ble_eq_true rfl, Nat.le_of_ble_eq_true rfl⟩ (st1 := [.int q2.1]) rfl dX6_mailAll_42 (fun H locs Z => ?_)
      cases hf
      exact x_iret X Z ⟨_, rfl, rfl, _, rfl⟩ (Nat.le_of_ble_eq_true rfl) (Nat.le_of_ble_eq_true rfl) dX6_mailAll_45
    · have hf := zif_f b2 hf
      cases hf
      exact x_throw Y htab Z hl wd_297 wd_29 (is := 114) (text := "lost is 0 to 63") (by decide +kernel) (ic := 38) xg_38 xn_38 xo_34_38 (by decide +kernel) (by decide +kernel) dX6_mailAll_15 dX6_mailAll_18 dX6_mailAll_19 dX6_mailAll_21 dX6_mailAll_24 (Nat.le_of_ble_eq_true rfl) (Nat.le_of_ble_eq_true rfl) (Nat.le_of_ble_eq_true rfl) (Nat.le_of_ble_eq_true rfl) ⟨rfl, rfl⟩ (Nat.le_of_ble_eq_true rfl) (Nat.le_of_ble_eq_true rfl)
set_option maxRecDepth 100000 in
set_option maxHeartbeats 4000000 in
theorem mX6_forget (l : Launch) (hT : l.stackTraces = false) (Δ : zE) (ad : Nat → Nat) (reached : Int32) (lost : Int32) (size : Int32) (plots : Nat → Int32) (cliffs : Nat → Int32) (words : Nat → Int32) (needs : Nat → Int32) (told : Nat → Int32) (rea : Nat → Int32) (wread : Nat → Int32) (ltold : Nat → Int32) (lout : Nat → Int32) (sets : Nat → Int32) (len : Int32) (codes : Nat → Int32) (gpl : Int32) (gps : Int32) (gcl : Int32) (gwo : Int32) (o k n : Nat) (α : Nat → Nat → Nat) (σ : Nat → zSC) (hH : zH o k n) (x1 : Int32) {res : String ⊕ (Int32 × (Nat → Int32))} (hf : fX6_forget told x1 = some res) : zMX l Δ yX6_forget (.code yX6_forget cX6_forget 2 (some .int)) 7 110 14 133 [.ref (ad 0), .int x1] ((wX6 Δ ad reached lost size plots cliffs words needs told rea wread ltold lout sets (nI o) (nI k) (zRows n α) len codes gpl gps gcl gwo) ++ zPool Δ n α σ) (fun rv w1 => ∃ r : Int32 × (Nat → Int32), res = .inr r ∧ rv = some (.int r.1) ∧ ∃ α1 : Nat → Nat → Nat, w1 = ((wX6 Δ ad reached lost size plots cliffs words needs r.2 rea wread ltold lout sets (nI (zo o k)) (nI (zk k + 1)) (zRows (zn n (zp o k)) α1) len codes gpl gps gcl gwo) ++ zPool Δ (zn n (zp o k)) α1 (zkeep o k n σ (reached, lost, size, plots, cliffs, words, needs, told, rea, wread, ltold, lout, sets)))) (fun E w => res = .inl E ∧ w = ((wX6 Δ ad reached lost size plots cliffs words needs told rea wread ltold lout sets (nI o) (nI k) (zRows n α) len codes gpl gps gcl gwo) ++ zPool Δ n α σ)) := by
  refine x_start hT (by decide +kernel) (Nat.le_of_ble_eq_true rfl) ?_
  intro p e s m args below meth c A ls Y htab Z hl
  have X := Y.1
  have hl : lv_has ls 2 [(0, .ref (ad 0)), (1, .int x1)] := hl
  rw [fX6_forget.eq_1] at hf
  refine lv_iload_n X.x X.b dX6_forget_0 rfl (lv_at hl 1 rfl) ?_
  rcases zxb_ok hf with ⟨E, hq1, hr⟩ | ⟨q1, hq1, hf⟩
  · subst hr
    exact x_callS_out Y htab Z hl (mX6_checkReader l hT Δ  x1 hq1) wd_451 wd_452 wd_19 wd_453 ok_X6_checkReader zSub_nil rfl (rest := []) rfl (Nat.le_of_ble_eq_true rfl) ⟨Nat.le_of_ble_eq_true rfl, Nat.le_of_ble_eq_true rfl⟩ ⟨Nat.le_of_ble_eq_true rfl, Nat.le_of_ble_eq_true rfl⟩ dX6_forget_1 (fun rv w h => by obtain ⟨r, h1, -⟩ := h; cases h1) (fun E w h => by obtain ⟨h1, h2⟩ := h; cases h1; exact ⟨h2, rfl, rfl⟩) (Nat.le_of_ble_eq_true rfl) (Nat.le_of_ble_eq_true rfl)
  refine x_callS_in (w' := ((wX6 Δ ad reached lost size plots cliffs words needs told rea wread ltold lout sets (nI o) (nI k) (zRows n α) len codes gpl gps gcl gwo) ++ zPool Δ n α σ)) (rv := none) Y Z hl (mX6_checkReader l hT Δ  x1 hq1) wd_451 wd_452 wd_19 wd_453 ok_X6_checkReader zSub_nil rfl zput_nil rfl (rest := []) rfl (Nat.le_of_ble_eq_true rfl) ⟨Nat.le_of_ble_eq_true rfl, Nat.le_of_ble_eq_true rfl⟩ ⟨Nat.le_of_ble_eq_true rfl, Nat.le_of_ble_eq_true rfl⟩ (st1 := []) rfl dX6_forget_1 (fun rv w h => by obtain ⟨r, h1, h2, h3⟩ := h; cases h1; exact ⟨h2, h3⟩) (fun E w h => by cases h.1) (fun H locs Z => ?_)
  refine lv_aload_n X.x X.b dX6_forget_4 rfl (lv_at hl 0 rfl) ?_
  refine z_gf inG_X6 (ci := 6) rfl 1 (Nat.le_of_ble_eq_true rfl) rfl X Z wd_184 0 rfl (v := .ref (ad 14)) rfl dX6_forget_5 ?_
  refine lv_aload_n X.x X.b dX6_forget_8 rfl (lv_at hl 0 rfl) ?_
  refine z_gf inG_X6 (ci := 6) rfl 0 (Nat.le_of_ble_eq_true rfl) rfl X Z wd_183 0 rfl (v := .ref (ad 1)) rfl dX6_forget_9 ?_
  refine x_keep X Z hl hH wd_372 wd_373 wd_374 wd_23 wd_375 ok_X2_keep (rest := []) (Nat.le_of_ble_eq_true rfl) ⟨Nat.le_of_ble_eq_true rfl, Nat.le_of_ble_eq_true rfl⟩ ⟨Nat.le_of_ble_eq_true rfl, Nat.le_of_ble_eq_true rfl⟩ dX6_forget_12 (fun α1 H locs Z => ?_)
  refine lv_aload_n X.x X.b dX6_forget_15 rfl (lv_at hl 0 rfl) ?_
  refine z_gf inG_X6 (ci := 6) rfl 0 (Nat.le_of_ble_eq_true rfl) rfl X Z wd_183 0 rfl (v := .ref (ad 1)) rfl dX6_forget_16 ?_
  refine z_gf inG_X3 (ci := 3) rfl 1 (Nat.le_of_ble_eq_true rfl) rfl X Z wd_108 1 rfl (v := .ref (ad 7)) rfl dX6_forget_19 ?_
  refine lv_iload_n X.x X.b dX6_forget_22 rfl (lv_at hl 1 rfl) ?_
  obtain ⟨q2, hq2, hf⟩ := zb_ok hf
  refine z_callV X Z hl (mX0_dropTold l Δ (fun j => ad (j + 7)) told rea wread ltold lout x1 hq2) wd_504 wd_505 wd_506 wd_22 wd_507 ok_X0_dropTold 0 rfl 7 rfl (w' := ((wX6 Δ ad reached lost size plots cliffs words needs q2.2 rea wread ltold lout sets (nI (zo o k)) (nI (zk k + 1)) (zRows (zn n (zp o k)) α1) len codes gpl gps gcl gwo) ++ zPool Δ (zn n (zp o k)) α1 (zkeep o k n σ (reached, lost, size, plots, cliffs, words, needs, told, rea, wread, ltold, lout, sets)))) (zSub_tail su_15) fs_15 (zput_tail su_15 pu_15) rfl (rest := []) rfl (Nat.le_of_ble_eq_true rfl) ⟨Nat.le_of_ble_eq_true rfl, Nat.le_of_ble_eq_true rfl⟩ ⟨Nat.le_of_ble_eq_true rfl, Nat.le_of_ble_eq_true rfl⟩ (st1 := [.int q2.1]) rfl dX6_forget_23 (fun H locs Z => ?_)
  cases hf
  exact x_iret X Z ⟨_, rfl, rfl, _, rfl⟩ (Nat.le_of_ble_eq_true rfl) (Nat.le_of_ble_eq_true rfl) dX6_forget_26
set_option maxRecDepth 100000 in
set_option maxHeartbeats 4000000 in
theorem mX6_catchUp (l : Launch) (hT : l.stackTraces = false) (Δ : zE) (ad : Nat → Nat) (reached : Int32) (lost : Int32) (size : Int32) (plots : Nat → Int32) (cliffs : Nat → Int32) (words : Nat → Int32) (needs : Nat → Int32) (told : Nat → Int32) (rea : Nat → Int32) (wread : Nat → Int32) (ltold : Nat → Int32) (lout : Nat → Int32) (sets : Nat → Int32) (len : Int32) (codes : Nat → Int32) (gpl : Int32) (gps : Int32) (gcl : Int32) (gwo : Int32) (o k n : Nat) (α : Nat → Nat → Nat) (σ : Nat → zSC) (hH : zH o k n) (x1 : Int32) {res : String ⊕ (Int32 × Int32 × (Nat → Int32) × (Nat → Int32) × (Nat → Int32) × (Nat → Int32) × (Nat → Int32))} (hf : fX6_catchUp reached size words needs told rea wread ltold lout sets x1 = some res) : zMX l Δ yX6_catchUp (.code yX6_catchUp cX6_catchUp 2 (some .int)) 7 115 14 133 [.ref (ad 0), .int x1] ((wX6 Δ ad reached lost size plots cliffs words needs told rea wread ltold lout sets (nI o) (nI k) (zRows n α) len codes gpl gps gcl gwo) ++ zPool Δ n α σ) (fun rv w1 => ∃ r : Int32 × Int32 × (Nat → Int32) × (Nat → Int32) × (Nat → Int32) × (Nat → Int32) × (Nat → Int32), res = .inr r ∧ rv = some (.int r.1) ∧ ∃ α1 : Nat → Nat → Nat, w1 = ((wX6 Δ ad r.2.1 lost size plots cliffs words needs r.2.2.1 r.2.2.2.1 r.2.2.2.2.1 r.2.2.2.2.2.1 r.2.2.2.2.2.2 sets (nI (zo o k)) (nI (zk k + 1)) (zRows (zn n (zp o k)) α1) len codes gpl gps gcl gwo) ++ zPool Δ (zn n (zp o k)) α1 (zkeep o k n σ (reached, lost, size, plots, cliffs, words, needs, told, rea, wread, ltold, lout, sets)))) (fun E w => res = .inl E ∧ w = ((wX6 Δ ad reached lost size plots cliffs words needs told rea wread ltold lout sets (nI o) (nI k) (zRows n α) len codes gpl gps gcl gwo) ++ zPool Δ n α σ)) := by
  refine x_start hT (by decide +kernel) (Nat.le_of_ble_eq_true rfl) ?_
  intro p e s m args below meth c A ls Y htab Z hl
  have X := Y.1
  have hl : lv_has ls 2 [(0, .ref (ad 0)), (1, .int x1)] := hl
  rw [fX6_catchUp.eq_1] at hf
  refine lv_iload_n X.x X.b dX6_catchUp_0 rfl (lv_at hl 1 rfl) ?_
  rcases zxb_ok hf with ⟨E, hq1, hr⟩ | ⟨q1, hq1, hf⟩
  · subst hr
    exact x_callS_out Y htab Z hl (mX6_checkReader l hT Δ  x1 hq1) wd_451 wd_452 wd_19 wd_453 ok_X6_checkReader zSub_nil rfl (rest := []) rfl (Nat.le_of_ble_eq_true rfl) ⟨Nat.le_of_ble_eq_true rfl, Nat.le_of_ble_eq_true rfl⟩ ⟨Nat.le_of_ble_eq_true rfl, Nat.le_of_ble_eq_true rfl⟩ dX6_catchUp_1 (fun rv w h => by obtain ⟨r, h1, -⟩ := h; cases h1) (fun E w h => by obtain ⟨h1, h2⟩ := h; cases h1; exact ⟨h2, rfl, rfl⟩) (Nat.le_of_ble_eq_true rfl) (Nat.le_of_ble_eq_true rfl)
  refine x_callS_in (w' := ((wX6 Δ ad reached lost size plots cliffs words needs told rea wread ltold lout sets (nI o) (nI k) (zRows n α) len codes gpl gps gcl gwo) ++ zPool Δ n α σ)) (rv := none) Y Z hl (mX6_checkReader l hT Δ  x1 hq1) wd_451 wd_452 wd_19 wd_453 ok_X6_checkReader zSub_nil rfl zput_nil rfl (rest := []) rfl (Nat.le_of_ble_eq_true rfl) ⟨Nat.le_of_ble_eq_true rfl, Nat.le_of_ble_eq_true rfl⟩ ⟨Nat.le_of_ble_eq_true rfl, Nat.le_of_ble_eq_true rfl⟩ (st1 := []) rfl dX6_catchUp_1 (fun rv w h => by obtain ⟨r, h1, h2, h3⟩ := h; cases h1; exact ⟨h2, h3⟩) (fun E w h => by cases h.1) (fun H locs Z => ?_)
  refine lv_aload_n X.x X.b dX6_catchUp_4 rfl (lv_at hl 0 rfl) ?_
  refine z_gf inG_X6 (ci := 6) rfl 1 (Nat.le_of_ble_eq_true rfl) rfl X Z wd_184 0 rfl (v := .ref (ad 14)) rfl dX6_catchUp_5 ?_
  refine lv_aload_n X.x X.b dX6_catchUp_8 rfl (lv_at hl 0 rfl) ?_
  refine z_gf inG_X6 (ci := 6) rfl 0 (Nat.le_of_ble_eq_true rfl) rfl X Z wd_183 0 rfl (v := .ref (ad 1)) rfl dX6_catchUp_9 ?_
  refine x_keep X Z hl hH wd_372 wd_373 wd_374 wd_23 wd_375 ok_X2_keep (rest := []) (Nat.le_of_ble_eq_true rfl) ⟨Nat.le_of_ble_eq_true rfl, Nat.le_of_ble_eq_true rfl⟩ ⟨Nat.le_of_ble_eq_true rfl, Nat.le_of_ble_eq_true rfl⟩ dX6_catchUp_12 (fun α1 H locs Z => ?_)
  refine lv_aload_n X.x X.b dX6_catchUp_15 rfl (lv_at hl 0 rfl) ?_
  refine z_gf inG_X6 (ci := 6) rfl 0 (Nat.le_of_ble_eq_true rfl) rfl X Z wd_183 0 rfl (v := .ref (ad 1)) rfl dX6_catchUp_16 ?_
  refine lv_iload_n X.x X.b dX6_catchUp_19 rfl (lv_at hl 1 rfl) ?_
  obtain ⟨q2, hq2, hf⟩ := zb_ok hf
  refine z_callV X Z hl (mX3_deliverUnread l Δ (fun j => ad (j + 1)) reached lost size plots cliffs words needs told rea wread ltold lout sets x1 hq2) wd_513 wd_514 wd_515 wd_20 wd_516 ok_X3_deliverUnread 3 rfl 1 rfl (w' := ((wX6 Δ ad q2.2.1 lost size plots cliffs words needs q2.2.2.1 q2.2.2.2.1 q2.2.2.2.2.1 q2.2.2.2.2.2.1 q2.2.2.2.2.2.2 sets (nI (zo o k)) (nI (zk k + 1)) (zRows (zn n (zp o k)) α1) len codes gpl gps gcl gwo) ++ zPool Δ (zn n (zp o k)) α1 (zkeep o k n σ (reached, lost, size, plots, cliffs, words, needs, told, rea, wread, ltold, lout, sets)))) (zSub_tail su_14) fs_14 (zput_tail su_14 pu_14) rfl (rest := []) rfl (Nat.le_of_ble_eq_true rfl) ⟨Nat.le_of_ble_eq_true rfl, Nat.le_of_ble_eq_true rfl⟩ ⟨Nat.le_of_ble_eq_true rfl, Nat.le_of_ble_eq_true rfl⟩ (st1 := [.int q2.1]) rfl dX6_catchUp_20 (fun H locs Z => ?_)
  cases hf
  exact x_iret X Z ⟨_, rfl, rfl, _, rfl⟩ (Nat.le_of_ble_eq_true rfl) (Nat.le_of_ble_eq_true rfl) dX6_catchUp_23
set_option maxRecDepth 100000 in
set_option maxHeartbeats 4000000 in
theorem mX6_addAll (l : Launch) (hT : l.stackTraces = false) (Δ : zE) (ad : Nat → Nat) (reached : Int32) (lost : Int32) (size : Int32) (plots : Nat → Int32) (cliffs : Nat → Int32) (words : Nat → Int32) (needs : Nat → Int32) (told : Nat → Int32) (rea : Nat → Int32) (wread : Nat → Int32) (ltold : Nat → Int32) (lout : Nat → Int32) (sets : Nat → Int32) (len : Int32) (codes : Nat → Int32) (gpl : Int32) (gps : Int32) (gcl : Int32) (gwo : Int32) (o k n : Nat) (α : Nat → Nat → Nat) (σ : Nat → zSC) (hH : zH o k n)  {res : String ⊕ (Int32 × Int32 × (Nat → Int32) × (Nat → Int32) × (Nat → Int32) × (Nat → Int32) × Int32 × Int32 × Int32 × Int32 × Int32)} (hf : fX6_addAll size plots cliffs words needs len codes gpl gps gcl gwo = some res) : zMX l Δ yX6_addAll (.code yX6_addAll cX6_addAll 1 (some .int)) 6 105 13 127 [.ref (ad 0)] ((wX6 Δ ad reached lost size plots cliffs words needs told rea wread ltold lout sets (nI o) (nI k) (zRows n α) len codes gpl gps gcl gwo) ++ zPool Δ n α σ) (fun rv w1 => ∃ r : Int32 × Int32 × (Nat → Int32) × (Nat → Int32) × (Nat → Int32) × (Nat → Int32) × Int32 × Int32 × Int32 × Int32 × Int32, res = .inr r ∧ rv = some (.int r.1) ∧ ∃ α1 : Nat → Nat → Nat, w1 = ((wX6 Δ ad reached lost r.2.1 r.2.2.1 r.2.2.2.1 r.2.2.2.2.1 r.2.2.2.2.2.1 told rea wread ltold lout sets (nI (zo o k)) (nI (zk k + 1)) (zRows (zn n (zp o k)) α1) r.2.2.2.2.2.2.1 codes r.2.2.2.2.2.2.2.1 r.2.2.2.2.2.2.2.2.1 r.2.2.2.2.2.2.2.2.2.1 r.2.2.2.2.2.2.2.2.2.2) ++ zPool Δ (zn n (zp o k)) α1 (zkeep o k n σ (reached, lost, size, plots, cliffs, words, needs, told, rea, wread, ltold, lout, sets)))) (fun E w => res = .inl E ∧ ∃ g1 g2 g3 g4 : Int32, w = ((wX6 Δ ad reached lost size plots cliffs words needs told rea wread ltold lout sets (nI o) (nI k) (zRows n α) len codes g1 g2 g3 g4) ++ zPool Δ n α σ)) := by
  refine x_start hT (by decide +kernel) (Nat.le_of_ble_eq_true rfl) ?_
  intro p e s m args below meth c A ls Y htab Z hl
  have X := Y.1
  have hl : lv_has ls 1 [(0, .ref (ad 0))] := hl
  rw [fX6_addAll.eq_1] at hf
  refine lv_aload_n X.x X.b dX6_addAll_0 rfl (lv_at hl 0 rfl) ?_
  refine z_gf inG_X6 (ci := 6) rfl 2 (Nat.le_of_ble_eq_true rfl) rfl X Z wd_185 0 rfl (v := .ref (ad 16)) rfl dX6_addAll_1 ?_
  obtain ⟨q1, hq1, hf⟩ := zb_ok hf
  refine z_callV X Z hl (mX5_isComplete l Δ (fun j => ad (j + 16)) len codes gpl gps gcl gwo hq1) wd_531 wd_532 wd_533 wd_24 wd_534 ok_X5_isComplete 5 rfl 16 rfl (w' := ((wX6 Δ ad reached lost size plots cliffs words needs told rea wread ltold lout sets (nI o) (nI k) (zRows n α) len codes q1.2.1 q1.2.2.1 q1.2.2.2.1 q1.2.2.2.2) ++ zPool Δ n α σ)) (zSub_tail su_12) fs_12 (zput_tail su_12 pu_12) rfl (rest := []) rfl (Nat.le_of_ble_eq_true rfl) ⟨Nat.le_of_ble_eq_true rfl, Nat.le_of_ble_eq_true rfl⟩ ⟨Nat.le_of_ble_eq_true rfl, Nat.le_of_ble_eq_true rfl⟩ (st1 := [.int q1.1]) rfl dX6_addAll_4 (fun H locs Z => ?_)
  refine lv_if_ne (tgt := 20) X.x X.b dX6_addAll_7 (by decide) (fun b1 => ?_) (fun b1 => ?_)
  · have hf := zif_f b1 hf
    refine lv_aload_n X.x X.b dX6_addAll_20 rfl (lv_at hl 0 rfl) ?_
    refine z_gf inG_X6 (ci := 6) rfl 0 (Nat.le_of_ble_eq_true rfl) rfl X Z wd_183 0 rfl (v := .ref (ad 1)) rfl dX6_addAll_21 ?_
    refine z_gf inG_X3 (ci := 3) rfl 0 (Nat.le_of_ble_eq_true rfl) rfl X Z wd_106 1 rfl (v := .ref (ad 2)) rfl dX6_addAll_24 ?_
    refine z_gf inG_X4 (ci := 4) rfl 0 (Nat.le_of_ble_eq_true rfl) rfl X Z wd_56 2 rfl (v := .int size) rfl dX6_addAll_27 ?_
    refine lv_aload_n X.x X.b dX6_addAll_30 rfl (lv_at hl 0 rfl) ?_
    refine z_gf inG_X6 (ci := 6) rfl 2 (Nat.le_of_ble_eq_true rfl) rfl X Z wd_185 0 rfl (v := .ref (ad 16)) rfl dX6_addAll_31 ?_
    obtain ⟨q2, hq2, hf⟩ := zb_ok hf
    refine z_callV X Z hl (mX5_completeParts l Δ (fun j => ad (j + 16)) len codes q1.2.1 q1.2.2.1 q1.2.2.2.1 q1.2.2.2.2 hq2) wd_574 wd_575 wd_576 wd_24 wd_577 ok_X5_completeParts 5 rfl 16 rfl (w' := ((wX6 Δ ad reached lost size plots cliffs words needs told rea wread ltold lout sets (nI o) (nI k) (zRows n α) len codes q1.2.1 q1.2.2.1 q1.2.2.2.1 q1.2.2.2.2) ++ zPool Δ n α σ)) (zSub_tail su_12) fs_12 (zput_tail su_12 pu_12) rfl (rest := [.int size]) rfl (Nat.le_of_ble_eq_true rfl) ⟨Nat.le_of_ble_eq_true rfl, Nat.le_of_ble_eq_true rfl⟩ ⟨Nat.le_of_ble_eq_true rfl, Nat.le_of_ble_eq_true rfl⟩ (st1 := [.int q2, .int size]) rfl dX6_addAll_34 (fun H locs Z => ?_)
    refine lv_iadd X.x X.b dX6_addAll_37 ?_
    refine lv_bipush (v := 20) X.x X.b dX6_addAll_38 kb_20 ?_
    refine lv_icmp_le (tgt := 53) X.x X.b dX6_addAll_40 (by decide) (fun b2 => ?_) (fun b2 => ?_)
    · have hf := zif_t b2 hf
      refine lv_aload_n X.x X.b dX6_addAll_53 rfl (lv_at hl 0 rfl) ?_
      refine z_gf inG_X6 (ci := 6) rfl 1 (Nat.le_of_ble_eq_true rfl) rfl X Z wd_184 0 rfl (v := .ref (ad 14)) rfl dX6_addAll_54 ?_
      refine lv_aload_n X.x X.b dX6_addAll_57 rfl (lv_at hl 0 rfl) ?_
      refine z_gf inG_X6 (ci := 6) rfl 0 (Nat.le_of_ble_eq_true rfl) rfl X Z wd_183 0 rfl (v := .ref (ad 1)) rfl dX6_addAll_58 ?_
      refine x_keep X Z hl hH wd_372 wd_373 wd_374 wd_23 wd_375 ok_X2_keep (rest := []) (Nat.le_of_ble_eq_true rfl) ⟨Nat.le_of_ble_eq_true rfl, Nat.le_of_ble_eq_true rfl⟩ ⟨Nat.le_of_ble_eq_true rfl, Nat.le_of_ble_eq_true rfl⟩ dX6_addAll_61 (fun α1 H locs Z => ?_)
      refine lv_aload_n X.x X.b dX6_addAll_64 rfl (lv_at hl 0 rfl) ?_
      refine z_gf inG_X6 (ci := 6) rfl 2 (Nat.le_of_ble_eq_true rfl) rfl X Z wd_185 0 rfl (v := .ref (ad 16)) rfl dX6_addAll_65 ?_
      refine lv_aload_n X.x X.b dX6_addAll_68 rfl (lv_at hl 0 rfl) ?_
      refine z_gf inG_X6 (ci := 6) rfl 0 (Nat.le_of_ble_eq_true rfl) rfl X Z wd_183 0 rfl (v := .ref (ad 1)) rfl dX6_addAll_69 ?_
      refine z_gf inG_X3 (ci := 3) rfl 0 (Nat.le_of_ble_eq_true rfl) rfl X Z wd_106 1 rfl (v := .ref (ad 2)) rfl dX6_addAll_72 ?_
      obtain ⟨q3, hq3, hf⟩ := zb_ok hf
      refine z_callV X Z hl (mX5_tellTo l Δ (fun j => ad (j + 16)) (fun j => ad (j + 2)) len codes q1.2.1 q1.2.2.1 q1.2.2.2.1 q1.2.2.2.2 size plots cliffs words needs hq3) wd_579 wd_580 wd_581 wd_24 wd_582 ok_X5_tellTo 5 rfl 16 rfl (w' := ((wX6 Δ ad reached lost q3.2.2.2.2.1 q3.2.2.2.2.2.1 q3.2.2.2.2.2.2.1 q3.2.2.2.2.2.2.2.1 q3.2.2.2.2.2.2.2.2 told rea wread ltold lout sets (nI (zo o k)) (nI (zk k + 1)) (zRows (zn n (zp o k)) α1) len codes q3.1 q3.2.1 q3.2.2.1 q3.2.2.2.1) ++ zPool Δ (zn n (zp o k)) α1 (zkeep o k n σ (reached, lost, size, plots, cliffs, words, needs, told, rea, wread, ltold, lout, sets)))) (zSub_tail su_17) fs_17 (zput_tail su_17 pu_17) rfl (rest := []) rfl (Nat.le_of_ble_eq_true rfl) ⟨Nat.le_of_ble_eq_true rfl, Nat.le_of_ble_eq_true rfl⟩ ⟨Nat.le_of_ble_eq_true rfl, Nat.le_of_ble_eq_true rfl⟩ (st1 := []) rfl dX6_addAll_75 (fun H locs Z => ?_)
      refine lv_aload_n X.x X.b dX6_addAll_78 rfl (lv_at hl 0 rfl) ?_
      refine z_gf inG_X6 (ci := 6) rfl 2 (Nat.le_of_ble_eq_true rfl) rfl X Z wd_185 0 rfl (v := .ref (ad 16)) rfl dX6_addAll_79 ?_
      refine lv_iconst (v := 0) X.x X.b dX6_addAll_82 ki_0 ?_
      refine z_pf (w' := ((wX6 Δ ad reached lost q3.2.2.2.2.1 q3.2.2.2.2.2.1 q3.2.2.2.2.2.2.1 q3.2.2.2.2.2.2.2.1 q3.2.2.2.2.2.2.2.2 told rea wread ltold lout sets (nI (zo o k)) (nI (zk k + 1)) (zRows (zn n (zp o k)) α1) 0 codes q3.1 q3.2.1 q3.2.2.1 q3.2.2.2.1) ++ zPool Δ (zn n (zp o k)) α1 (zkeep o k n σ (reached, lost, size, plots, cliffs, words, needs, told, rea, wread, ltold, lout, sets)))) inG_X5 (ci := 5) rfl tyX5 tyX5_ok nmX5 1 (Nat.le_of_ble_eq_true rfl) rfl rfl X Z wd_174 16 rfl rfl rfl (Nat.le_of_ble_eq_true rfl) rfl dX6_addAll_83 (fun H locs Z => ?_)
      refine lv_aload_n X.x X.b dX6_addAll_86 rfl (lv_at hl 0 rfl) ?_
      refine z_gf inG_X6 (ci := 6) rfl 0 (Nat.le_of_ble_eq_true rfl) rfl X Z wd_183 0 rfl (v := .ref (ad 1)) rfl dX6_addAll_87 ?_
      refine z_gf inG_X3 (ci := 3) rfl 0 (Nat.le_of_ble_eq_true rfl) rfl X Z wd_106 1 rfl (v := .ref (ad 2)) rfl dX6_addAll_90 ?_
      refine z_gf inG_X4 (ci := 4) rfl 0 (Nat.le_of_ble_eq_true rfl) rfl X Z wd_56 2 rfl (v := .int q3.2.2.2.2.1) rfl dX6_addAll_93 ?_
      cases hf
      exact x_iret X Z ⟨_, rfl, rfl, _, rfl⟩ (Nat.le_of_ble_eq_true rfl) (Nat.le_of_ble_eq_true rfl) dX6_addAll_96
    · have hf := zif_f b2 hf
      cases hf
      exact x_throw Y htab Z hl wd_201 wd_30 (is := 147) (text := "there would be more than 20 parts") (by decide +kernel) (ic := 55) xg_55 xn_55 xo_51_55 (by decide +kernel) (by decide +kernel) dX6_addAll_43 dX6_addAll_46 dX6_addAll_47 dX6_addAll_49 dX6_addAll_52 (Nat.le_of_ble_eq_true rfl) (Nat.le_of_ble_eq_true rfl) (Nat.le_of_ble_eq_true rfl) (Nat.le_of_ble_eq_true rfl) ⟨rfl, _, _, _, _, rfl⟩ (Nat.le_of_ble_eq_true rfl) (Nat.le_of_ble_eq_true rfl)
  · have hf := zif_t b1 hf
    cases hf
    exact x_throw Y htab Z hl wd_297 wd_29 (is := 142) (text := "the buffer is not complete parts as a text") (by decide +kernel) (ic := 38) xg_38 xn_38 xo_34_38 (by decide +kernel) (by decide +kernel) dX6_addAll_10 dX6_addAll_13 dX6_addAll_14 dX6_addAll_16 dX6_addAll_19 (Nat.le_of_ble_eq_true rfl) (Nat.le_of_ble_eq_true rfl) (Nat.le_of_ble_eq_true rfl) (Nat.le_of_ble_eq_true rfl) ⟨rfl, _, _, _, _, rfl⟩ (Nat.le_of_ble_eq_true rfl) (Nat.le_of_ble_eq_true rfl)
set_option maxRecDepth 100000 in
set_option maxHeartbeats 4000000 in
theorem mX6_undo (l : Launch) (hT : l.stackTraces = false) (Δ : zE) (ad : Nat → Nat) (reached : Int32) (lost : Int32) (size : Int32) (plots : Nat → Int32) (cliffs : Nat → Int32) (words : Nat → Int32) (needs : Nat → Int32) (told : Nat → Int32) (rea : Nat → Int32) (wread : Nat → Int32) (ltold : Nat → Int32) (lout : Nat → Int32) (sets : Nat → Int32) (len : Int32) (codes : Nat → Int32) (gpl : Int32) (gps : Int32) (gcl : Int32) (gwo : Int32) (o k n : Nat) (α : Nat → Nat → Nat) (σ : Nat → zSC) (hH : zH o k n) : zMX l Δ yX6_undo (.code yX6_undo cX6_undo 2 (some .int)) 6 90 1 6 [.ref (ad 0)] ((wX6 Δ ad reached lost size plots cliffs words needs told rea wread ltold lout sets (nI o) (nI k) (zRows n α) len codes gpl gps gcl gwo) ++ zPool Δ n α σ) (fun rv w1 => ¬ k = 0 ∧ rv = some (.int (nI (k - 1))) ∧ w1 = ((wX6 Δ ad (zcp (reached, lost, size, plots, cliffs, words, needs, told, rea, wread, ltold, lout, sets) (σ (zl o k))).1 (zcp (reached, lost, size, plots, cliffs, words, needs, told, rea, wread, ltold, lout, sets) (σ (zl o k))).2.1 (zcp (reached, lost, size, plots, cliffs, words, needs, told, rea, wread, ltold, lout, sets) (σ (zl o k))).2.2.1 (zcp (reached, lost, size, plots, cliffs, words, needs, told, rea, wread, ltold, lout, sets) (σ (zl o k))).2.2.2.1 (zcp (reached, lost, size, plots, cliffs, words, needs, told, rea, wread, ltold, lout, sets) (σ (zl o k))).2.2.2.2.1 (zcp (reached, lost, size, plots, cliffs, words, needs, told, rea, wread, ltold, lout, sets) (σ (zl o k))).2.2.2.2.2.1 (zcp (reached, lost, size, plots, cliffs, words, needs, told, rea, wread, ltold, lout, sets) (σ (zl o k))).2.2.2.2.2.2.1 (zcp (reached, lost, size, plots, cliffs, words, needs, told, rea, wread, ltold, lout, sets) (σ (zl o k))).2.2.2.2.2.2.2.1 (zcp (reached, lost, size, plots, cliffs, words, needs, told, rea, wread, ltold, lout, sets) (σ (zl o k))).2.2.2.2.2.2.2.2.1 (zcp (reached, lost, size, plots, cliffs, words, needs, told, rea, wread, ltold, lout, sets) (σ (zl o k))).2.2.2.2.2.2.2.2.2.1 (zcp (reached, lost, size, plots, cliffs, words, needs, told, rea, wread, ltold, lout, sets) (σ (zl o k))).2.2.2.2.2.2.2.2.2.2.1 (zcp (reached, lost, size, plots, cliffs, words, needs, told, rea, wread, ltold, lout, sets) (σ (zl o k))).2.2.2.2.2.2.2.2.2.2.2.1 (zcp (reached, lost, size, plots, cliffs, words, needs, told, rea, wread, ltold, lout, sets) (σ (zl o k))).2.2.2.2.2.2.2.2.2.2.2.2 (nI o) (nI (k - 1)) (zRows n α) len codes gpl gps gcl gwo) ++ zPool Δ n α σ)) (fun E w => "java/lang/IllegalStateException" = E ∧ k = 0 ∧ w = ((wX6 Δ ad reached lost size plots cliffs words needs told rea wread ltold lout sets (nI o) (nI k) (zRows n α) len codes gpl gps gcl gwo) ++ zPool Δ n α σ)) := by
  refine x_start hT (by decide +kernel) (Nat.le_of_ble_eq_true rfl) ?_
  intro p e s m args below meth c A ls Y htab Z hl
  have X := Y.1
  have hl : lv_has ls 2 [(0, .ref (ad 0))] := hl
  refine lv_aload_n X.x X.b dX6_undo_0 rfl (lv_at hl 0 rfl) ?_
  refine z_gf inG_X6 (ci := 6) rfl 1 (Nat.le_of_ble_eq_true rfl) rfl X Z wd_184 0 rfl (v := .ref (ad 14)) rfl dX6_undo_1 ?_
  refine z_callV X Z hl (mX2_latest l Δ (fun j => ad (j + 14)) o k n α hH) wd_197 wd_198 wd_199 wd_23 wd_200 ok_X2_latest 2 rfl 14 rfl (w' := ((wX6 Δ ad reached lost size plots cliffs words needs told rea wread ltold lout sets (nI o) (nI k) (zRows n α) len codes gpl gps gcl gwo) ++ zPool Δ n α σ)) (zSub_tail su_18) fs_18 (zput_tail su_18 pu_18) rfl (rest := []) rfl (Nat.le_of_ble_eq_true rfl) ⟨Nat.le_of_ble_eq_true rfl, Nat.le_of_ble_eq_true rfl⟩ ⟨Nat.le_of_ble_eq_true rfl, Nat.le_of_ble_eq_true rfl⟩ (st1 := [if k = 0 then Value.null else .ref (α (zl o k) 0)]) rfl dX6_undo_4 (fun H locs Z => ?_)
  by_cases hk0 : k = 0
  · rw [if_pos hk0]
    refine lv_astore_nN (lv' := [(1, .null), (0, .ref (ad 0))]) X.x X.b dX6_undo_7 rfl hl (Nat.le_of_ble_eq_true rfl) rfl (fun ls hl => ?_)
    refine lv_aload_nN X.x X.b dX6_undo_8 rfl (lv_at hl 0 rfl) ?_
    refine lv_ifnonnullN X.x X.b dX6_undo_9 ?_
    exact x_throw Y htab Z hl wd_201 wd_30 (is := 157) (text := "there is no saved state") (by decide +kernel) (ic := 55) xg_55 xn_55 xo_51_55 (by decide +kernel) (by decide +kernel) dX6_undo_12 dX6_undo_15 dX6_undo_16 dX6_undo_18 dX6_undo_21 (Nat.le_of_ble_eq_true rfl) (Nat.le_of_ble_eq_true rfl) (Nat.le_of_ble_eq_true rfl) (Nat.le_of_ble_eq_true rfl) ⟨rfl, hk0, rfl⟩ (Nat.le_of_ble_eq_true rfl) (Nat.le_of_ble_eq_true rfl)
  · rw [if_neg hk0]
    refine lv_astore_n (lv' := [(1, .ref (α (zl o k) 0)), (0, .ref (ad 0))]) X.x X.b dX6_undo_7 rfl hl (Nat.le_of_ble_eq_true rfl) rfl (fun ls hl => ?_)
    refine lv_aload_n X.x X.b dX6_undo_8 rfl (lv_at hl 0 rfl) ?_
    refine lv_ifnonnull (tgt := 22) X.x X.b dX6_undo_9 (by decide) ?_
    have hlt : zl o k < n := by obtain ⟨ho, hk, hn, hkn, hon⟩ := id hH; have hz : zl o k = (o + k - 1) % 6 := rfl; omega
    refine lv_aload_n X.x X.b dX6_undo_22 rfl (lv_at hl 1 rfl) ?_
    refine z_gf inG_X6 (ci := 6) rfl 0 (Nat.le_of_ble_eq_true rfl) rfl X Z wd_183 0 rfl (v := .ref (ad 1)) rfl dX6_undo_23 ?_
    refine lv_aload_n X.x X.b dX6_undo_26 rfl (lv_at hl 0 rfl) ?_
    have e1 : ∀ (kk : Int32) (c1 : zSC), wX6 Δ ad c1.1 c1.2.1 c1.2.2.1 c1.2.2.2.1 c1.2.2.2.2.1 c1.2.2.2.2.2.1 c1.2.2.2.2.2.2.1 c1.2.2.2.2.2.2.2.1 c1.2.2.2.2.2.2.2.2.1 c1.2.2.2.2.2.2.2.2.2.1 c1.2.2.2.2.2.2.2.2.2.2.1 c1.2.2.2.2.2.2.2.2.2.2.2.1 c1.2.2.2.2.2.2.2.2.2.2.2.2 (nI o) kk (zRows n α) len codes gpl gps gcl gwo = (([(ad 0, .inr (6, [.ref (ad 1), .ref (ad 14), .ref (ad 16)]))] ++ wS Δ (fun j => ad (j + 1)) c1) ++ wX2 Δ (fun j => ad (j + 14)) (nI o) kk (zRows n α)) ++ wX5 Δ (fun j => ad (j + 16)) len codes gpl gps gcl gwo := fun _ _ => rfl
    have Z : zW Δ A s.heap ((wS Δ (fun j => ad (j + 1)) (reached, lost, size, plots, cliffs, words, needs, told, rea, wread, ltold, lout, sets) ++ wS Δ (α (zl o k)) (σ (zl o k))) ++ (([(ad 0, .inr (6, [.ref (ad 1), .ref (ad 14), .ref (ad 16)]))] ++ wX2 Δ (fun j => ad (j + 14)) (nI o) (nI k) (zRows n α)) ++ (wX5 Δ (fun j => ad (j + 16)) len codes gpl gps gcl gwo ++ zBut Δ n (zl o k) α σ))) _ _ := Z.perm (zPerm (fun x => by have hq := (zPool_at (Δ := Δ) (α := α) (σ := σ) hlt (fun _ _ => rfl)).count_eq x; have e2 := e1 (nI k) (reached, lost, size, plots, cliffs, words, needs, told, rea, wread, ltold, lout, sets); dsimp only at e2; rw [e2]; simp only [List.count_append] at hq ⊢; omega))
    refine z_callVP X Z hl (mX3_copyFrom l Δ (fun j => ad (j + 1)) (α (zl o k)) reached lost size plots cliffs words needs told rea wread ltold lout sets (σ (zl o k)).1 (σ (zl o k)).2.1 (σ (zl o k)).2.2.1 (σ (zl o k)).2.2.2.1 (σ (zl o k)).2.2.2.2.1 (σ (zl o k)).2.2.2.2.2.1 (σ (zl o k)).2.2.2.2.2.2.1 (σ (zl o k)).2.2.2.2.2.2.2.1 (σ (zl o k)).2.2.2.2.2.2.2.2.1 (σ (zl o k)).2.2.2.2.2.2.2.2.2.1 (σ (zl o k)).2.2.2.2.2.2.2.2.2.2.1 (σ (zl o k)).2.2.2.2.2.2.2.2.2.2.2.1 (σ (zl o k)).2.2.2.2.2.2.2.2.2.2.2.2 (zcp_eq (reached, lost, size, plots, cliffs, words, needs, told, rea, wread, ltold, lout, sets) (σ (zl o k)))) wd_269 wd_270 wd_271 wd_20 wd_272 ok_X3_copyFrom 3 rfl 0 rfl (List.Perm.refl _) rfl rfl (rest := []) rfl (Nat.le_of_ble_eq_true rfl) ⟨Nat.le_of_ble_eq_true rfl, Nat.le_of_ble_eq_true rfl⟩ ⟨Nat.le_of_ble_eq_true rfl, Nat.le_of_ble_eq_true rfl⟩ (st1 := []) rfl dX6_undo_27 (fun H locs Z => ?_)
    have Z : zW Δ A s.heap ((wS Δ (fun j => ad (j + 1)) (zcp (reached, lost, size, plots, cliffs, words, needs, told, rea, wread, ltold, lout, sets) (σ (zl o k))) ++ wS Δ (α (zl o k)) (σ (zl o k))) ++ (([(ad 0, .inr (6, [.ref (ad 1), .ref (ad 14), .ref (ad 16)]))] ++ wX2 Δ (fun j => ad (j + 14)) (nI o) (nI k) (zRows n α)) ++ (wX5 Δ (fun j => ad (j + 16)) len codes gpl gps gcl gwo ++ zBut Δ n (zl o k) α σ))) _ _ := Z
    have Z : zW Δ A s.heap ((wX6 Δ ad (zcp (reached, lost, size, plots, cliffs, words, needs, told, rea, wread, ltold, lout, sets) (σ (zl o k))).1 (zcp (reached, lost, size, plots, cliffs, words, needs, told, rea, wread, ltold, lout, sets) (σ (zl o k))).2.1 (zcp (reached, lost, size, plots, cliffs, words, needs, told, rea, wread, ltold, lout, sets) (σ (zl o k))).2.2.1 (zcp (reached, lost, size, plots, cliffs, words, needs, told, rea, wread, ltold, lout, sets) (σ (zl o k))).2.2.2.1 (zcp (reached, lost, size, plots, cliffs, words, needs, told, rea, wread, ltold, lout, sets) (σ (zl o k))).2.2.2.2.1 (zcp (reached, lost, size, plots, cliffs, words, needs, told, rea, wread, ltold, lout, sets) (σ (zl o k))).2.2.2.2.2.1 (zcp (reached, lost, size, plots, cliffs, words, needs, told, rea, wread, ltold, lout, sets) (σ (zl o k))).2.2.2.2.2.2.1 (zcp (reached, lost, size, plots, cliffs, words, needs, told, rea, wread, ltold, lout, sets) (σ (zl o k))).2.2.2.2.2.2.2.1 (zcp (reached, lost, size, plots, cliffs, words, needs, told, rea, wread, ltold, lout, sets) (σ (zl o k))).2.2.2.2.2.2.2.2.1 (zcp (reached, lost, size, plots, cliffs, words, needs, told, rea, wread, ltold, lout, sets) (σ (zl o k))).2.2.2.2.2.2.2.2.2.1 (zcp (reached, lost, size, plots, cliffs, words, needs, told, rea, wread, ltold, lout, sets) (σ (zl o k))).2.2.2.2.2.2.2.2.2.2.1 (zcp (reached, lost, size, plots, cliffs, words, needs, told, rea, wread, ltold, lout, sets) (σ (zl o k))).2.2.2.2.2.2.2.2.2.2.2.1 (zcp (reached, lost, size, plots, cliffs, words, needs, told, rea, wread, ltold, lout, sets) (σ (zl o k))).2.2.2.2.2.2.2.2.2.2.2.2 (nI o) (nI k) (zRows n α) len codes gpl gps gcl gwo) ++ zPool Δ n α σ) _ _ := Z.perm (zPerm (fun x => by have hq := (zPool_at (Δ := Δ) (α := α) (σ := σ) hlt (fun _ _ => rfl)).count_eq x; rw [e1 (nI k) (zcp (reached, lost, size, plots, cliffs, words, needs, told, rea, wread, ltold, lout, sets) (σ (zl o k)))]; simp only [List.count_append] at hq ⊢; omega))
    refine lv_aload_n X.x X.b dX6_undo_30 rfl (lv_at hl 1 rfl) ?_
    refine z_gf inG_X6 (ci := 6) rfl 1 (Nat.le_of_ble_eq_true rfl) rfl X Z wd_184 0 rfl (v := .ref (ad 14)) rfl dX6_undo_31 ?_
    refine z_callV X Z hl (mX2_dropLatest l Δ (fun j => ad (j + 14)) (nI o) (nI k) (zRows n α) (res := nI k - 1) rfl) wd_286 wd_287 wd_288 wd_23 wd_289 ok_X2_dropLatest 2 rfl 14 rfl (w' := ((wX6 Δ ad (zcp (reached, lost, size, plots, cliffs, words, needs, told, rea, wread, ltold, lout, sets) (σ (zl o k))).1 (zcp (reached, lost, size, plots, cliffs, words, needs, told, rea, wread, ltold, lout, sets) (σ (zl o k))).2.1 (zcp (reached, lost, size, plots, cliffs, words, needs, told, rea, wread, ltold, lout, sets) (σ (zl o k))).2.2.1 (zcp (reached, lost, size, plots, cliffs, words, needs, told, rea, wread, ltold, lout, sets) (σ (zl o k))).2.2.2.1 (zcp (reached, lost, size, plots, cliffs, words, needs, told, rea, wread, ltold, lout, sets) (σ (zl o k))).2.2.2.2.1 (zcp (reached, lost, size, plots, cliffs, words, needs, told, rea, wread, ltold, lout, sets) (σ (zl o k))).2.2.2.2.2.1 (zcp (reached, lost, size, plots, cliffs, words, needs, told, rea, wread, ltold, lout, sets) (σ (zl o k))).2.2.2.2.2.2.1 (zcp (reached, lost, size, plots, cliffs, words, needs, told, rea, wread, ltold, lout, sets) (σ (zl o k))).2.2.2.2.2.2.2.1 (zcp (reached, lost, size, plots, cliffs, words, needs, told, rea, wread, ltold, lout, sets) (σ (zl o k))).2.2.2.2.2.2.2.2.1 (zcp (reached, lost, size, plots, cliffs, words, needs, told, rea, wread, ltold, lout, sets) (σ (zl o k))).2.2.2.2.2.2.2.2.2.1 (zcp (reached, lost, size, plots, cliffs, words, needs, told, rea, wread, ltold, lout, sets) (σ (zl o k))).2.2.2.2.2.2.2.2.2.2.1 (zcp (reached, lost, size, plots, cliffs, words, needs, told, rea, wread, ltold, lout, sets) (σ (zl o k))).2.2.2.2.2.2.2.2.2.2.2.1 (zcp (reached, lost, size, plots, cliffs, words, needs, told, rea, wread, ltold, lout, sets) (σ (zl o k))).2.2.2.2.2.2.2.2.2.2.2.2 (nI o) (nI k - 1) (zRows n α) len codes gpl gps gcl gwo) ++ zPool Δ n α σ)) (zSub_tail su_18) fs_18 (zput_tail su_18 pu_18) rfl (rest := []) rfl (Nat.le_of_ble_eq_true rfl) ⟨Nat.le_of_ble_eq_true rfl, Nat.le_of_ble_eq_true rfl⟩ ⟨Nat.le_of_ble_eq_true rfl, Nat.le_of_ble_eq_true rfl⟩ (st1 := []) rfl dX6_undo_34 (fun H locs Z => ?_)
    have ek : nI k - 1 = nI (k - 1) := by
      obtain ⟨j, rfl⟩ : ∃ j, k = j + 1 := ⟨k - 1, by omega⟩
      exact nI_pred j
    rw [ek] at Z
    refine lv_aload_n X.x X.b dX6_undo_37 rfl (lv_at hl 1 rfl) ?_
    refine z_gf inG_X6 (ci := 6) rfl 1 (Nat.le_of_ble_eq_true rfl) rfl X Z wd_184 0 rfl (v := .ref (ad 14)) rfl dX6_undo_38 ?_
    refine z_gf inG_X2 (ci := 2) rfl 2 (Nat.le_of_ble_eq_true rfl) rfl X Z wd_135 14 rfl (v := .int (nI (k - 1))) rfl dX6_undo_41 ?_
    exact x_iret X Z ⟨hk0, rfl, rfl⟩ (Nat.le_of_ble_eq_true rfl) (Nat.le_of_ble_eq_true rfl) dX6_undo_44
