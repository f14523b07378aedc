set_option maxRecDepth 100000 in
set_option maxHeartbeats 4000000 in
theorem mX6_append (l : Launch) (hT : l.stackTraces = false) (Δ : zE) (ad : Nat → Nat) (reached : Int32) (lost : Int32) (size : Int32) (plots : Nat → Int32) (cliffs : Nat → Int32) (words : Nat → Int32) (needs : Nat → Int32) (told : Nat → Int32) (rea : Nat → Int32) (wread : Nat → Int32) (ltold : Nat → Int32) (lout : Nat → Int32) (sets : Nat → Int32) (oldest : Int32) (kept : Int32) (rows : Nat → Option Nat) (len : Int32) (codes : Nat → Int32) (gpl : Int32) (gps : Int32) (gcl : Int32) (gwo : Int32) (x1 : Int32) {res : String ⊕ (Int32 × Int32 × (Nat → Int32))} (hf : fX6_append len codes x1 = some res) : zMX l Δ yX6_append (.code yX6_append cX6_append 2 (some .int)) 6 90 1 6 [.ref (ad 0), .int x1] (wX6 Δ ad reached lost size plots cliffs words needs told rea wread ltold lout sets oldest kept rows len codes gpl gps gcl gwo) (fun rv w1 => ∃ r : Int32 × Int32 × (Nat → Int32), res = .inr r ∧ rv = some (.int r.1) ∧ w1 = (wX6 Δ ad reached lost size plots cliffs words needs told rea wread ltold lout sets oldest kept rows r.2.1 r.2.2 gpl gps gcl gwo)) (fun E w => res = .inl E ∧ w = (wX6 Δ ad reached lost size plots cliffs words needs told rea wread ltold lout sets oldest kept rows len codes gpl gps gcl gwo)) := by
  refine x_start hT (by decide +kernel) (Nat.le_of_ble_eq_true rfl) ?_
  intro p e s m args below meth c A ls Y htab Z hl
  have X := Y.1
  have hl : lv_has ls 2 [(0, .ref (ad 0)), (1, .int x1)] := hl
  rw [fX6_append.eq_1] at hf
  refine lv_iload_n X.x X.b dX6_append_0 rfl (lv_at hl 1 rfl) ?_
  refine lv_bipush (v := 33) X.x X.b dX6_append_1 kb_33 ?_
  refine lv_icmp_lt (tgt := 12) X.x X.b dX6_append_3 (by decide) (fun b1 => ?_) (fun b1 => ?_)
  · have hf := zif_t b1 hf
    cases hf
    exact x_throw Y htab Z hl wd_297 wd_29 (is := 125) (text := "the code is 33 to 126") (by decide +kernel) (ic := 38) xg_38 xn_38 xo_34_38 (by decide +kernel) (by decide +kernel) dX6_append_12 dX6_append_15 dX6_append_16 dX6_append_18 dX6_append_21 (Nat.le_of_ble_eq_true rfl) (Nat.le_of_ble_eq_true rfl) (Nat.le_of_ble_eq_true rfl) (Nat.le_of_ble_eq_true rfl) ⟨rfl, rfl⟩ (Nat.le_of_ble_eq_true rfl) (Nat.le_of_ble_eq_true rfl)
  · have hf := zif_f b1 hf
    refine lv_iload_n X.x X.b dX6_append_6 rfl (lv_at hl 1 rfl) ?_
    refine lv_bipush (v := 126) X.x X.b dX6_append_7 kb_126 ?_
    refine lv_icmp_le (tgt := 22) X.x X.b dX6_append_9 (by decide) (fun b2 => ?_) (fun b2 => ?_)
    · have hf := zif_t b2 hf
      refine lv_aload_n X.x X.b dX6_append_22 rfl (lv_at hl 0 rfl) ?_
      refine z_gf inG_X6 (ci := 6) rfl 2 (Nat.le_of_ble_eq_true rfl) rfl X Z wd_185 0 rfl (v := .ref (ad 16)) rfl dX6_append_23 ?_
      refine z_gf inG_X5 (ci := 5) rfl 1 (Nat.le_of_ble_eq_true rfl) rfl X Z wd_174 16 rfl (v := .int len) rfl dX6_append_26 ?_
      refine lv_bipush (v := 60) X.x X.b dX6_append_29 kb_60 ?_
      refine lv_icmp_lt (tgt := 44) X.x X.b dX6_append_31 (by decide) (fun b3 => ?_) (fun b3 => ?_)
      · have hf := zif_t b3 hf
        refine lv_aload_n X.x X.b dX6_append_44 rfl (lv_at hl 0 rfl) ?_
        refine z_gf inG_X6 (ci := 6) rfl 2 (Nat.le_of_ble_eq_true rfl) rfl X Z wd_185 0 rfl (v := .ref (ad 16)) rfl dX6_append_45 ?_
        refine lv_iload_n X.x X.b dX6_append_48 rfl (lv_at hl 1 rfl) ?_
        obtain ⟨q1, hq1, hf⟩ := zb_ok hf
        refine z_callV X Z hl (mX5_put l Δ (fun j => ad (j + 16)) len codes gpl gps gcl gwo x1 hq1) wd_523 wd_524 wd_525 wd_24 wd_526 ok_X5_put 5 rfl 16 rfl (w' := (wX6 Δ ad reached lost size plots cliffs words needs told rea wread ltold lout sets oldest kept rows q1.1 q1.2 gpl gps gcl gwo)) su_12 fs_12 pu_12 rfl (rest := []) rfl (Nat.le_of_ble_eq_true rfl) ⟨Nat.le_of_ble_eq_true rfl, Nat.le_of_ble_eq_true rfl⟩ ⟨Nat.le_of_ble_eq_true rfl, Nat.le_of_ble_eq_true rfl⟩ (st1 := []) rfl dX6_append_49 (fun H locs Z => ?_)
        refine lv_aload_n X.x X.b dX6_append_52 rfl (lv_at hl 0 rfl) ?_
        refine z_gf inG_X6 (ci := 6) rfl 2 (Nat.le_of_ble_eq_true rfl) rfl X Z wd_185 0 rfl (v := .ref (ad 16)) rfl dX6_append_53 ?_
        refine z_gf inG_X5 (ci := 5) rfl 1 (Nat.le_of_ble_eq_true rfl) rfl X Z wd_174 16 rfl (v := .int q1.1) rfl dX6_append_56 ?_
        cases hf
        exact x_iret X Z ⟨_, rfl, rfl, rfl⟩ (Nat.le_of_ble_eq_true rfl) (Nat.le_of_ble_eq_true rfl) dX6_append_59
      · have hf := zif_f b3 hf
        cases hf
        exact x_throw Y htab Z hl wd_201 wd_30 (is := 130) (text := "the buffer has 60 characters") (by decide +kernel) (ic := 55) xg_55 xn_55 xo_51_55 (by decide +kernel) (by decide +kernel) dX6_append_34 dX6_append_37 dX6_append_38 dX6_append_40 dX6_append_43 (Nat.le_of_ble_eq_true rfl) (Nat.le_of_ble_eq_true rfl) (Nat.le_of_ble_eq_true rfl) (Nat.le_of_ble_eq_true rfl) ⟨rfl, rfl⟩ (Nat.le_of_ble_eq_true rfl) (Nat.le_of_ble_eq_true rfl)
    · have hf := zif_f b2 hf
      cases hf
      exact x_throw Y htab Z hl wd_297 wd_29 (is := 125) (text := "the code is 33 to 126") (by decide +kernel) (ic := 38) xg_38 xn_38 xo_34_38 (by decide +kernel) (by decide +kernel) dX6_append_12 dX6_append_15 dX6_append_16 dX6_append_18 dX6_append_21 (Nat.le_of_ble_eq_true rfl) (Nat.le_of_ble_eq_true rfl) (Nat.le_of_ble_eq_true rfl) (Nat.le_of_ble_eq_true rfl) ⟨rfl, rfl⟩ (Nat.le_of_ble_eq_true rfl) (Nat.le_of_ble_eq_true rfl)
set_option maxRecDepth 100000 in
set_option maxHeartbeats 4000000 in
theorem mX6_checkPart (l : Launch) (hT : l.stackTraces = false) (Δ : zE) (ad : Nat → Nat) (reached : Int32) (lost : Int32) (size : Int32) (plots : Nat → Int32) (cliffs : Nat → Int32) (words : Nat → Int32) (needs : Nat → Int32) (told : Nat → Int32) (rea : Nat → Int32) (wread : Nat → Int32) (ltold : Nat → Int32) (lout : Nat → Int32) (sets : Nat → Int32) (oldest : Int32) (kept : Int32) (rows : Nat → Option Nat) (len : Int32) (codes : Nat → Int32) (gpl : Int32) (gps : Int32) (gcl : Int32) (gwo : Int32) (x1 : Int32) {res : String ⊕ Unit} (hf : fX6_checkPart size x1 = some res) : zMX l Δ yX6_checkPart (.code yX6_checkPart cX6_checkPart 2 none) 6 90 1 6 [.ref (ad 0), .int x1] (wX6 Δ ad reached lost size plots cliffs words needs told rea wread ltold lout sets oldest kept rows len codes gpl gps gcl gwo) (fun rv w1 => ∃ r : Unit, res = .inr r ∧ rv = none ∧ w1 = (wX6 Δ ad reached lost size plots cliffs words needs told rea wread ltold lout sets oldest kept rows len codes gpl gps gcl gwo)) (fun E w => res = .inl E ∧ w = (wX6 Δ ad reached lost size plots cliffs words needs told rea wread ltold lout sets oldest kept rows len codes gpl gps gcl gwo)) := by
  refine x_start hT (by decide +kernel) (Nat.le_of_ble_eq_true rfl) ?_
  intro p e s m args below meth c A ls Y htab Z hl
  have X := Y.1
  have hl : lv_has ls 2 [(0, .ref (ad 0)), (1, .int x1)] := hl
  rw [fX6_checkPart.eq_1] at hf
  refine lv_iload_n X.x X.b dX6_checkPart_0 rfl (lv_at hl 1 rfl) ?_
  refine lv_if_lt (tgt := 18) X.x X.b dX6_checkPart_1 (by decide) (fun b1 => ?_) (fun b1 => ?_)
  · have hf := zif_t b1 hf
    cases hf
    exact x_throw Y htab Z hl wd_394 wd_32 (is := 242) (text := "there is no such part") (by decide +kernel) (ic := 184) xg_184 xn_184 xo_180_184 (by decide +kernel) (by decide +kernel) dX6_checkPart_18 dX6_checkPart_21 dX6_checkPart_22 dX6_checkPart_24 dX6_checkPart_27 (Nat.le_of_ble_eq_true rfl) (Nat.le_of_ble_eq_true rfl) (Nat.le_of_ble_eq_true rfl) (Nat.le_of_ble_eq_true rfl) ⟨rfl, rfl⟩ (Nat.le_of_ble_eq_true rfl) (Nat.le_of_ble_eq_true rfl)
  · have hf := zif_f b1 hf
    refine lv_iload_n X.x X.b dX6_checkPart_4 rfl (lv_at hl 1 rfl) ?_
    refine lv_aload_n X.x X.b dX6_checkPart_5 rfl (lv_at hl 0 rfl) ?_
    refine z_gf inG_X6 (ci := 6) rfl 0 (Nat.le_of_ble_eq_true rfl) rfl X Z wd_183 0 rfl (v := .ref (ad 1)) rfl dX6_checkPart_6 ?_
    refine z_gf inG_X3 (ci := 3) rfl 0 (Nat.le_of_ble_eq_true rfl) rfl X Z wd_106 1 rfl (v := .ref (ad 2)) rfl dX6_checkPart_9 ?_
    refine z_gf inG_X4 (ci := 4) rfl 0 (Nat.le_of_ble_eq_true rfl) rfl X Z wd_56 2 rfl (v := .int size) rfl dX6_checkPart_12 ?_
    refine lv_icmp_lt (tgt := 28) X.x X.b dX6_checkPart_15 (by decide) (fun b2 => ?_) (fun b2 => ?_)
    · have hf := zif_t b2 hf
      cases hf
      exact x_vret X Z ⟨_, rfl, rfl, rfl⟩ (Nat.le_of_ble_eq_true rfl) (Nat.le_of_ble_eq_true rfl) dX6_checkPart_28
    · have hf := zif_f b2 hf
      cases hf
      exact x_throw Y htab Z hl wd_394 wd_32 (is := 242) (text := "there is no such part") (by decide +kernel) (ic := 184) xg_184 xn_184 xo_180_184 (by decide +kernel) (by decide +kernel) dX6_checkPart_18 dX6_checkPart_21 dX6_checkPart_22 dX6_checkPart_24 dX6_checkPart_27 (Nat.le_of_ble_eq_true rfl) (Nat.le_of_ble_eq_true rfl) (Nat.le_of_ble_eq_true rfl) (Nat.le_of_ble_eq_true rfl) ⟨rfl, rfl⟩ (Nat.le_of_ble_eq_true rfl) (Nat.le_of_ble_eq_true rfl)
set_option maxRecDepth 100000 in
set_option maxHeartbeats 4000000 in
theorem mX6_checkWhat (l : Launch) (hT : l.stackTraces = false) (Δ : zE)  (x0 : Int32) (x1 : Int32) {res : String ⊕ Unit} (hf : fX6_checkWhat x0 x1 = some res) : zMX l Δ yX6_checkWhat (.code yX6_checkWhat cX6_checkWhat 2 none) 6 90 1 6 [.int x0, .int x1] [] (fun rv w1 => ∃ r : Unit, res = .inr r ∧ rv = none ∧ w1 = []) (fun E w => res = .inl E ∧ w = []) := by
  refine x_start hT (by decide +kernel) (Nat.le_of_ble_eq_true rfl) ?_
  intro p e s m args below meth c A ls Y htab Z hl
  have X := Y.1
  have hl : lv_has ls 2 [(0, .int x0), (1, .int x1)] := hl
  rw [fX6_checkWhat.eq_1] at hf
  refine lv_iload_n X.x X.b dX6_checkWhat_0 rfl (lv_at hl 0 rfl) ?_
  refine lv_if_lt (tgt := 9) X.x X.b dX6_checkWhat_1 (by decide) (fun b1 => ?_) (fun b1 => ?_)
  · have hf := zif_t b1 hf
    cases hf
    exact x_throw Y htab Z hl wd_297 wd_29 (is := 248) (text := "what is out of range") (by decide +kernel) (ic := 38) xg_38 xn_38 xo_34_38 (by decide +kernel) (by decide +kernel) dX6_checkWhat_9 dX6_checkWhat_12 dX6_checkWhat_13 dX6_checkWhat_15 dX6_checkWhat_18 (Nat.le_of_ble_eq_true rfl) (Nat.le_of_ble_eq_true rfl) (Nat.le_of_ble_eq_true rfl) (Nat.le_of_ble_eq_true rfl) ⟨rfl, rfl⟩ (Nat.le_of_ble_eq_true rfl) (Nat.le_of_ble_eq_true rfl)
  · have hf := zif_f b1 hf
    refine lv_iload_n X.x X.b dX6_checkWhat_4 rfl (lv_at hl 0 rfl) ?_
    refine lv_iload_n X.x X.b dX6_checkWhat_5 rfl (lv_at hl 1 rfl) ?_
    refine lv_icmp_le (tgt := 19) X.x X.b dX6_checkWhat_6 (by decide) (fun b2 => ?_) (fun b2 => ?_)
    · have hf := zif_t b2 hf
      cases hf
      exact x_vret X Z ⟨_, rfl, rfl, rfl⟩ (Nat.le_of_ble_eq_true rfl) (Nat.le_of_ble_eq_true rfl) dX6_checkWhat_19
    · have hf := zif_f b2 hf
      cases hf
      exact x_throw Y htab Z hl wd_297 wd_29 (is := 248) (text := "what is out of range") (by decide +kernel) (ic := 38) xg_38 xn_38 xo_34_38 (by decide +kernel) (by decide +kernel) dX6_checkWhat_9 dX6_checkWhat_12 dX6_checkWhat_13 dX6_checkWhat_15 dX6_checkWhat_18 (Nat.le_of_ble_eq_true rfl) (Nat.le_of_ble_eq_true rfl) (Nat.le_of_ble_eq_true rfl) (Nat.le_of_ble_eq_true rfl) ⟨rfl, rfl⟩ (Nat.le_of_ble_eq_true rfl) (Nat.le_of_ble_eq_true rfl)
set_option maxRecDepth 100000 in
set_option maxHeartbeats 4000000 in
theorem mX6_part (l : Launch) (hT : l.stackTraces = false) (Δ : zE) (ad : Nat → Nat) (reached : Int32) (lost : Int32) (size : Int32) (plots : Nat → Int32) (cliffs : Nat → Int32) (words : Nat → Int32) (needs : Nat → Int32) (told : Nat → Int32) (rea : Nat → Int32) (wread : Nat → Int32) (ltold : Nat → Int32) (lout : Nat → Int32) (sets : Nat → Int32) (oldest : Int32) (kept : Int32) (rows : Nat → Option Nat) (len : Int32) (codes : Nat → Int32) (gpl : Int32) (gps : Int32) (gcl : Int32) (gwo : Int32) (x1 : Int32) (x2 : Int32) {res : String ⊕ Int32} (hf : fX6_part size plots cliffs words needs rea x1 x2 = some res) : zMX l Δ yX6_part (.code yX6_part cX6_part 3 (some .int)) 7 111 2 12 [.ref (ad 0), .int x1, .int x2] (wX6 Δ ad reached lost size plots cliffs words needs told rea wread ltold lout sets oldest kept rows len codes gpl gps gcl gwo) (fun rv w1 => ∃ r : Int32, res = .inr r ∧ rv = some (.int r) ∧ w1 = (wX6 Δ ad reached lost size plots cliffs words needs told rea wread ltold lout sets oldest kept rows len codes gpl gps gcl gwo)) (fun E w => res = .inl E ∧ w = (wX6 Δ ad reached lost size plots cliffs words needs told rea wread ltold lout sets oldest kept rows len codes gpl gps gcl gwo)) := by
  refine x_start hT (by decide +kernel) (Nat.le_of_ble_eq_true rfl) ?_
  intro p e s m args below meth c A ls Y htab Z hl
  have X := Y.1
  have hl : lv_has ls 3 [(0, .ref (ad 0)), (1, .int x1), (2, .int x2)] := hl
  rw [fX6_part.eq_1] at hf
  refine lv_aload_n X.x X.b dX6_part_0 rfl (lv_at hl 0 rfl) ?_
  refine lv_iload_n X.x X.b dX6_part_1 rfl (lv_at hl 1 rfl) ?_
  rcases zxb_ok hf with ⟨E, hq1, hr⟩ | ⟨q1, hq1, hf⟩
  · subst hr
    exact x_callV_out Y htab Z hl (mX6_checkPart l hT Δ ad reached lost size plots cliffs words needs told rea wread ltold lout sets oldest kept rows len codes gpl gps gcl gwo x1 hq1) wd_390 wd_392 wd_3 wd_19 wd_393 ok_X6_checkPart 6 rfl 0 rfl su_13 rfl (rest := []) rfl (Nat.le_of_ble_eq_true rfl) ⟨Nat.le_of_ble_eq_true rfl, Nat.le_of_ble_eq_true rfl⟩ ⟨Nat.le_of_ble_eq_true rfl, Nat.le_of_ble_eq_true rfl⟩ dX6_part_2 (fun rv w h => by obtain ⟨r, h1, -⟩ := h; cases h1) (fun E w h => by obtain ⟨h1, h2⟩ := h; cases h1; exact ⟨h2, rfl, rfl⟩) (Nat.le_of_ble_eq_true rfl) (Nat.le_of_ble_eq_true rfl)
  refine x_callV_in (w' := (wX6 Δ ad reached lost size plots cliffs words needs told rea wread ltold lout sets oldest kept rows len codes gpl gps gcl gwo)) (rv := none) Y Z hl (mX6_checkPart l hT Δ ad reached lost size plots cliffs words needs told rea wread ltold lout sets oldest kept rows len codes gpl gps gcl gwo x1 hq1) wd_390 wd_392 wd_3 wd_19 wd_393 ok_X6_checkPart 6 rfl 0 rfl su_13 fs_13 pu_13 rfl (rest := []) rfl (Nat.le_of_ble_eq_true rfl) ⟨Nat.le_of_ble_eq_true rfl, Nat.le_of_ble_eq_true rfl⟩ ⟨Nat.le_of_ble_eq_true rfl, Nat.le_of_ble_eq_true rfl⟩ (st1 := []) rfl dX6_part_2 (fun rv w h => by obtain ⟨r, h1, h2, h3⟩ := h; cases h1; exact ⟨h2, h3⟩) (fun E w h => by cases h.1) (fun H locs Z => ?_)
  refine lv_iload_n X.x X.b dX6_part_5 rfl (lv_at hl 2 rfl) ?_
  refine lv_bipush (v := 6) X.x X.b dX6_part_6 kb_6 ?_
  rcases zxb_ok hf with ⟨E, hq2, hr⟩ | ⟨q2, hq2, hf⟩
  · subst hr
    exact x_callS_out Y htab Z hl (mX6_checkWhat l hT Δ  x2 6 hq2) wd_294 wd_295 wd_19 wd_296 ok_X6_checkWhat zSub_nil rfl (rest := []) rfl (Nat.le_of_ble_eq_true rfl) ⟨Nat.le_of_ble_eq_true rfl, Nat.le_of_ble_eq_true rfl⟩ ⟨Nat.le_of_ble_eq_true rfl, Nat.le_of_ble_eq_true rfl⟩ dX6_part_8 (fun rv w h => by obtain ⟨r, h1, -⟩ := h; cases h1) (fun E w h => by obtain ⟨h1, h2⟩ := h; cases h1; exact ⟨h2, rfl, rfl⟩) (Nat.le_of_ble_eq_true rfl) (Nat.le_of_ble_eq_true rfl)
  refine x_callS_in (w' := (wX6 Δ ad reached lost size plots cliffs words needs told rea wread ltold lout sets oldest kept rows len codes gpl gps gcl gwo)) (rv := none) Y Z hl (mX6_checkWhat l hT Δ  x2 6 hq2) wd_294 wd_295 wd_19 wd_296 ok_X6_checkWhat zSub_nil rfl zput_nil rfl (rest := []) rfl (Nat.le_of_ble_eq_true rfl) ⟨Nat.le_of_ble_eq_true rfl, Nat.le_of_ble_eq_true rfl⟩ ⟨Nat.le_of_ble_eq_true rfl, Nat.le_of_ble_eq_true rfl⟩ (st1 := []) rfl dX6_part_8 (fun rv w h => by obtain ⟨r, h1, h2, h3⟩ := h; cases h1; exact ⟨h2, h3⟩) (fun E w h => by cases h.1) (fun H locs Z => ?_)
  refine lv_aload_n X.x X.b dX6_part_11 rfl (lv_at hl 0 rfl) ?_
  refine z_gf inG_X6 (ci := 6) rfl 0 (Nat.le_of_ble_eq_true rfl) rfl X Z wd_183 0 rfl (v := .ref (ad 1)) rfl dX6_part_12 ?_
  refine lv_iload_n X.x X.b dX6_part_15 rfl (lv_at hl 1 rfl) ?_
  refine lv_iload_n X.x X.b dX6_part_16 rfl (lv_at hl 2 rfl) ?_
  obtain ⟨q3, hq3, hf⟩ := zb_ok hf
  refine z_callV X Z hl (mX3_ofPart l Δ (fun j => ad (j + 1)) reached lost size plots cliffs words needs told rea wread ltold lout sets x1 x2 hq3) wd_588 wd_589 wd_590 wd_20 wd_591 ok_X3_ofPart 3 rfl 1 rfl (w' := (wX6 Δ ad reached lost size plots cliffs words needs told rea wread ltold lout sets oldest kept rows len codes gpl gps gcl gwo)) su_14 fs_14 pu_14 rfl (rest := []) rfl (Nat.le_of_ble_eq_true rfl) ⟨Nat.le_of_ble_eq_true rfl, Nat.le_of_ble_eq_true rfl⟩ ⟨Nat.le_of_ble_eq_true rfl, Nat.le_of_ble_eq_true rfl⟩ (st1 := [.int q3]) rfl dX6_part_17 (fun H locs Z => ?_)
  cases hf
  exact x_iret X Z ⟨_, rfl, rfl, rfl⟩ (Nat.le_of_ble_eq_true rfl) (Nat.le_of_ble_eq_true rfl) dX6_part_20
set_option maxRecDepth 100000 in
set_option maxHeartbeats 4000000 in
theorem mX6_checkReader (l : Launch) (hT : l.stackTraces = false) (Δ : zE)  (x0 : Int32) {res : String ⊕ Unit} (hf : fX6_checkReader x0 = some res) : zMX l Δ yX6_checkReader (.code yX6_checkReader cX6_checkReader 1 none) 6 90 1 6 [.int x0] [] (fun rv w1 => ∃ r : Unit, res = .inr r ∧ rv = none ∧ w1 = []) (fun E w => res = .inl E ∧ w = []) := by
  refine x_start hT (by decide +kernel) (Nat.le_of_ble_eq_true rfl) ?_
  intro p e s m args below meth c A ls Y htab Z hl
  have X := Y.1
  have hl : lv_has ls 1 [(0, .int x0)] := hl
  rw [fX6_checkReader.eq_1] at hf
  refine lv_iload_n X.x X.b dX6_checkReader_0 rfl (lv_at hl 0 rfl) ?_
  refine lv_if_lt (tgt := 10) X.x X.b dX6_checkReader_1 (by decide) (fun b1 => ?_) (fun b1 => ?_)
  · have hf := zif_t b1 hf
    cases hf
    exact x_throw Y htab Z hl wd_394 wd_32 (is := 244) (text := "there is no such reader") (by decide +kernel) (ic := 184) xg_184 xn_184 xo_180_184 (by decide +kernel) (by decide +kernel) dX6_checkReader_10 dX6_checkReader_13 dX6_checkReader_14 dX6_checkReader_16 dX6_checkReader_19 (Nat.le_of_ble_eq_true rfl) (Nat.le_of_ble_eq_true rfl) (Nat.le_of_ble_eq_true rfl) (Nat.le_of_ble_eq_true rfl) ⟨rfl, rfl⟩ (Nat.le_of_ble_eq_true rfl) (Nat.le_of_ble_eq_true rfl)
  · have hf := zif_f b1 hf
    refine lv_iload_n X.x X.b dX6_checkReader_4 rfl (lv_at hl 0 rfl) ?_
    refine lv_bipush (v := 6) X.x X.b dX6_checkReader_5 kb_6 ?_
    refine lv_icmp_lt (tgt := 20) X.x X.b dX6_checkReader_7 (by decide) (fun b2 => ?_) (fun b2 => ?_)
    · have hf := zif_t b2 hf
      cases hf
      exact x_vret X Z ⟨_, rfl, rfl, rfl⟩ (Nat.le_of_ble_eq_true rfl) (Nat.le_of_ble_eq_true rfl) dX6_checkReader_20
    · have hf := zif_f b2 hf
      cases hf
      exact x_throw Y htab Z hl wd_394 wd_32 (is := 244) (text := "there is no such reader") (by decide +kernel) (ic := 184) xg_184 xn_184 xo_180_184 (by decide +kernel) (by decide +kernel) dX6_checkReader_10 dX6_checkReader_13 dX6_checkReader_14 dX6_checkReader_16 dX6_checkReader_19 (Nat.le_of_ble_eq_true rfl) (Nat.le_of_ble_eq_true rfl) (Nat.le_of_ble_eq_true rfl) (Nat.le_of_ble_eq_true rfl) ⟨rfl, rfl⟩ (Nat.le_of_ble_eq_true rfl) (Nat.le_of_ble_eq_true rfl)
set_option maxRecDepth 100000 in
set_option maxHeartbeats 4000000 in
theorem mX6_knows (l : Launch) (hT : l.stackTraces = false) (Δ : zE) (ad : Nat → Nat) (reached : Int32) (lost : Int32) (size : Int32) (plots : Nat → Int32) (cliffs : Nat → Int32) (words : Nat → Int32) (needs : Nat → Int32) (told : Nat → Int32) (rea : Nat → Int32) (wread : Nat → Int32) (ltold : Nat → Int32) (lout : Nat → Int32) (sets : Nat → Int32) (oldest : Int32) (kept : Int32) (rows : Nat → Option Nat) (len : Int32) (codes : Nat → Int32) (gpl : Int32) (gps : Int32) (gcl : Int32) (gwo : Int32) (x1 : Int32) (x2 : Int32) {res : String ⊕ Int32} (hf : fX6_knows size told rea x1 x2 = some res) : zMX l Δ yX6_knows (.code yX6_knows cX6_knows 3 (some .int)) 7 111 2 12 [.ref (ad 0), .int x1, .int x2] (wX6 Δ ad reached lost size plots cliffs words needs told rea wread ltold lout sets oldest kept rows len codes gpl gps gcl gwo) (fun rv w1 => ∃ r : Int32, res = .inr r ∧ rv = some (.int r) ∧ w1 = (wX6 Δ ad reached lost size plots cliffs words needs told rea wread ltold lout sets oldest kept rows len codes gpl gps gcl gwo)) (fun E w => res = .inl E ∧ w = (wX6 Δ ad reached lost size plots cliffs words needs told rea wread ltold lout sets oldest kept rows len codes gpl gps gcl gwo)) := by
  refine x_start hT (by decide +kernel) (Nat.le_of_ble_eq_true rfl) ?_
  intro p e s m args below meth c A ls Y htab Z hl
  have X := Y.1
  have hl : lv_has ls 3 [(0, .ref (ad 0)), (1, .int x1), (2, .int x2)] := hl
  rw [fX6_knows.eq_1] at hf
  refine lv_iload_n X.x X.b dX6_knows_0 rfl (lv_at hl 1 rfl) ?_
  rcases zxb_ok hf with ⟨E, hq1, hr⟩ | ⟨q1, hq1, hf⟩
  · subst hr
    exact x_callS_out Y htab Z hl (mX6_checkReader l hT Δ  x1 hq1) wd_451 wd_452 wd_19 wd_453 ok_X6_checkReader zSub_nil rfl (rest := []) rfl (Nat.le_of_ble_eq_true rfl) ⟨Nat.le_of_ble_eq_true rfl, Nat.le_of_ble_eq_true rfl⟩ ⟨Nat.le_of_ble_eq_true rfl, Nat.le_of_ble_eq_true rfl⟩ dX6_knows_1 (fun rv w h => by obtain ⟨r, h1, -⟩ := h; cases h1) (fun E w h => by obtain ⟨h1, h2⟩ := h; cases h1; exact ⟨h2, rfl, rfl⟩) (Nat.le_of_ble_eq_true rfl) (Nat.le_of_ble_eq_true rfl)
  refine x_callS_in (w' := (wX6 Δ ad reached lost size plots cliffs words needs told rea wread ltold lout sets oldest kept rows len codes gpl gps gcl gwo)) (rv := none) Y Z hl (mX6_checkReader l hT Δ  x1 hq1) wd_451 wd_452 wd_19 wd_453 ok_X6_checkReader zSub_nil rfl zput_nil rfl (rest := []) rfl (Nat.le_of_ble_eq_true rfl) ⟨Nat.le_of_ble_eq_true rfl, Nat.le_of_ble_eq_true rfl⟩ ⟨Nat.le_of_ble_eq_true rfl, Nat.le_of_ble_eq_true rfl⟩ (st1 := []) rfl dX6_knows_1 (fun rv w h => by obtain ⟨r, h1, h2, h3⟩ := h; cases h1; exact ⟨h2, h3⟩) (fun E w h => by cases h.1) (fun H locs Z => ?_)
  refine lv_aload_n X.x X.b dX6_knows_4 rfl (lv_at hl 0 rfl) ?_
  refine lv_iload_n X.x X.b dX6_knows_5 rfl (lv_at hl 2 rfl) ?_
  rcases zxb_ok hf with ⟨E, hq2, hr⟩ | ⟨q2, hq2, hf⟩
  · subst hr
    exact x_callV_out Y htab Z hl (mX6_checkPart l hT Δ ad reached lost size plots cliffs words needs told rea wread ltold lout sets oldest kept rows len codes gpl gps gcl gwo x2 hq2) wd_390 wd_392 wd_3 wd_19 wd_393 ok_X6_checkPart 6 rfl 0 rfl su_13 rfl (rest := []) rfl (Nat.le_of_ble_eq_true rfl) ⟨Nat.le_of_ble_eq_true rfl, Nat.le_of_ble_eq_true rfl⟩ ⟨Nat.le_of_ble_eq_true rfl, Nat.le_of_ble_eq_true rfl⟩ dX6_knows_6 (fun rv w h => by obtain ⟨r, h1, -⟩ := h; cases h1) (fun E w h => by obtain ⟨h1, h2⟩ := h; cases h1; exact ⟨h2, rfl, rfl⟩) (Nat.le_of_ble_eq_true rfl) (Nat.le_of_ble_eq_true rfl)
  refine x_callV_in (w' := (wX6 Δ ad reached lost size plots cliffs words needs told rea wread ltold lout sets oldest kept rows len codes gpl gps gcl gwo)) (rv := none) Y Z hl (mX6_checkPart l hT Δ ad reached lost size plots cliffs words needs told rea wread ltold lout sets oldest kept rows len codes gpl gps gcl gwo x2 hq2) wd_390 wd_392 wd_3 wd_19 wd_393 ok_X6_checkPart 6 rfl 0 rfl su_13 fs_13 pu_13 rfl (rest := []) rfl (Nat.le_of_ble_eq_true rfl) ⟨Nat.le_of_ble_eq_true rfl, Nat.le_of_ble_eq_true rfl⟩ ⟨Nat.le_of_ble_eq_true rfl, Nat.le_of_ble_eq_true rfl⟩ (st1 := []) rfl dX6_knows_6 (fun rv w h => by obtain ⟨r, h1, h2, h3⟩ := h; cases h1; exact ⟨h2, h3⟩) (fun E w h => by cases h.1) (fun H locs Z => ?_)
  refine lv_aload_n X.x X.b dX6_knows_9 rfl (lv_at hl 0 rfl) ?_
  refine z_gf inG_X6 (ci := 6) rfl 0 (Nat.le_of_ble_eq_true rfl) rfl X Z wd_183 0 rfl (v := .ref (ad 1)) rfl dX6_knows_10 ?_
  refine z_gf inG_X3 (ci := 3) rfl 1 (Nat.le_of_ble_eq_true rfl) rfl X Z wd_108 1 rfl (v := .ref (ad 7)) rfl dX6_knows_13 ?_
  refine lv_iload_n X.x X.b dX6_knows_16 rfl (lv_at hl 1 rfl) ?_
  refine lv_iload_n X.x X.b dX6_knows_17 rfl (lv_at hl 2 rfl) ?_
  obtain ⟨q3, hq3, hf⟩ := zb_ok hf
  refine z_callV X Z hl (mX0_knowledge l Δ (fun j => ad (j + 7)) told rea wread ltold lout x1 x2 hq3) wd_601 wd_602 wd_603 wd_22 wd_604 ok_X0_knowledge 0 rfl 7 rfl (w' := (wX6 Δ ad reached lost size plots cliffs words needs told rea wread ltold lout sets oldest kept rows len codes gpl gps gcl gwo)) su_15 fs_15 pu_15 rfl (rest := []) rfl (Nat.le_of_ble_eq_true rfl) ⟨Nat.le_of_ble_eq_true rfl, Nat.le_of_ble_eq_true rfl⟩ ⟨Nat.le_of_ble_eq_true rfl, Nat.le_of_ble_eq_true rfl⟩ (st1 := [.int q3]) rfl dX6_knows_18 (fun H locs Z => ?_)
  cases hf
  exact x_iret X Z ⟨_, rfl, rfl, rfl⟩ (Nat.le_of_ble_eq_true rfl) (Nat.le_of_ble_eq_true rfl) dX6_knows_21
set_option maxRecDepth 100000 in
set_option maxHeartbeats 4000000 in
theorem mX6_reader (l : Launch) (hT : l.stackTraces = false) (Δ : zE) (ad : Nat → Nat) (reached : Int32) (lost : Int32) (size : Int32) (plots : Nat → Int32) (cliffs : Nat → Int32) (words : Nat → Int32) (needs : Nat → Int32) (told : Nat → Int32) (rea : Nat → Int32) (wread : Nat → Int32) (ltold : Nat → Int32) (lout : Nat → Int32) (sets : Nat → Int32) (oldest : Int32) (kept : Int32) (rows : Nat → Option Nat) (len : Int32) (codes : Nat → Int32) (gpl : Int32) (gps : Int32) (gcl : Int32) (gwo : Int32) (x1 : Int32) (x2 : Int32) {res : String ⊕ Int32} (hf : fX6_reader size plots cliffs told rea wread ltold lout x1 x2 = some res) : zMX l Δ yX6_reader (.code yX6_reader cX6_reader 3 (some .int)) 7 111 2 12 [.ref (ad 0), .int x1, .int x2] (wX6 Δ ad reached lost size plots cliffs words needs told rea wread ltold lout sets oldest kept rows len codes gpl gps gcl gwo) (fun rv w1 => ∃ r : Int32, res = .inr r ∧ rv = some (.int r) ∧ w1 = (wX6 Δ ad reached lost size plots cliffs words needs told rea wread ltold lout sets oldest kept rows len codes gpl gps gcl gwo)) (fun E w => res = .inl E ∧ w = (wX6 Δ ad reached lost size plots cliffs words needs told rea wread ltold lout sets oldest kept rows len codes gpl gps gcl gwo)) := by
  refine x_start hT (by decide +kernel) (Nat.le_of_ble_eq_true rfl) ?_
  intro p e s m args below meth c A ls Y htab Z hl
  have X := Y.1
  have hl : lv_has ls 3 [(0, .ref (ad 0)), (1, .int x1), (2, .int x2)] := hl
  rw [fX6_reader.eq_1] at hf
  refine lv_iload_n X.x X.b dX6_reader_0 rfl (lv_at hl 1 rfl) ?_
  rcases zxb_ok hf with ⟨E, hq1, hr⟩ | ⟨q1, hq1, hf⟩
  · subst hr
    exact x_callS_out Y htab Z hl (mX6_checkReader l hT Δ  x1 hq1) wd_451 wd_452 wd_19 wd_453 ok_X6_checkReader zSub_nil rfl (rest := []) rfl (Nat.le_of_ble_eq_true rfl) ⟨Nat.le_of_ble_eq_true rfl, Nat.le_of_ble_eq_true rfl⟩ ⟨Nat.le_of_ble_eq_true rfl, Nat.le_of_ble_eq_true rfl⟩ dX6_reader_1 (fun rv w h => by obtain ⟨r, h1, -⟩ := h; cases h1) (fun E w h => by obtain ⟨h1, h2⟩ := h; cases h1; exact ⟨h2, rfl, rfl⟩) (Nat.le_of_ble_eq_true rfl) (Nat.le_of_ble_eq_true rfl)
  refine x_callS_in (w' := (wX6 Δ ad reached lost size plots cliffs words needs told rea wread ltold lout sets oldest kept rows len codes gpl gps gcl gwo)) (rv := none) Y Z hl (mX6_checkReader l hT Δ  x1 hq1) wd_451 wd_452 wd_19 wd_453 ok_X6_checkReader zSub_nil rfl zput_nil rfl (rest := []) rfl (Nat.le_of_ble_eq_true rfl) ⟨Nat.le_of_ble_eq_true rfl, Nat.le_of_ble_eq_true rfl⟩ ⟨Nat.le_of_ble_eq_true rfl, Nat.le_of_ble_eq_true rfl⟩ (st1 := []) rfl dX6_reader_1 (fun rv w h => by obtain ⟨r, h1, h2, h3⟩ := h; cases h1; exact ⟨h2, h3⟩) (fun E w h => by cases h.1) (fun H locs Z => ?_)
  refine lv_iload_n X.x X.b dX6_reader_4 rfl (lv_at hl 2 rfl) ?_
  refine lv_bipush (v := 6) X.x X.b dX6_reader_5 kb_6 ?_
  rcases zxb_ok hf with ⟨E, hq2, hr⟩ | ⟨q2, hq2, hf⟩
  · subst hr
    exact x_callS_out Y htab Z hl (mX6_checkWhat l hT Δ  x2 6 hq2) wd_294 wd_295 wd_19 wd_296 ok_X6_checkWhat zSub_nil rfl (rest := []) rfl (Nat.le_of_ble_eq_true rfl) ⟨Nat.le_of_ble_eq_true rfl, Nat.le_of_ble_eq_true rfl⟩ ⟨Nat.le_of_ble_eq_true rfl, Nat.le_of_ble_eq_true rfl⟩ dX6_reader_7 (fun rv w h => by obtain ⟨r, h1, -⟩ := h; cases h1) (fun E w h => by obtain ⟨h1, h2⟩ := h; cases h1; exact ⟨h2, rfl, rfl⟩) (Nat.le_of_ble_eq_true rfl) (Nat.le_of_ble_eq_true rfl)
  refine x_callS_in (w' := (wX6 Δ ad reached lost size plots cliffs words needs told rea wread ltold lout sets oldest kept rows len codes gpl gps gcl gwo)) (rv := none) Y Z hl (mX6_checkWhat l hT Δ  x2 6 hq2) wd_294 wd_295 wd_19 wd_296 ok_X6_checkWhat zSub_nil rfl zput_nil rfl (rest := []) rfl (Nat.le_of_ble_eq_true rfl) ⟨Nat.le_of_ble_eq_true rfl, Nat.le_of_ble_eq_true rfl⟩ ⟨Nat.le_of_ble_eq_true rfl, Nat.le_of_ble_eq_true rfl⟩ (st1 := []) rfl dX6_reader_7 (fun rv w h => by obtain ⟨r, h1, h2, h3⟩ := h; cases h1; exact ⟨h2, h3⟩) (fun E w h => by cases h.1) (fun H locs Z => ?_)
  refine lv_aload_n X.x X.b dX6_reader_10 rfl (lv_at hl 0 rfl) ?_
  refine z_gf inG_X6 (ci := 6) rfl 0 (Nat.le_of_ble_eq_true rfl) rfl X Z wd_183 0 rfl (v := .ref (ad 1)) rfl dX6_reader_11 ?_
  refine lv_iload_n X.x X.b dX6_reader_14 rfl (lv_at hl 1 rfl) ?_
  refine lv_iload_n X.x X.b dX6_reader_15 rfl (lv_at hl 2 rfl) ?_
  obtain ⟨q3, hq3, hf⟩ := zb_ok hf
  refine z_callV X Z hl (mX3_ofReader l Δ (fun j => ad (j + 1)) reached lost size plots cliffs words needs told rea wread ltold lout sets x1 x2 hq3) wd_609 wd_610 wd_611 wd_20 wd_612 ok_X3_ofReader 3 rfl 1 rfl (w' := (wX6 Δ ad reached lost size plots cliffs words needs told rea wread ltold lout sets oldest kept rows len codes gpl gps gcl gwo)) su_14 fs_14 pu_14 rfl (rest := []) rfl (Nat.le_of_ble_eq_true rfl) ⟨Nat.le_of_ble_eq_true rfl, Nat.le_of_ble_eq_true rfl⟩ ⟨Nat.le_of_ble_eq_true rfl, Nat.le_of_ble_eq_true rfl⟩ (st1 := [.int q3]) rfl dX6_reader_16 (fun H locs Z => ?_)
  cases hf
  exact x_iret X Z ⟨_, rfl, rfl, rfl⟩ (Nat.le_of_ble_eq_true rfl) (Nat.le_of_ble_eq_true rfl) dX6_reader_19
set_option maxRecDepth 100000 in
set_option maxHeartbeats 4000000 in
theorem mX6_plot (l : Launch) (hT : l.stackTraces = false) (Δ : zE) (ad : Nat → Nat) (reached : Int32) (lost : Int32) (size : Int32) (plots : Nat → Int32) (cliffs : Nat → Int32) (words : Nat → Int32) (needs : Nat → Int32) (told : Nat → Int32) (rea : Nat → Int32) (wread : Nat → Int32) (ltold : Nat → Int32) (lout : Nat → Int32) (sets : Nat → Int32) (oldest : Int32) (kept : Int32) (rows : Nat → Option Nat) (len : Int32) (codes : Nat → Int32) (gpl : Int32) (gps : Int32) (gcl : Int32) (gwo : Int32) (x1 : Int32) (x2 : Int32) {res : String ⊕ Int32} (hf : fX6_plot size plots cliffs told rea x1 x2 = some res) : zMX l Δ yX6_plot (.code yX6_plot cX6_plot 3 (some .int)) 7 111 1 6 [.ref (ad 0), .int x1, .int x2] (wX6 Δ ad reached lost size plots cliffs words needs told rea wread ltold lout sets oldest kept rows len codes gpl gps gcl gwo) (fun rv w1 => ∃ r : Int32, res = .inr r ∧ rv = some (.int r) ∧ w1 = (wX6 Δ ad reached lost size plots cliffs words needs told rea wread ltold lout sets oldest kept rows len codes gpl gps gcl gwo)) (fun E w => res = .inl E ∧ w = (wX6 Δ ad reached lost size plots cliffs words needs told rea wread ltold lout sets oldest kept rows len codes gpl gps gcl gwo)) := by
  refine x_start hT (by decide +kernel) (Nat.le_of_ble_eq_true rfl) ?_
  intro p e s m args below meth c A ls Y htab Z hl
  have X := Y.1
  have hl : lv_has ls 3 [(0, .ref (ad 0)), (1, .int x1), (2, .int x2)] := hl
  rw [fX6_plot.eq_1] at hf
  refine lv_iload_n X.x X.b dX6_plot_0 rfl (lv_at hl 1 rfl) ?_
  refine lv_if_lt (tgt := 10) X.x X.b dX6_plot_1 (by decide) (fun b1 => ?_) (fun b1 => ?_)
  · have hf := zif_t b1 hf
    cases hf
    exact x_throw Y htab Z hl wd_394 wd_32 (is := 182) (text := "there is no such plot") (by decide +kernel) (ic := 184) xg_184 xn_184 xo_180_184 (by decide +kernel) (by decide +kernel) dX6_plot_10 dX6_plot_13 dX6_plot_14 dX6_plot_16 dX6_plot_19 (Nat.le_of_ble_eq_true rfl) (Nat.le_of_ble_eq_true rfl) (Nat.le_of_ble_eq_true rfl) (Nat.le_of_ble_eq_true rfl) ⟨rfl, rfl⟩ (Nat.le_of_ble_eq_true rfl) (Nat.le_of_ble_eq_true rfl)
  · have hf := zif_f b1 hf
    refine lv_iload_n X.x X.b dX6_plot_4 rfl (lv_at hl 1 rfl) ?_
    refine lv_bipush (v := 6) X.x X.b dX6_plot_5 kb_6 ?_
    refine lv_icmp_lt (tgt := 20) X.x X.b dX6_plot_7 (by decide) (fun b2 => ?_) (fun b2 => ?_)
    · have hf := zif_t b2 hf
      refine lv_iload_n X.x X.b dX6_plot_20 rfl (lv_at hl 2 rfl) ?_
      refine lv_iconst (v := 3) X.x X.b dX6_plot_21 ki_3 ?_
      rcases zxb_ok hf with ⟨E, hq1, hr⟩ | ⟨q1, hq1, hf⟩
      · subst hr
        exact x_callS_out Y htab Z hl (mX6_checkWhat l hT Δ  x2 3 hq1) wd_294 wd_295 wd_19 wd_296 ok_X6_checkWhat zSub_nil rfl (rest := []) rfl (Nat.le_of_ble_eq_true rfl) ⟨Nat.le_of_ble_eq_true rfl, Nat.le_of_ble_eq_true rfl⟩ ⟨Nat.le_of_ble_eq_true rfl, Nat.le_of_ble_eq_true rfl⟩ dX6_plot_22 (fun rv w h => by obtain ⟨r, h1, -⟩ := h; cases h1) (fun E w h => by obtain ⟨h1, h2⟩ := h; cases h1; exact ⟨h2, rfl, rfl⟩) (Nat.le_of_ble_eq_true rfl) (Nat.le_of_ble_eq_true rfl)
      refine x_callS_in (w' := (wX6 Δ ad reached lost size plots cliffs words needs told rea wread ltold lout sets oldest kept rows len codes gpl gps gcl gwo)) (rv := none) Y Z hl (mX6_checkWhat l hT Δ  x2 3 hq1) wd_294 wd_295 wd_19 wd_296 ok_X6_checkWhat zSub_nil rfl zput_nil rfl (rest := []) rfl (Nat.le_of_ble_eq_true rfl) ⟨Nat.le_of_ble_eq_true rfl, Nat.le_of_ble_eq_true rfl⟩ ⟨Nat.le_of_ble_eq_true rfl, Nat.le_of_ble_eq_true rfl⟩ (st1 := []) rfl dX6_plot_22 (fun rv w h => by obtain ⟨r, h1, h2, h3⟩ := h; cases h1; exact ⟨h2, h3⟩) (fun E w h => by cases h.1) (fun H locs Z => ?_)
      refine lv_aload_n X.x X.b dX6_plot_25 rfl (lv_at hl 0 rfl) ?_
      refine z_gf inG_X6 (ci := 6) rfl 0 (Nat.le_of_ble_eq_true rfl) rfl X Z wd_183 0 rfl (v := .ref (ad 1)) rfl dX6_plot_26 ?_
      refine lv_iload_n X.x X.b dX6_plot_29 rfl (lv_at hl 1 rfl) ?_
      refine lv_iload_n X.x X.b dX6_plot_30 rfl (lv_at hl 2 rfl) ?_
      obtain ⟨q2, hq2, hf⟩ := zb_ok hf
      refine z_callV X Z hl (mX3_ofPlot l Δ (fun j => ad (j + 1)) reached lost size plots cliffs words needs told rea wread ltold lout sets x1 x2 hq2) wd_622 wd_623 wd_624 wd_20 wd_625 ok_X3_ofPlot 3 rfl 1 rfl (w' := (wX6 Δ ad reached lost size plots cliffs words needs told rea wread ltold lout sets oldest kept rows len codes gpl gps gcl gwo)) su_14 fs_14 pu_14 rfl (rest := []) rfl (Nat.le_of_ble_eq_true rfl) ⟨Nat.le_of_ble_eq_true rfl, Nat.le_of_ble_eq_true rfl⟩ ⟨Nat.le_of_ble_eq_true rfl, Nat.le_of_ble_eq_true rfl⟩ (st1 := [.int q2]) rfl dX6_plot_31 (fun H locs Z => ?_)
      cases hf
      exact x_iret X Z ⟨_, rfl, rfl, rfl⟩ (Nat.le_of_ble_eq_true rfl) (Nat.le_of_ble_eq_true rfl) dX6_plot_34
    · have hf := zif_f b2 hf
      cases hf
      exact x_throw Y htab Z hl wd_394 wd_32 (is := 182) (text := "there is no such plot") (by decide +kernel) (ic := 184) xg_184 xn_184 xo_180_184 (by decide +kernel) (by decide +kernel) dX6_plot_10 dX6_plot_13 dX6_plot_14 dX6_plot_16 dX6_plot_19 (Nat.le_of_ble_eq_true rfl) (Nat.le_of_ble_eq_true rfl) (Nat.le_of_ble_eq_true rfl) (Nat.le_of_ble_eq_true rfl) ⟨rfl, rfl⟩ (Nat.le_of_ble_eq_true rfl) (Nat.le_of_ble_eq_true rfl)
set_option maxRecDepth 100000 in
set_option maxHeartbeats 4000000 in
theorem mX6_count (l : Launch) (hT : l.stackTraces = false) (Δ : zE) (ad : Nat → Nat) (reached : Int32) (lost : Int32) (size : Int32) (plots : Nat → Int32) (cliffs : Nat → Int32) (words : Nat → Int32) (needs : Nat → Int32) (told : Nat → Int32) (rea : Nat → Int32) (wread : Nat → Int32) (ltold : Nat → Int32) (lout : Nat → Int32) (sets : Nat → Int32) (oldest : Int32) (kept : Int32) (rows : Nat → Option Nat) (len : Int32) (codes : Nat → Int32) (gpl : Int32) (gps : Int32) (gcl : Int32) (gwo : Int32) (x1 : Int32) {res : String ⊕ Int32} (hf : fX6_count reached lost size words told rea wread kept x1 = some res) : zMX l Δ yX6_count (.code yX6_count cX6_count 2 (some .int)) 7 111 1 6 [.ref (ad 0), .int x1] (wX6 Δ ad reached lost size plots cliffs words needs told rea wread ltold lout sets oldest kept rows len codes gpl gps gcl gwo) (fun rv w1 => ∃ r : Int32, res = .inr r ∧ rv = some (.int r) ∧ w1 = (wX6 Δ ad reached lost size plots cliffs words needs told rea wread ltold lout sets oldest kept rows len codes gpl gps gcl gwo)) (fun E w => res = .inl E ∧ w = (wX6 Δ ad reached lost size plots cliffs words needs told rea wread ltold lout sets oldest kept rows len codes gpl gps gcl gwo)) := by
  refine x_start hT (by decide +kernel) (Nat.le_of_ble_eq_true rfl) ?_
  intro p e s m args below meth c A ls Y htab Z hl
  have X := Y.1
  have hl : lv_has ls 2 [(0, .ref (ad 0)), (1, .int x1)] := hl
  rw [fX6_count.eq_1] at hf
  refine lv_iload_n X.x X.b dX6_count_0 rfl (lv_at hl 1 rfl) ?_
  refine lv_bipush (v := 6) X.x X.b dX6_count_1 kb_6 ?_
  rcases zxb_ok hf with ⟨E, hq1, hr⟩ | ⟨q1, hq1, hf⟩
  · subst hr
    exact x_callS_out Y htab Z hl (mX6_checkWhat l hT Δ  x1 6 hq1) wd_294 wd_295 wd_19 wd_296 ok_X6_checkWhat zSub_nil rfl (rest := []) rfl (Nat.le_of_ble_eq_true rfl) ⟨Nat.le_of_ble_eq_true rfl, Nat.le_of_ble_eq_true rfl⟩ ⟨Nat.le_of_ble_eq_true rfl, Nat.le_of_ble_eq_true rfl⟩ dX6_count_3 (fun rv w h => by obtain ⟨r, h1, -⟩ := h; cases h1) (fun E w h => by obtain ⟨h1, h2⟩ := h; cases h1; exact ⟨h2, rfl, rfl⟩) (Nat.le_of_ble_eq_true rfl) (Nat.le_of_ble_eq_true rfl)
  refine x_callS_in (w' := (wX6 Δ ad reached lost size plots cliffs words needs told rea wread ltold lout sets oldest kept rows len codes gpl gps gcl gwo)) (rv := none) Y Z hl (mX6_checkWhat l hT Δ  x1 6 hq1) wd_294 wd_295 wd_19 wd_296 ok_X6_checkWhat zSub_nil rfl zput_nil rfl (rest := []) rfl (Nat.le_of_ble_eq_true rfl) ⟨Nat.le_of_ble_eq_true rfl, Nat.le_of_ble_eq_true rfl⟩ ⟨Nat.le_of_ble_eq_true rfl, Nat.le_of_ble_eq_true rfl⟩ (st1 := []) rfl dX6_count_3 (fun rv w h => by obtain ⟨r, h1, h2, h3⟩ := h; cases h1; exact ⟨h2, h3⟩) (fun E w h => by cases h.1) (fun H locs Z => ?_)
  refine lv_aload_n X.x X.b dX6_count_6 rfl (lv_at hl 0 rfl) ?_
  refine lv_iload_n X.x X.b dX6_count_7 rfl (lv_at hl 1 rfl) ?_
  obtain ⟨q2, hq2, hf⟩ := zb_ok hf
  refine z_callV X Z hl (mX6_total l Δ ad reached lost size plots cliffs words needs told rea wread ltold lout sets oldest kept rows len codes gpl gps gcl gwo x1 hq2) wd_313 wd_315 wd_1 wd_19 wd_316 ok_X6_total 6 rfl 0 rfl (w' := (wX6 Δ ad reached lost size plots cliffs words needs told rea wread ltold lout sets oldest kept rows len codes gpl gps gcl gwo)) su_13 fs_13 pu_13 rfl (rest := []) rfl (Nat.le_of_ble_eq_true rfl) ⟨Nat.le_of_ble_eq_true rfl, Nat.le_of_ble_eq_true rfl⟩ ⟨Nat.le_of_ble_eq_true rfl, Nat.le_of_ble_eq_true rfl⟩ (st1 := [.int q2]) rfl dX6_count_8 (fun H locs Z => ?_)
  cases hf
  exact x_iret X Z ⟨_, rfl, rfl, rfl⟩ (Nat.le_of_ble_eq_true rfl) (Nat.le_of_ble_eq_true rfl) dX6_count_11
set_option maxRecDepth 100000 in
set_option maxHeartbeats 4000000 in
theorem mX6_checkSetting (l : Launch) (hT : l.stackTraces = false) (Δ : zE)  (x0 : Int32) {res : String ⊕ Unit} (hf : fX6_checkSetting x0 = some res) : zMX l Δ yX6_checkSetting (.code yX6_checkSetting cX6_checkSetting 1 none) 6 90 1 6 [.int x0] [] (fun rv w1 => ∃ r : Unit, res = .inr r ∧ rv = none ∧ w1 = []) (fun E w => res = .inl E ∧ w = []) := by
  refine x_start hT (by decide +kernel) (Nat.le_of_ble_eq_true rfl) ?_
  intro p e s m args below meth c A ls Y htab Z hl
  have X := Y.1
  have hl : lv_has ls 1 [(0, .int x0)] := hl
  rw [fX6_checkSetting.eq_1] at hf
  refine lv_iload_n X.x X.b dX6_checkSetting_0 rfl (lv_at hl 0 rfl) ?_
  refine lv_if_lt (tgt := 9) X.x X.b dX6_checkSetting_1 (by decide) (fun b1 => ?_) (fun b1 => ?_)
  · have hf := zif_t b1 hf
    cases hf
    exact x_throw Y htab Z hl wd_394 wd_32 (is := 246) (text := "there is no such setting") (by decide +kernel) (ic := 184) xg_184 xn_184 xo_180_184 (by decide +kernel) (by decide +kernel) dX6_checkSetting_9 dX6_checkSetting_12 dX6_checkSetting_13 dX6_checkSetting_15 dX6_checkSetting_18 (Nat.le_of_ble_eq_true rfl) (Nat.le_of_ble_eq_true rfl) (Nat.le_of_ble_eq_true rfl) (Nat.le_of_ble_eq_true rfl) ⟨rfl, rfl⟩ (Nat.le_of_ble_eq_true rfl) (Nat.le_of_ble_eq_true rfl)
  · have hf := zif_f b1 hf
    refine lv_iload_n X.x X.b dX6_checkSetting_4 rfl (lv_at hl 0 rfl) ?_
    refine lv_iconst (v := 2) X.x X.b dX6_checkSetting_5 ki_2 ?_
    refine lv_icmp_lt (tgt := 19) X.x X.b dX6_checkSetting_6 (by decide) (fun b2 => ?_) (fun b2 => ?_)
    · have hf := zif_t b2 hf
      cases hf
      exact x_vret X Z ⟨_, rfl, rfl, rfl⟩ (Nat.le_of_ble_eq_true rfl) (Nat.le_of_ble_eq_true rfl) dX6_checkSetting_19
    · have hf := zif_f b2 hf
      cases hf
      exact x_throw Y htab Z hl wd_394 wd_32 (is := 246) (text := "there is no such setting") (by decide +kernel) (ic := 184) xg_184 xn_184 xo_180_184 (by decide +kernel) (by decide +kernel) dX6_checkSetting_9 dX6_checkSetting_12 dX6_checkSetting_13 dX6_checkSetting_15 dX6_checkSetting_18 (Nat.le_of_ble_eq_true rfl) (Nat.le_of_ble_eq_true rfl) (Nat.le_of_ble_eq_true rfl) (Nat.le_of_ble_eq_true rfl) ⟨rfl, rfl⟩ (Nat.le_of_ble_eq_true rfl) (Nat.le_of_ble_eq_true rfl)
set_option maxRecDepth 100000 in
set_option maxHeartbeats 4000000 in
theorem mX6_setting (l : Launch) (hT : l.stackTraces = false) (Δ : zE) (ad : Nat → Nat) (reached : Int32) (lost : Int32) (size : Int32) (plots : Nat → Int32) (cliffs : Nat → Int32) (words : Nat → Int32) (needs : Nat → Int32) (told : Nat → Int32) (rea : Nat → Int32) (wread : Nat → Int32) (ltold : Nat → Int32) (lout : Nat → Int32) (sets : Nat → Int32) (oldest : Int32) (kept : Int32) (rows : Nat → Option Nat) (len : Int32) (codes : Nat → Int32) (gpl : Int32) (gps : Int32) (gcl : Int32) (gwo : Int32) (x1 : Int32) {res : String ⊕ Int32} (hf : fX6_setting sets x1 = some res) : zMX l Δ yX6_setting (.code yX6_setting cX6_setting 2 (some .int)) 7 110 1 6 [.ref (ad 0), .int x1] (wX6 Δ ad reached lost size plots cliffs words needs told rea wread ltold lout sets oldest kept rows len codes gpl gps gcl gwo) (fun rv w1 => ∃ r : Int32, res = .inr r ∧ rv = some (.int r) ∧ w1 = (wX6 Δ ad reached lost size plots cliffs words needs told rea wread ltold lout sets oldest kept rows len codes gpl gps gcl gwo)) (fun E w => res = .inl E ∧ w = (wX6 Δ ad reached lost size plots cliffs words needs told rea wread ltold lout sets oldest kept rows len codes gpl gps gcl gwo)) := by
  refine x_start hT (by decide +kernel) (Nat.le_of_ble_eq_true rfl) ?_
  intro p e s m args below meth c A ls Y htab Z hl
  have X := Y.1
  have hl : lv_has ls 2 [(0, .ref (ad 0)), (1, .int x1)] := hl
  rw [fX6_setting.eq_1] at hf
  refine lv_iload_n X.x X.b dX6_setting_0 rfl (lv_at hl 1 rfl) ?_
  rcases zxb_ok hf with ⟨E, hq1, hr⟩ | ⟨q1, hq1, hf⟩
  · subst hr
    exact x_callS_out Y htab Z hl (mX6_checkSetting l hT Δ  x1 hq1) wd_442 wd_443 wd_19 wd_444 ok_X6_checkSetting zSub_nil rfl (rest := []) rfl (Nat.le_of_ble_eq_true rfl) ⟨Nat.le_of_ble_eq_true rfl, Nat.le_of_ble_eq_true rfl⟩ ⟨Nat.le_of_ble_eq_true rfl, Nat.le_of_ble_eq_true rfl⟩ dX6_setting_1 (fun rv w h => by obtain ⟨r, h1, -⟩ := h; cases h1) (fun E w h => by obtain ⟨h1, h2⟩ := h; cases h1; exact ⟨h2, rfl, rfl⟩) (Nat.le_of_ble_eq_true rfl) (Nat.le_of_ble_eq_true rfl)
  refine x_callS_in (w' := (wX6 Δ ad reached lost size plots cliffs words needs told rea wread ltold lout sets oldest kept rows len codes gpl gps gcl gwo)) (rv := none) Y Z hl (mX6_checkSetting l hT Δ  x1 hq1) wd_442 wd_443 wd_19 wd_444 ok_X6_checkSetting zSub_nil rfl zput_nil rfl (rest := []) rfl (Nat.le_of_ble_eq_true rfl) ⟨Nat.le_of_ble_eq_true rfl, Nat.le_of_ble_eq_true rfl⟩ ⟨Nat.le_of_ble_eq_true rfl, Nat.le_of_ble_eq_true rfl⟩ (st1 := []) rfl dX6_setting_1 (fun rv w h => by obtain ⟨r, h1, h2, h3⟩ := h; cases h1; exact ⟨h2, h3⟩) (fun E w h => by cases h.1) (fun H locs Z => ?_)
  refine lv_aload_n X.x X.b dX6_setting_4 rfl (lv_at hl 0 rfl) ?_
  refine z_gf inG_X6 (ci := 6) rfl 0 (Nat.le_of_ble_eq_true rfl) rfl X Z wd_183 0 rfl (v := .ref (ad 1)) rfl dX6_setting_5 ?_
  refine z_gf inG_X3 (ci := 3) rfl 2 (Nat.le_of_ble_eq_true rfl) rfl X Z wd_110 1 rfl (v := .ref (ad 13)) rfl dX6_setting_8 ?_
  refine lv_iload_n X.x X.b dX6_setting_11 rfl (lv_at hl 1 rfl) ?_
  obtain ⟨b1, hf⟩ := zg_in hf
  refine z_iald X Z 13 rfl b1 dX6_setting_12 ?_
  cases hf
  exact x_iret X Z ⟨_, rfl, rfl, rfl⟩ (Nat.le_of_ble_eq_true rfl) (Nat.le_of_ble_eq_true rfl) dX6_setting_13
set_option maxRecDepth 100000 in
set_option maxHeartbeats 4000000 in
theorem mX6_recap (l : Launch) (hT : l.stackTraces = false) (Δ : zE) (ad : Nat → Nat) (reached : Int32) (lost : Int32) (size : Int32) (plots : Nat → Int32) (cliffs : Nat → Int32) (words : Nat → Int32) (needs : Nat → Int32) (told : Nat → Int32) (rea : Nat → Int32) (wread : Nat → Int32) (ltold : Nat → Int32) (lout : Nat → Int32) (sets : Nat → Int32) (oldest : Int32) (kept : Int32) (rows : Nat → Option Nat) (len : Int32) (codes : Nat → Int32) (gpl : Int32) (gps : Int32) (gcl : Int32) (gwo : Int32) (x1 : Int32) (x2 : Int32) (x3 : Int32) {res : String ⊕ Int32} (hf : fX6_recap size words needs told rea sets x1 x2 x3 = some res) : zMX l Δ yX6_recap (.code yX6_recap cX6_recap 4 (some .int)) 7 111 3 18 [.ref (ad 0), .int x1, .int x2, .int x3] (wX6 Δ ad reached lost size plots cliffs words needs told rea wread ltold lout sets oldest kept rows len codes gpl gps gcl gwo) (fun rv w1 => ∃ r : Int32, res = .inr r ∧ rv = some (.int r) ∧ w1 = (wX6 Δ ad reached lost size plots cliffs words needs told rea wread ltold lout sets oldest kept rows len codes gpl gps gcl gwo)) (fun E w => res = .inl E ∧ w = (wX6 Δ ad reached lost size plots cliffs words needs told rea wread ltold lout sets oldest kept rows len codes gpl gps gcl gwo)) := by
  refine x_start hT (by decide +kernel) (Nat.le_of_ble_eq_true rfl) ?_
  intro p e s m args below meth c A ls Y htab Z hl
  have X := Y.1
  have hl : lv_has ls 4 [(0, .ref (ad 0)), (1, .int x1), (2, .int x2), (3, .int x3)] := hl
  rw [fX6_recap.eq_1] at hf
  refine lv_iload_n X.x X.b dX6_recap_0 rfl (lv_at hl 1 rfl) ?_
  rcases zxb_ok hf with ⟨E, hq1, hr⟩ | ⟨q1, hq1, hf⟩
  · subst hr
    exact x_callS_out Y htab Z hl (mX6_checkReader l hT Δ  x1 hq1) wd_451 wd_452 wd_19 wd_453 ok_X6_checkReader zSub_nil rfl (rest := []) rfl (Nat.le_of_ble_eq_true rfl) ⟨Nat.le_of_ble_eq_true rfl, Nat.le_of_ble_eq_true rfl⟩ ⟨Nat.le_of_ble_eq_true rfl, Nat.le_of_ble_eq_true rfl⟩ dX6_recap_1 (fun rv w h => by obtain ⟨r, h1, -⟩ := h; cases h1) (fun E w h => by obtain ⟨h1, h2⟩ := h; cases h1; exact ⟨h2, rfl, rfl⟩) (Nat.le_of_ble_eq_true rfl) (Nat.le_of_ble_eq_true rfl)
  refine x_callS_in (w' := (wX6 Δ ad reached lost size plots cliffs words needs told rea wread ltold lout sets oldest kept rows len codes gpl gps gcl gwo)) (rv := none) Y Z hl (mX6_checkReader l hT Δ  x1 hq1) wd_451 wd_452 wd_19 wd_453 ok_X6_checkReader zSub_nil rfl zput_nil rfl (rest := []) rfl (Nat.le_of_ble_eq_true rfl) ⟨Nat.le_of_ble_eq_true rfl, Nat.le_of_ble_eq_true rfl⟩ ⟨Nat.le_of_ble_eq_true rfl, Nat.le_of_ble_eq_true rfl⟩ (st1 := []) rfl dX6_recap_1 (fun rv w h => by obtain ⟨r, h1, h2, h3⟩ := h; cases h1; exact ⟨h2, h3⟩) (fun E w h => by cases h.1) (fun H locs Z => ?_)
  refine lv_aload_n X.x X.b dX6_recap_4 rfl (lv_at hl 0 rfl) ?_
  refine lv_iload_n X.x X.b dX6_recap_5 rfl (lv_at hl 2 rfl) ?_
  rcases zxb_ok hf with ⟨E, hq2, hr⟩ | ⟨q2, hq2, hf⟩
  · subst hr
    exact x_callV_out Y htab Z hl (mX6_checkPart l hT Δ ad reached lost size plots cliffs words needs told rea wread ltold lout sets oldest kept rows len codes gpl gps gcl gwo x2 hq2) wd_390 wd_392 wd_3 wd_19 wd_393 ok_X6_checkPart 6 rfl 0 rfl su_13 rfl (rest := []) rfl (Nat.le_of_ble_eq_true rfl) ⟨Nat.le_of_ble_eq_true rfl, Nat.le_of_ble_eq_true rfl⟩ ⟨Nat.le_of_ble_eq_true rfl, Nat.le_of_ble_eq_true rfl⟩ dX6_recap_6 (fun rv w h => by obtain ⟨r, h1, -⟩ := h; cases h1) (fun E w h => by obtain ⟨h1, h2⟩ := h; cases h1; exact ⟨h2, rfl, rfl⟩) (Nat.le_of_ble_eq_true rfl) (Nat.le_of_ble_eq_true rfl)
  refine x_callV_in (w' := (wX6 Δ ad reached lost size plots cliffs words needs told rea wread ltold lout sets oldest kept rows len codes gpl gps gcl gwo)) (rv := none) Y Z hl (mX6_checkPart l hT Δ ad reached lost size plots cliffs words needs told rea wread ltold lout sets oldest kept rows len codes gpl gps gcl gwo x2 hq2) wd_390 wd_392 wd_3 wd_19 wd_393 ok_X6_checkPart 6 rfl 0 rfl su_13 fs_13 pu_13 rfl (rest := []) rfl (Nat.le_of_ble_eq_true rfl) ⟨Nat.le_of_ble_eq_true rfl, Nat.le_of_ble_eq_true rfl⟩ ⟨Nat.le_of_ble_eq_true rfl, Nat.le_of_ble_eq_true rfl⟩ (st1 := []) rfl dX6_recap_6 (fun rv w h => by obtain ⟨r, h1, h2, h3⟩ := h; cases h1; exact ⟨h2, h3⟩) (fun E w h => by cases h.1) (fun H locs Z => ?_)
  refine lv_iload_n X.x X.b dX6_recap_9 rfl (lv_at hl 3 rfl) ?_
  refine lv_iconst (v := 4) X.x X.b dX6_recap_10 ki_4 ?_
  rcases zxb_ok hf with ⟨E, hq3, hr⟩ | ⟨q3, hq3, hf⟩
  · subst hr
    exact x_callS_out Y htab Z hl (mX6_checkWhat l hT Δ  x3 4 hq3) wd_294 wd_295 wd_19 wd_296 ok_X6_checkWhat zSub_nil rfl (rest := []) rfl (Nat.le_of_ble_eq_true rfl) ⟨Nat.le_of_ble_eq_true rfl, Nat.le_of_ble_eq_true rfl⟩ ⟨Nat.le_of_ble_eq_true rfl, Nat.le_of_ble_eq_true rfl⟩ dX6_recap_11 (fun rv w h => by obtain ⟨r, h1, -⟩ := h; cases h1) (fun E w h => by obtain ⟨h1, h2⟩ := h; cases h1; exact ⟨h2, rfl, rfl⟩) (Nat.le_of_ble_eq_true rfl) (Nat.le_of_ble_eq_true rfl)
  refine x_callS_in (w' := (wX6 Δ ad reached lost size plots cliffs words needs told rea wread ltold lout sets oldest kept rows len codes gpl gps gcl gwo)) (rv := none) Y Z hl (mX6_checkWhat l hT Δ  x3 4 hq3) wd_294 wd_295 wd_19 wd_296 ok_X6_checkWhat zSub_nil rfl zput_nil rfl (rest := []) rfl (Nat.le_of_ble_eq_true rfl) ⟨Nat.le_of_ble_eq_true rfl, Nat.le_of_ble_eq_true rfl⟩ ⟨Nat.le_of_ble_eq_true rfl, Nat.le_of_ble_eq_true rfl⟩ (st1 := []) rfl dX6_recap_11 (fun rv w h => by obtain ⟨r, h1, h2, h3⟩ := h; cases h1; exact ⟨h2, h3⟩) (fun E w h => by cases h.1) (fun H locs Z => ?_)
  refine lv_aload_n X.x X.b dX6_recap_14 rfl (lv_at hl 0 rfl) ?_
  refine z_gf inG_X6 (ci := 6) rfl 0 (Nat.le_of_ble_eq_true rfl) rfl X Z wd_183 0 rfl (v := .ref (ad 1)) rfl dX6_recap_15 ?_
  refine lv_iload_n X.x X.b dX6_recap_18 rfl (lv_at hl 1 rfl) ?_
  refine lv_iload_n X.x X.b dX6_recap_19 rfl (lv_at hl 2 rfl) ?_
  refine lv_iload_n X.x X.b dX6_recap_20 rfl (lv_at hl 3 rfl) ?_
  obtain ⟨q4, hq4, hf⟩ := zb_ok hf
  refine z_callV X Z hl (mX3_ofRecap l Δ (fun j => ad (j + 1)) reached lost size plots cliffs words needs told rea wread ltold lout sets x1 x2 x3 hq4) wd_650 wd_651 wd_652 wd_20 wd_653 ok_X3_ofRecap 3 rfl 1 rfl (w' := (wX6 Δ ad reached lost size plots cliffs words needs told rea wread ltold lout sets oldest kept rows len codes gpl gps gcl gwo)) su_14 fs_14 pu_14 rfl (rest := []) rfl (Nat.le_of_ble_eq_true rfl) ⟨Nat.le_of_ble_eq_true rfl, Nat.le_of_ble_eq_true rfl⟩ ⟨Nat.le_of_ble_eq_true rfl, Nat.le_of_ble_eq_true rfl⟩ (st1 := [.int q4]) rfl dX6_recap_21 (fun H locs Z => ?_)
  cases hf
  exact x_iret X Z ⟨_, rfl, rfl, rfl⟩ (Nat.le_of_ble_eq_true rfl) (Nat.le_of_ble_eq_true rfl) dX6_recap_24
set_option maxRecDepth 100000 in
set_option maxHeartbeats 4000000 in
theorem mX6_easiest (l : Launch) (hT : l.stackTraces = false) (Δ : zE) (ad : Nat → Nat) (reached : Int32) (lost : Int32) (size : Int32) (plots : Nat → Int32) (cliffs : Nat → Int32) (words : Nat → Int32) (needs : Nat → Int32) (told : Nat → Int32) (rea : Nat → Int32) (wread : Nat → Int32) (ltold : Nat → Int32) (lout : Nat → Int32) (sets : Nat → Int32) (oldest : Int32) (kept : Int32) (rows : Nat → Option Nat) (len : Int32) (codes : Nat → Int32) (gpl : Int32) (gps : Int32) (gcl : Int32) (gwo : Int32) (x1 : Int32) {res : String ⊕ Int32} (hf : fX6_easiest size words needs told rea sets x1 = some res) : zMX l Δ yX6_easiest (.code yX6_easiest cX6_easiest 2 (some .int)) 7 120 1 6 [.ref (ad 0), .int x1] (wX6 Δ ad reached lost size plots cliffs words needs told rea wread ltold lout sets oldest kept rows len codes gpl gps gcl gwo) (fun rv w1 => ∃ r : Int32, res = .inr r ∧ rv = some (.int r) ∧ w1 = (wX6 Δ ad reached lost size plots cliffs words needs told rea wread ltold lout sets oldest kept rows len codes gpl gps gcl gwo)) (fun E w => res = .inl E ∧ w = (wX6 Δ ad reached lost size plots cliffs words needs told rea wread ltold lout sets oldest kept rows len codes gpl gps gcl gwo)) := by
  refine x_start hT (by decide +kernel) (Nat.le_of_ble_eq_true rfl) ?_
  intro p e s m args below meth c A ls Y htab Z hl
  have X := Y.1
  have hl : lv_has ls 2 [(0, .ref (ad 0)), (1, .int x1)] := hl
  rw [fX6_easiest.eq_1] at hf
  refine lv_iload_n X.x X.b dX6_easiest_0 rfl (lv_at hl 1 rfl) ?_
  rcases zxb_ok hf with ⟨E, hq1, hr⟩ | ⟨q1, hq1, hf⟩
  · subst hr
    exact x_callS_out Y htab Z hl (mX6_checkReader l hT Δ  x1 hq1) wd_451 wd_452 wd_19 wd_453 ok_X6_checkReader zSub_nil rfl (rest := []) rfl (Nat.le_of_ble_eq_true rfl) ⟨Nat.le_of_ble_eq_true rfl, Nat.le_of_ble_eq_true rfl⟩ ⟨Nat.le_of_ble_eq_true rfl, Nat.le_of_ble_eq_true rfl⟩ dX6_easiest_1 (fun rv w h => by obtain ⟨r, h1, -⟩ := h; cases h1) (fun E w h => by obtain ⟨h1, h2⟩ := h; cases h1; exact ⟨h2, rfl, rfl⟩) (Nat.le_of_ble_eq_true rfl) (Nat.le_of_ble_eq_true rfl)
  refine x_callS_in (w' := (wX6 Δ ad reached lost size plots cliffs words needs told rea wread ltold lout sets oldest kept rows len codes gpl gps gcl gwo)) (rv := none) Y Z hl (mX6_checkReader l hT Δ  x1 hq1) wd_451 wd_452 wd_19 wd_453 ok_X6_checkReader zSub_nil rfl zput_nil rfl (rest := []) rfl (Nat.le_of_ble_eq_true rfl) ⟨Nat.le_of_ble_eq_true rfl, Nat.le_of_ble_eq_true rfl⟩ ⟨Nat.le_of_ble_eq_true rfl, Nat.le_of_ble_eq_true rfl⟩ (st1 := []) rfl dX6_easiest_1 (fun rv w h => by obtain ⟨r, h1, h2, h3⟩ := h; cases h1; exact ⟨h2, h3⟩) (fun E w h => by cases h.1) (fun H locs Z => ?_)
  refine lv_aload_n X.x X.b dX6_easiest_4 rfl (lv_at hl 0 rfl) ?_
  refine z_gf inG_X6 (ci := 6) rfl 0 (Nat.le_of_ble_eq_true rfl) rfl X Z wd_183 0 rfl (v := .ref (ad 1)) rfl dX6_easiest_5 ?_
  refine lv_iload_n X.x X.b dX6_easiest_8 rfl (lv_at hl 1 rfl) ?_
  obtain ⟨q2, hq2, hf⟩ := zb_ok hf
  refine z_callV X Z hl (mX3_bestPart l Δ (fun j => ad (j + 1)) reached lost size plots cliffs words needs told rea wread ltold lout sets x1 hq2) wd_658 wd_659 wd_660 wd_20 wd_661 ok_X3_bestPart 3 rfl 1 rfl (w' := (wX6 Δ ad reached lost size plots cliffs words needs told rea wread ltold lout sets oldest kept rows len codes gpl gps gcl gwo)) su_14 fs_14 pu_14 rfl (rest := []) rfl (Nat.le_of_ble_eq_true rfl) ⟨Nat.le_of_ble_eq_true rfl, Nat.le_of_ble_eq_true rfl⟩ ⟨Nat.le_of_ble_eq_true rfl, Nat.le_of_ble_eq_true rfl⟩ (st1 := [.int q2]) rfl dX6_easiest_9 (fun H locs Z => ?_)
  cases hf
  exact x_iret X Z ⟨_, rfl, rfl, rfl⟩ (Nat.le_of_ble_eq_true rfl) (Nat.le_of_ble_eq_true rfl) dX6_easiest_12
set_option maxRecDepth 100000 in
set_option maxHeartbeats 4000000 in
theorem mX6_enough (l : Launch) (hT : l.stackTraces = false) (Δ : zE) (ad : Nat → Nat) (reached : Int32) (lost : Int32) (size : Int32) (plots : Nat → Int32) (cliffs : Nat → Int32) (words : Nat → Int32) (needs : Nat → Int32) (told : Nat → Int32) (rea : Nat → Int32) (wread : Nat → Int32) (ltold : Nat → Int32) (lout : Nat → Int32) (sets : Nat → Int32) (oldest : Int32) (kept : Int32) (rows : Nat → Option Nat) (len : Int32) (codes : Nat → Int32) (gpl : Int32) (gps : Int32) (gcl : Int32) (gwo : Int32) (x1 : Int32) {res : String ⊕ Int32} (hf : fX6_enough size needs told rea x1 = some res) : zMX l Δ yX6_enough (.code yX6_enough cX6_enough 2 (some .int)) 7 110 1 6 [.ref (ad 0), .int x1] (wX6 Δ ad reached lost size plots cliffs words needs told rea wread ltold lout sets oldest kept rows len codes gpl gps gcl gwo) (fun rv w1 => ∃ r : Int32, res = .inr r ∧ rv = some (.int r) ∧ w1 = (wX6 Δ ad reached lost size plots cliffs words needs told rea wread ltold lout sets oldest kept rows len codes gpl gps gcl gwo)) (fun E w => res = .inl E ∧ w = (wX6 Δ ad reached lost size plots cliffs words needs told rea wread ltold lout sets oldest kept rows len codes gpl gps gcl gwo)) := by
  refine x_start hT (by decide +kernel) (Nat.le_of_ble_eq_true rfl) ?_
  intro p e s m args below meth c A ls Y htab Z hl
  have X := Y.1
  have hl : lv_has ls 2 [(0, .ref (ad 0)), (1, .int x1)] := hl
  rw [fX6_enough.eq_1] at hf
  refine lv_iload_n X.x X.b dX6_enough_0 rfl (lv_at hl 1 rfl) ?_
  rcases zxb_ok hf with ⟨E, hq1, hr⟩ | ⟨q1, hq1, hf⟩
  · subst hr
    exact x_callS_out Y htab Z hl (mX6_checkReader l hT Δ  x1 hq1) wd_451 wd_452 wd_19 wd_453 ok_X6_checkReader zSub_nil rfl (rest := []) rfl (Nat.le_of_ble_eq_true rfl) ⟨Nat.le_of_ble_eq_true rfl, Nat.le_of_ble_eq_true rfl⟩ ⟨Nat.le_of_ble_eq_true rfl, Nat.le_of_ble_eq_true rfl⟩ dX6_enough_1 (fun rv w h => by obtain ⟨r, h1, -⟩ := h; cases h1) (fun E w h => by obtain ⟨h1, h2⟩ := h; cases h1; exact ⟨h2, rfl, rfl⟩) (Nat.le_of_ble_eq_true rfl) (Nat.le_of_ble_eq_true rfl)
  refine x_callS_in (w' := (wX6 Δ ad reached lost size plots cliffs words needs told rea wread ltold lout sets oldest kept rows len codes gpl gps gcl gwo)) (rv := none) Y Z hl (mX6_checkReader l hT Δ  x1 hq1) wd_451 wd_452 wd_19 wd_453 ok_X6_checkReader zSub_nil rfl zput_nil rfl (rest := []) rfl (Nat.le_of_ble_eq_true rfl) ⟨Nat.le_of_ble_eq_true rfl, Nat.le_of_ble_eq_true rfl⟩ ⟨Nat.le_of_ble_eq_true rfl, Nat.le_of_ble_eq_true rfl⟩ (st1 := []) rfl dX6_enough_1 (fun rv w h => by obtain ⟨r, h1, h2, h3⟩ := h; cases h1; exact ⟨h2, h3⟩) (fun E w h => by cases h.1) (fun H locs Z => ?_)
  refine lv_aload_n X.x X.b dX6_enough_4 rfl (lv_at hl 0 rfl) ?_
  refine z_gf inG_X6 (ci := 6) rfl 0 (Nat.le_of_ble_eq_true rfl) rfl X Z wd_183 0 rfl (v := .ref (ad 1)) rfl dX6_enough_5 ?_
  refine lv_iload_n X.x X.b dX6_enough_8 rfl (lv_at hl 1 rfl) ?_
  obtain ⟨q2, hq2, hf⟩ := zb_ok hf
  refine z_callV X Z hl (mX3_linesForAll l Δ (fun j => ad (j + 1)) reached lost size plots cliffs words needs told rea wread ltold lout sets x1 hq2) wd_667 wd_668 wd_669 wd_20 wd_670 ok_X3_linesForAll 3 rfl 1 rfl (w' := (wX6 Δ ad reached lost size plots cliffs words needs told rea wread ltold lout sets oldest kept rows len codes gpl gps gcl gwo)) su_14 fs_14 pu_14 rfl (rest := []) rfl (Nat.le_of_ble_eq_true rfl) ⟨Nat.le_of_ble_eq_true rfl, Nat.le_of_ble_eq_true rfl⟩ ⟨Nat.le_of_ble_eq_true rfl, Nat.le_of_ble_eq_true rfl⟩ (st1 := [.int q2]) rfl dX6_enough_9 (fun H locs Z => ?_)
  cases hf
  exact x_iret X Z ⟨_, rfl, rfl, rfl⟩ (Nat.le_of_ble_eq_true rfl) (Nat.le_of_ble_eq_true rfl) dX6_enough_12
set_option maxRecDepth 100000 in
set_option maxHeartbeats 4000000 in
theorem mX6_checkPlots (l : Launch) (hT : l.stackTraces = false) (Δ : zE)  (x0 : Int32) (x1 : Int32) {res : String ⊕ Unit} (hf : fX6_checkPlots x0 x1 = some res) : zMX l Δ yX6_checkPlots (.code yX6_checkPlots cX6_checkPlots 2 none) 6 90 1 6 [.int x0, .int x1] [] (fun rv w1 => ∃ r : Unit, res = .inr r ∧ rv = none ∧ w1 = []) (fun E w => res = .inl E ∧ w = []) := by
  refine x_start hT (by decide +kernel) (Nat.le_of_ble_eq_true rfl) ?_
  intro p e s m args below meth c A ls Y htab Z hl
  have X := Y.1
  have hl : lv_has ls 2 [(0, .int x0), (1, .int x1)] := hl
  rw [fX6_checkPlots.eq_1] at hf
  refine lv_iload_n X.x X.b dX6_checkPlots_0 rfl (lv_at hl 0 rfl) ?_
  refine lv_iconst (v := 1) X.x X.b dX6_checkPlots_1 ki_1 ?_
  refine lv_icmp_lt (tgt := 11) X.x X.b dX6_checkPlots_2 (by decide) (fun b1 => ?_) (fun b1 => ?_)
  · have hf := zif_t b1 hf
    cases hf
    exact x_throw Y htab Z hl wd_297 wd_29 (is := 250) (text := "plots are 1 to 63") (by decide +kernel) (ic := 38) xg_38 xn_38 xo_34_38 (by decide +kernel) (by decide +kernel) dX6_checkPlots_11 dX6_checkPlots_14 dX6_checkPlots_15 dX6_checkPlots_17 dX6_checkPlots_20 (Nat.le_of_ble_eq_true rfl) (Nat.le_of_ble_eq_true rfl) (Nat.le_of_ble_eq_true rfl) (Nat.le_of_ble_eq_true rfl) ⟨rfl, rfl⟩ (Nat.le_of_ble_eq_true rfl) (Nat.le_of_ble_eq_true rfl)
  · have hf := zif_f b1 hf
    refine lv_iload_n X.x X.b dX6_checkPlots_5 rfl (lv_at hl 0 rfl) ?_
    refine lv_bipush (v := 63) X.x X.b dX6_checkPlots_6 kb_63 ?_
    refine lv_icmp_le (tgt := 21) X.x X.b dX6_checkPlots_8 (by decide) (fun b2 => ?_) (fun b2 => ?_)
    · have hf := zif_t b2 hf
      refine lv_iload_n X.x X.b dX6_checkPlots_21 rfl (lv_at hl 1 rfl) ?_
      refine lv_iconst (v := (-1)) X.x X.b dX6_checkPlots_22 ki_m1 ?_
      refine lv_icmp_ne (tgt := 27) X.x X.b dX6_checkPlots_23 (by decide) (fun b3 => ?_) (fun b3 => ?_)
      · have hf := zif_f b3 hf
        refine lv_iload_n X.x X.b dX6_checkPlots_27 rfl (lv_at hl 1 rfl) ?_
        refine lv_if_lt (tgt := 45) X.x X.b dX6_checkPlots_28 (by decide) (fun b4 => ?_) (fun b4 => ?_)
        · have hf := zif_t b4 hf
          cases hf
          exact x_throw Y htab Z hl wd_297 wd_29 (is := 255) (text := "the cliff is none of the plots") (by decide +kernel) (ic := 38) xg_38 xn_38 xo_34_38 (by decide +kernel) (by decide +kernel) dX6_checkPlots_45 dX6_checkPlots_48 dX6_checkPlots_49 dX6_checkPlots_51 dX6_checkPlots_54 (Nat.le_of_ble_eq_true rfl) (Nat.le_of_ble_eq_true rfl) (Nat.le_of_ble_eq_true rfl) (Nat.le_of_ble_eq_true rfl) ⟨rfl, rfl⟩ (Nat.le_of_ble_eq_true rfl) (Nat.le_of_ble_eq_true rfl)
        · have hf := zif_f b4 hf
          refine lv_iload_n X.x X.b dX6_checkPlots_31 rfl (lv_at hl 1 rfl) ?_
          refine lv_bipush (v := 6) X.x X.b dX6_checkPlots_32 kb_6 ?_
          refine lv_icmp_ge (tgt := 45) X.x X.b dX6_checkPlots_34 (by decide) (fun b5 => ?_) (fun b5 => ?_)
          · have hf := zif_t b5 hf
            cases hf
            exact x_throw Y htab Z hl wd_297 wd_29 (is := 255) (text := "the cliff is none of the plots") (by decide +kernel) (ic := 38) xg_38 xn_38 xo_34_38 (by decide +kernel) (by decide +kernel) dX6_checkPlots_45 dX6_checkPlots_48 dX6_checkPlots_49 dX6_checkPlots_51 dX6_checkPlots_54 (Nat.le_of_ble_eq_true rfl) (Nat.le_of_ble_eq_true rfl) (Nat.le_of_ble_eq_true rfl) (Nat.le_of_ble_eq_true rfl) ⟨rfl, rfl⟩ (Nat.le_of_ble_eq_true rfl) (Nat.le_of_ble_eq_true rfl)
          · have hf := zif_f b5 hf
            refine lv_iload_n X.x X.b dX6_checkPlots_37 rfl (lv_at hl 0 rfl) ?_
            refine lv_iload_n X.x X.b dX6_checkPlots_38 rfl (lv_at hl 1 rfl) ?_
            obtain ⟨q1, hq1, hf⟩ := zb_ok hf
            refine z_callS X Z hl (mX6_isIn l Δ  x0 x1 hq1) wd_366 wd_367 wd_19 wd_368 ok_X6_isIn (w' := []) zSub_nil rfl zput_nil rfl (rest := []) rfl (Nat.le_of_ble_eq_true rfl) ⟨Nat.le_of_ble_eq_true rfl, Nat.le_of_ble_eq_true rfl⟩ ⟨Nat.le_of_ble_eq_true rfl, Nat.le_of_ble_eq_true rfl⟩ (st1 := [.int q1]) rfl dX6_checkPlots_39 (fun H locs Z => ?_)
            refine lv_if_ne (tgt := 55) X.x X.b dX6_checkPlots_42 (by decide) (fun b6 => ?_) (fun b6 => ?_)
            · have hf := zif_f b6 hf
              cases hf
              exact x_vret X Z ⟨_, rfl, rfl, rfl⟩ (Nat.le_of_ble_eq_true rfl) (Nat.le_of_ble_eq_true rfl) dX6_checkPlots_55
            · have hf := zif_t b6 hf
              cases hf
              exact x_throw Y htab Z hl wd_297 wd_29 (is := 255) (text := "the cliff is none of the plots") (by decide +kernel) (ic := 38) xg_38 xn_38 xo_34_38 (by decide +kernel) (by decide +kernel) dX6_checkPlots_45 dX6_checkPlots_48 dX6_checkPlots_49 dX6_checkPlots_51 dX6_checkPlots_54 (Nat.le_of_ble_eq_true rfl) (Nat.le_of_ble_eq_true rfl) (Nat.le_of_ble_eq_true rfl) (Nat.le_of_ble_eq_true rfl) ⟨rfl, rfl⟩ (Nat.le_of_ble_eq_true rfl) (Nat.le_of_ble_eq_true rfl)
      · have hf := zif_t b3 hf
        cases hf
        exact x_vret X Z ⟨_, rfl, rfl, rfl⟩ (Nat.le_of_ble_eq_true rfl) (Nat.le_of_ble_eq_true rfl) dX6_checkPlots_26
    · have hf := zif_f b2 hf
      cases hf
      exact x_throw Y htab Z hl wd_297 wd_29 (is := 250) (text := "plots are 1 to 63") (by decide +kernel) (ic := 38) xg_38 xn_38 xo_34_38 (by decide +kernel) (by decide +kernel) dX6_checkPlots_11 dX6_checkPlots_14 dX6_checkPlots_15 dX6_checkPlots_17 dX6_checkPlots_20 (Nat.le_of_ble_eq_true rfl) (Nat.le_of_ble_eq_true rfl) (Nat.le_of_ble_eq_true rfl) (Nat.le_of_ble_eq_true rfl) ⟨rfl, rfl⟩ (Nat.le_of_ble_eq_true rfl) (Nat.le_of_ble_eq_true rfl)
