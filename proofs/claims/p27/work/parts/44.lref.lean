/-! THE LAW: refusesAny, refused -/
theorem sc_0 (b : zOb) (x1 x2 x3 : Int32) : s_call b 0 x1 x2 x3 = s_add b x1 x2 x3 := rfl
theorem sc_1 (b : zOb) (x1 x2 x3 : Int32) : s_call b 1 x1 x2 x3 = s_change b x1 x2 x3 := rfl
theorem sc_2 (b : zOb) (x1 x2 x3 : Int32) : s_call b 2 x1 x2 x3 = s_removeLast b  := rfl
theorem sc_3 (b : zOb) (x1 x2 x3 : Int32) : s_call b 3 x1 x2 x3 = s_set b x1 x2 := rfl
theorem sc_4 (b : zOb) (x1 x2 x3 : Int32) : s_call b 4 x1 x2 x3 = s_mail b x1 x2 := rfl
theorem sc_5 (b : zOb) (x1 x2 x3 : Int32) : s_call b 5 x1 x2 x3 = s_mailAll b x1 x2 := rfl
theorem sc_6 (b : zOb) (x1 x2 x3 : Int32) : s_call b 6 x1 x2 x3 = s_forget b x1 := rfl
theorem sc_7 (b : zOb) (x1 x2 x3 : Int32) : s_call b 7 x1 x2 x3 = s_catchUp b x1 := rfl
theorem sc_8 (b : zOb) (x1 x2 x3 : Int32) : s_call b 8 x1 x2 x3 = s_append b x1 := rfl
theorem sc_9 (b : zOb) (x1 x2 x3 : Int32) : s_call b 9 x1 x2 x3 = s_addAll b  := rfl
theorem sc_10 (b : zOb) (x1 x2 x3 : Int32) : s_call b 10 x1 x2 x3 = s_undo b  := rfl
theorem sc_11 (b : zOb) (x1 x2 x3 : Int32) : s_call b 11 x1 x2 x3 = s_part b x1 x2 := rfl
theorem sc_12 (b : zOb) (x1 x2 x3 : Int32) : s_call b 12 x1 x2 x3 = s_knows b x1 x2 := rfl
theorem sc_13 (b : zOb) (x1 x2 x3 : Int32) : s_call b 13 x1 x2 x3 = s_reader b x1 x2 := rfl
theorem sc_14 (b : zOb) (x1 x2 x3 : Int32) : s_call b 14 x1 x2 x3 = s_plot b x1 x2 := rfl
theorem sc_15 (b : zOb) (x1 x2 x3 : Int32) : s_call b 15 x1 x2 x3 = s_count b x1 := rfl
theorem sc_16 (b : zOb) (x1 x2 x3 : Int32) : s_call b 16 x1 x2 x3 = s_setting b x1 := rfl
theorem sc_17 (b : zOb) (x1 x2 x3 : Int32) : s_call b 17 x1 x2 x3 = s_recap b x1 x2 x3 := rfl
theorem sc_18 (b : zOb) (x1 x2 x3 : Int32) : s_call b 18 x1 x2 x3 = s_easiest b x1 := rfl
theorem sc_19 (b : zOb) (x1 x2 x3 : Int32) : s_call b 19 x1 x2 x3 = s_enough b x1 := rfl
theorem s_refuse {b : zOb} {w x1 x2 x3 : Int32} {E : String} {v : Int32} (h : s_call b w x1 x2 x3 = some (.inl E, b)) (hv : s_code (.inl E) = some v) : s_told b w x1 x2 x3 = some (v, b) := by
  unfold s_told
  rw [h, Option.bind_some, hv]
  rfl
theorem cp_sz (s : Int32) : fX6_checkPart s s = some (.inl "java/lang/IndexOutOfBoundsException") := by
  unfold fX6_checkPart
  by_cases h : s < 0
  · rw [if_pos h]
  · rw [if_neg h, if_neg Int32.lt_irrefl]
theorem cp_m1 (s : Int32) : fX6_checkPart s (-1) = some (.inl "java/lang/IndexOutOfBoundsException") := by
  unfold fX6_checkPart
  rw [if_pos (by decide)]
theorem cp_0 {s : Int32} (h : 0 < s) : fX6_checkPart s 0 = some (.inr ()) := by
  unfold fX6_checkPart
  rw [if_neg (by decide), if_pos h]
theorem lg_cmp_self (x : Int64) : lg_cmp x x = 0 := (lg_cmp_eq x x).mpr rfl
theorem c_count0 (b : zOb) : s_count b 0 = some (.inr (tF b.1).2.2.1, b) := rfl
theorem rf_0 (b : zOb) : s_told b 0 0 (-1) 5 = some ((-11), b) := by
  refine s_refuse (E := "java/lang/IllegalArgumentException") ?_ (by decide +kernel)
  rw [sc_0]
  have h : fX6_add (tF b.1).2.2.1 (tF b.1).2.2.2.1 (tF b.1).2.2.2.2.1 (tF b.1).2.2.2.2.2.1 (tF b.1).2.2.2.2.2.2.1 0 (-1) 5 = some (.inl "java/lang/IllegalArgumentException") := by
    unfold fX6_add
    rw [show fX6_checkPlots 0 (-1) = some (.inl "java/lang/IllegalArgumentException") by decide +kernel]
    rfl
  unfold s_add
  rw [h]
  rfl
theorem rf_1 (b : zOb) : s_told b 0 1 (-1) 0 = some ((-11), b) := by
  refine s_refuse (E := "java/lang/IllegalArgumentException") ?_ (by decide +kernel)
  rw [sc_0]
  have h : fX6_add (tF b.1).2.2.1 (tF b.1).2.2.2.1 (tF b.1).2.2.2.2.1 (tF b.1).2.2.2.2.2.1 (tF b.1).2.2.2.2.2.2.1 1 (-1) 0 = some (.inl "java/lang/IllegalArgumentException") := by
    unfold fX6_add
    rw [show fX6_checkPlots 1 (-1) = some (.inr ()) by decide +kernel]
    rfl
  unfold s_add
  rw [h]
  rfl
theorem rf_2 (b : zOb) : s_told b 0 2 0 5 = some ((-11), b) := by
  refine s_refuse (E := "java/lang/IllegalArgumentException") ?_ (by decide +kernel)
  rw [sc_0]
  have h : fX6_add (tF b.1).2.2.1 (tF b.1).2.2.2.1 (tF b.1).2.2.2.2.1 (tF b.1).2.2.2.2.2.1 (tF b.1).2.2.2.2.2.2.1 2 0 5 = some (.inl "java/lang/IllegalArgumentException") := by
    unfold fX6_add
    rw [show fX6_checkPlots 2 0 = some (.inl "java/lang/IllegalArgumentException") by decide +kernel]
    rfl
  unfold s_add
  rw [h]
  rfl
theorem rf_3 (b : zOb) : s_told b 0 2 33 5 = some ((-11), b) := by
  refine s_refuse (E := "java/lang/IllegalArgumentException") ?_ (by decide +kernel)
  rw [sc_0]
  have h : fX6_add (tF b.1).2.2.1 (tF b.1).2.2.2.1 (tF b.1).2.2.2.2.1 (tF b.1).2.2.2.2.2.1 (tF b.1).2.2.2.2.2.2.1 2 33 5 = some (.inl "java/lang/IllegalArgumentException") := by
    unfold fX6_add
    rw [show fX6_checkPlots 2 33 = some (.inl "java/lang/IllegalArgumentException") by decide +kernel]
    rfl
  unfold s_add
  rw [h]
  rfl
theorem rf_4 (b : zOb) : s_told b 1 (-1) 0 9 = some ((-13), b) := by
  refine s_refuse (E := "java/lang/IndexOutOfBoundsException") ?_ (by decide +kernel)
  rw [sc_1]
  have h : fX6_change (tF b.1).2.2.1 (tF b.1).2.2.2.1 (tF b.1).2.2.2.2.1 (tF b.1).2.2.2.2.2.2.1 (-1) 0 9 = some (.inl "java/lang/IndexOutOfBoundsException") := by
    unfold fX6_change
    rw [cp_m1]
    rfl
  unfold s_change
  rw [h]
  rfl
theorem rf_5 (b : zOb) (hs : 0 < (tF b.1).2.2.1) : s_told b 1 0 0 (-1) = some ((-11), b) := by
  refine s_refuse (E := "java/lang/IllegalArgumentException") ?_ (by decide +kernel)
  rw [sc_1]
  have h : fX6_change (tF b.1).2.2.1 (tF b.1).2.2.2.1 (tF b.1).2.2.2.2.1 (tF b.1).2.2.2.2.2.2.1 0 0 (-1) = some (.inl "java/lang/IllegalArgumentException") := by
    unfold fX6_change
    rw [cp_0 hs, show fX6_checkPlots 0 (-1) = some (.inl "java/lang/IllegalArgumentException") by decide +kernel]
    rfl
  unfold s_change
  rw [h]
  rfl
theorem rf_6 (b : zOb) (hs : 0 < (tF b.1).2.2.1) : s_told b 1 0 4 3 = some ((-11), b) := by
  refine s_refuse (E := "java/lang/IllegalArgumentException") ?_ (by decide +kernel)
  rw [sc_1]
  have h : fX6_change (tF b.1).2.2.1 (tF b.1).2.2.2.1 (tF b.1).2.2.2.2.1 (tF b.1).2.2.2.2.2.2.1 0 4 3 = some (.inl "java/lang/IllegalArgumentException") := by
    unfold fX6_change
    rw [cp_0 hs, show fX6_checkPlots 4 3 = some (.inl "java/lang/IllegalArgumentException") by decide +kernel]
    rfl
  unfold s_change
  rw [h]
  rfl
theorem rf_7 (b : zOb) : s_told b 3 (-1) 99 0 = some ((-13), b) := by
  refine s_refuse (E := "java/lang/IndexOutOfBoundsException") ?_ (by decide +kernel)
  rw [sc_3]
  have h : fX6_set (tF b.1).2.2.2.2.2.2.2.2.2.2.2.2 (-1) 99 = some (.inl "java/lang/IndexOutOfBoundsException") := by
    unfold fX6_set
    rfl
  unfold s_set
  rw [h]
  rfl
theorem rf_8 (b : zOb) : s_told b 3 0 (-1) 0 = some ((-11), b) := by
  refine s_refuse (E := "java/lang/IllegalArgumentException") ?_ (by decide +kernel)
  rw [sc_3]
  have h : fX6_set (tF b.1).2.2.2.2.2.2.2.2.2.2.2.2 0 (-1) = some (.inl "java/lang/IllegalArgumentException") := by
    unfold fX6_set
    rfl
  unfold s_set
  rw [h]
  rfl
theorem rf_9 (b : zOb) : s_told b 3 1 0 0 = some ((-11), b) := by
  refine s_refuse (E := "java/lang/IllegalArgumentException") ?_ (by decide +kernel)
  rw [sc_3]
  have h : fX6_set (tF b.1).2.2.2.2.2.2.2.2.2.2.2.2 1 0 = some (.inl "java/lang/IllegalArgumentException") := by
    unfold fX6_set
    rfl
  unfold s_set
  rw [h]
  rfl
theorem rf_10 (b : zOb) : s_told b 4 (-1) 0 0 = some ((-13), b) := by
  refine s_refuse (E := "java/lang/IndexOutOfBoundsException") ?_ (by decide +kernel)
  rw [sc_4]
  have h : fX6_mail (tF b.1).1 (tF b.1).2.2.1 (tF b.1).2.2.2.2.2.1 (tF b.1).2.2.2.2.2.2.1 (tF b.1).2.2.2.2.2.2.2.1 (tF b.1).2.2.2.2.2.2.2.2.1 (tF b.1).2.2.2.2.2.2.2.2.2.1 (tF b.1).2.2.2.2.2.2.2.2.2.2.1 (tF b.1).2.2.2.2.2.2.2.2.2.2.2.1 (tF b.1).2.2.2.2.2.2.2.2.2.2.2.2 (-1) 0 = some (.inl "java/lang/IndexOutOfBoundsException") := by
    unfold fX6_mail
    rw [show fX6_checkReader (-1) = some (.inl "java/lang/IndexOutOfBoundsException") by decide +kernel]
    rfl
  unfold s_mail
  rw [h]
  rfl
theorem rf_11 (b : zOb) : s_told b 4 0 (-1) 0 = some ((-13), b) := by
  refine s_refuse (E := "java/lang/IndexOutOfBoundsException") ?_ (by decide +kernel)
  rw [sc_4]
  have h : fX6_mail (tF b.1).1 (tF b.1).2.2.1 (tF b.1).2.2.2.2.2.1 (tF b.1).2.2.2.2.2.2.1 (tF b.1).2.2.2.2.2.2.2.1 (tF b.1).2.2.2.2.2.2.2.2.1 (tF b.1).2.2.2.2.2.2.2.2.2.1 (tF b.1).2.2.2.2.2.2.2.2.2.2.1 (tF b.1).2.2.2.2.2.2.2.2.2.2.2.1 (tF b.1).2.2.2.2.2.2.2.2.2.2.2.2 0 (-1) = some (.inl "java/lang/IndexOutOfBoundsException") := by
    unfold fX6_mail
    rw [show fX6_checkReader 0 = some (.inr ()) by decide +kernel, cp_m1]
    rfl
  unfold s_mail
  rw [h]
  rfl
theorem rf_12 (b : zOb) : s_told b 5 (-1) 99 0 = some ((-13), b) := by
  refine s_refuse (E := "java/lang/IndexOutOfBoundsException") ?_ (by decide +kernel)
  rw [sc_5]
  have h : fX6_mailAll (tF b.1).1 (tF b.1).2.1 (tF b.1).2.2.1 (tF b.1).2.2.2.2.2.1 (tF b.1).2.2.2.2.2.2.1 (tF b.1).2.2.2.2.2.2.2.1 (tF b.1).2.2.2.2.2.2.2.2.1 (tF b.1).2.2.2.2.2.2.2.2.2.1 (tF b.1).2.2.2.2.2.2.2.2.2.2.1 (tF b.1).2.2.2.2.2.2.2.2.2.2.2.1 (tF b.1).2.2.2.2.2.2.2.2.2.2.2.2 (-1) 99 = some (.inl "java/lang/IndexOutOfBoundsException") := by
    unfold fX6_mailAll
    rw [cp_m1]
    rfl
  unfold s_mailAll
  rw [h]
  rfl
theorem rf_13 (b : zOb) (hs : 0 < (tF b.1).2.2.1) : s_told b 5 0 (-1) 0 = some ((-11), b) := by
  refine s_refuse (E := "java/lang/IllegalArgumentException") ?_ (by decide +kernel)
  rw [sc_5]
  have h : fX6_mailAll (tF b.1).1 (tF b.1).2.1 (tF b.1).2.2.1 (tF b.1).2.2.2.2.2.1 (tF b.1).2.2.2.2.2.2.1 (tF b.1).2.2.2.2.2.2.2.1 (tF b.1).2.2.2.2.2.2.2.2.1 (tF b.1).2.2.2.2.2.2.2.2.2.1 (tF b.1).2.2.2.2.2.2.2.2.2.2.1 (tF b.1).2.2.2.2.2.2.2.2.2.2.2.1 (tF b.1).2.2.2.2.2.2.2.2.2.2.2.2 0 (-1) = some (.inl "java/lang/IllegalArgumentException") := by
    unfold fX6_mailAll
    rw [cp_0 hs]
    rfl
  unfold s_mailAll
  rw [h]
  rfl
theorem rf_14 (b : zOb) : s_told b 6 (-1) 0 0 = some ((-13), b) := by
  refine s_refuse (E := "java/lang/IndexOutOfBoundsException") ?_ (by decide +kernel)
  rw [sc_6]
  have h : fX6_forget (tF b.1).2.2.2.2.2.2.2.1 (-1) = some (.inl "java/lang/IndexOutOfBoundsException") := by
    unfold fX6_forget
    rw [show fX6_checkReader (-1) = some (.inl "java/lang/IndexOutOfBoundsException") by decide +kernel]
    rfl
  unfold s_forget
  rw [h]
  rfl
theorem rf_15 (b : zOb) : s_told b 7 (-1) 0 0 = some ((-13), b) := by
  refine s_refuse (E := "java/lang/IndexOutOfBoundsException") ?_ (by decide +kernel)
  rw [sc_7]
  have h : fX6_catchUp (tF b.1).1 (tF b.1).2.2.1 (tF b.1).2.2.2.2.2.1 (tF b.1).2.2.2.2.2.2.1 (tF b.1).2.2.2.2.2.2.2.1 (tF b.1).2.2.2.2.2.2.2.2.1 (tF b.1).2.2.2.2.2.2.2.2.2.1 (tF b.1).2.2.2.2.2.2.2.2.2.2.1 (tF b.1).2.2.2.2.2.2.2.2.2.2.2.1 (tF b.1).2.2.2.2.2.2.2.2.2.2.2.2 (-1) = some (.inl "java/lang/IndexOutOfBoundsException") := by
    unfold fX6_catchUp
    rw [show fX6_checkReader (-1) = some (.inl "java/lang/IndexOutOfBoundsException") by decide +kernel]
    rfl
  unfold s_catchUp
  rw [h]
  rfl
theorem rf_16 (b : zOb) : s_told b 8 32 0 0 = some ((-11), b) := by
  refine s_refuse (E := "java/lang/IllegalArgumentException") ?_ (by decide +kernel)
  rw [sc_8]
  have h : fX6_append b.2.2.1 (tf b.2.2.2) 32 = some (.inl "java/lang/IllegalArgumentException") := by
    unfold fX6_append
    rfl
  unfold s_append
  rw [h]
  rfl
theorem rf_17 (b : zOb) : s_told b 11 (-1) 9 0 = some ((-13), b) := by
  refine s_refuse (E := "java/lang/IndexOutOfBoundsException") ?_ (by decide +kernel)
  rw [sc_11]
  have h : fX6_part (tF b.1).2.2.1 (tF b.1).2.2.2.1 (tF b.1).2.2.2.2.1 (tF b.1).2.2.2.2.2.1 (tF b.1).2.2.2.2.2.2.1 (tF b.1).2.2.2.2.2.2.2.2.1 (-1) 9 = some (.inl "java/lang/IndexOutOfBoundsException") := by
    unfold fX6_part
    rw [cp_m1]
    rfl
  unfold s_part
  rw [h]
  rfl
theorem rf_18 (b : zOb) (hs : 0 < (tF b.1).2.2.1) : s_told b 11 0 (-1) 0 = some ((-11), b) := by
  refine s_refuse (E := "java/lang/IllegalArgumentException") ?_ (by decide +kernel)
  rw [sc_11]
  have h : fX6_part (tF b.1).2.2.1 (tF b.1).2.2.2.1 (tF b.1).2.2.2.2.1 (tF b.1).2.2.2.2.2.1 (tF b.1).2.2.2.2.2.2.1 (tF b.1).2.2.2.2.2.2.2.2.1 0 (-1) = some (.inl "java/lang/IllegalArgumentException") := by
    unfold fX6_part
    rw [cp_0 hs, show fX6_checkWhat (-1) 6 = some (.inl "java/lang/IllegalArgumentException") by decide +kernel]
    rfl
  unfold s_part
  rw [h]
  rfl
theorem rf_19 (b : zOb) : s_told b 12 (-1) 0 0 = some ((-13), b) := by
  refine s_refuse (E := "java/lang/IndexOutOfBoundsException") ?_ (by decide +kernel)
  rw [sc_12]
  have h : fX6_knows (tF b.1).2.2.1 (tF b.1).2.2.2.2.2.2.2.1 (tF b.1).2.2.2.2.2.2.2.2.1 (-1) 0 = some (.inl "java/lang/IndexOutOfBoundsException") := by
    unfold fX6_knows
    rw [show fX6_checkReader (-1) = some (.inl "java/lang/IndexOutOfBoundsException") by decide +kernel]
    rfl
  unfold s_knows
  rw [h]
  rfl
theorem rf_20 (b : zOb) : s_told b 12 0 (-1) 0 = some ((-13), b) := by
  refine s_refuse (E := "java/lang/IndexOutOfBoundsException") ?_ (by decide +kernel)
  rw [sc_12]
  have h : fX6_knows (tF b.1).2.2.1 (tF b.1).2.2.2.2.2.2.2.1 (tF b.1).2.2.2.2.2.2.2.2.1 0 (-1) = some (.inl "java/lang/IndexOutOfBoundsException") := by
    unfold fX6_knows
    rw [show fX6_checkReader 0 = some (.inr ()) by decide +kernel, cp_m1]
    rfl
  unfold s_knows
  rw [h]
  rfl
theorem rf_21 (b : zOb) : s_told b 13 (-1) 9 0 = some ((-13), b) := by
  refine s_refuse (E := "java/lang/IndexOutOfBoundsException") ?_ (by decide +kernel)
  rw [sc_13]
  have h : fX6_reader (tF b.1).2.2.1 (tF b.1).2.2.2.1 (tF b.1).2.2.2.2.1 (tF b.1).2.2.2.2.2.2.2.1 (tF b.1).2.2.2.2.2.2.2.2.1 (tF b.1).2.2.2.2.2.2.2.2.2.1 (tF b.1).2.2.2.2.2.2.2.2.2.2.1 (tF b.1).2.2.2.2.2.2.2.2.2.2.2.1 (-1) 9 = some (.inl "java/lang/IndexOutOfBoundsException") := by
    unfold fX6_reader
    rw [show fX6_checkReader (-1) = some (.inl "java/lang/IndexOutOfBoundsException") by decide +kernel]
    rfl
  unfold s_reader
  rw [h]
  rfl
theorem rf_22 (b : zOb) : s_told b 13 0 (-1) 0 = some ((-11), b) := by
  refine s_refuse (E := "java/lang/IllegalArgumentException") ?_ (by decide +kernel)
  rw [sc_13]
  have h : fX6_reader (tF b.1).2.2.1 (tF b.1).2.2.2.1 (tF b.1).2.2.2.2.1 (tF b.1).2.2.2.2.2.2.2.1 (tF b.1).2.2.2.2.2.2.2.2.1 (tF b.1).2.2.2.2.2.2.2.2.2.1 (tF b.1).2.2.2.2.2.2.2.2.2.2.1 (tF b.1).2.2.2.2.2.2.2.2.2.2.2.1 0 (-1) = some (.inl "java/lang/IllegalArgumentException") := by
    unfold fX6_reader
    rw [show fX6_checkReader 0 = some (.inr ()) by decide +kernel, show fX6_checkWhat (-1) 6 = some (.inl "java/lang/IllegalArgumentException") by decide +kernel]
    rfl
  unfold s_reader
  rw [h]
  rfl
theorem rf_23 (b : zOb) : s_told b 14 (-1) 9 0 = some ((-13), b) := by
  refine s_refuse (E := "java/lang/IndexOutOfBoundsException") ?_ (by decide +kernel)
  rw [sc_14]
  have h : fX6_plot (tF b.1).2.2.1 (tF b.1).2.2.2.1 (tF b.1).2.2.2.2.1 (tF b.1).2.2.2.2.2.2.2.1 (tF b.1).2.2.2.2.2.2.2.2.1 (-1) 9 = some (.inl "java/lang/IndexOutOfBoundsException") := by
    unfold fX6_plot
    rfl
  unfold s_plot
  rw [h]
  rfl
theorem rf_24 (b : zOb) : s_told b 14 5 (-1) 0 = some ((-11), b) := by
  refine s_refuse (E := "java/lang/IllegalArgumentException") ?_ (by decide +kernel)
  rw [sc_14]
  have h : fX6_plot (tF b.1).2.2.1 (tF b.1).2.2.2.1 (tF b.1).2.2.2.2.1 (tF b.1).2.2.2.2.2.2.2.1 (tF b.1).2.2.2.2.2.2.2.2.1 5 (-1) = some (.inl "java/lang/IllegalArgumentException") := by
    unfold fX6_plot
    rw [show fX6_checkWhat (-1) 3 = some (.inl "java/lang/IllegalArgumentException") by decide +kernel]
    rfl
  unfold s_plot
  rw [h]
  rfl
theorem rf_25 (b : zOb) : s_told b 15 (-1) 0 0 = some ((-11), b) := by
  refine s_refuse (E := "java/lang/IllegalArgumentException") ?_ (by decide +kernel)
  rw [sc_15]
  have h : fX6_count (tF b.1).1 (tF b.1).2.1 (tF b.1).2.2.1 (tF b.1).2.2.2.2.2.1 (tF b.1).2.2.2.2.2.2.2.1 (tF b.1).2.2.2.2.2.2.2.2.1 (tF b.1).2.2.2.2.2.2.2.2.2.1 (nI b.2.1.length) (-1) = some (.inl "java/lang/IllegalArgumentException") := by
    unfold fX6_count
    rw [show fX6_checkWhat (-1) 6 = some (.inl "java/lang/IllegalArgumentException") by decide +kernel]
    rfl
  unfold s_count
  rw [h]
  rfl
theorem rf_26 (b : zOb) : s_told b 16 (-1) 0 0 = some ((-13), b) := by
  refine s_refuse (E := "java/lang/IndexOutOfBoundsException") ?_ (by decide +kernel)
  rw [sc_16]
  have h : fX6_setting (tF b.1).2.2.2.2.2.2.2.2.2.2.2.2 (-1) = some (.inl "java/lang/IndexOutOfBoundsException") := by
    unfold fX6_setting
    rfl
  unfold s_setting
  rw [h]
  rfl
theorem rf_27 (b : zOb) : s_told b 17 (-1) 0 9 = some ((-13), b) := by
  refine s_refuse (E := "java/lang/IndexOutOfBoundsException") ?_ (by decide +kernel)
  rw [sc_17]
  have h : fX6_recap (tF b.1).2.2.1 (tF b.1).2.2.2.2.2.1 (tF b.1).2.2.2.2.2.2.1 (tF b.1).2.2.2.2.2.2.2.1 (tF b.1).2.2.2.2.2.2.2.2.1 (tF b.1).2.2.2.2.2.2.2.2.2.2.2.2 (-1) 0 9 = some (.inl "java/lang/IndexOutOfBoundsException") := by
    unfold fX6_recap
    rw [show fX6_checkReader (-1) = some (.inl "java/lang/IndexOutOfBoundsException") by decide +kernel]
    rfl
  unfold s_recap
  rw [h]
  rfl
theorem rf_28 (b : zOb) : s_told b 17 0 (-1) 9 = some ((-13), b) := by
  refine s_refuse (E := "java/lang/IndexOutOfBoundsException") ?_ (by decide +kernel)
  rw [sc_17]
  have h : fX6_recap (tF b.1).2.2.1 (tF b.1).2.2.2.2.2.1 (tF b.1).2.2.2.2.2.2.1 (tF b.1).2.2.2.2.2.2.2.1 (tF b.1).2.2.2.2.2.2.2.2.1 (tF b.1).2.2.2.2.2.2.2.2.2.2.2.2 0 (-1) 9 = some (.inl "java/lang/IndexOutOfBoundsException") := by
    unfold fX6_recap
    rw [show fX6_checkReader 0 = some (.inr ()) by decide +kernel, cp_m1]
    rfl
  unfold s_recap
  rw [h]
  rfl
theorem rf_29 (b : zOb) (hs : 0 < (tF b.1).2.2.1) : s_told b 17 0 0 (-1) = some ((-11), b) := by
  refine s_refuse (E := "java/lang/IllegalArgumentException") ?_ (by decide +kernel)
  rw [sc_17]
  have h : fX6_recap (tF b.1).2.2.1 (tF b.1).2.2.2.2.2.1 (tF b.1).2.2.2.2.2.2.1 (tF b.1).2.2.2.2.2.2.2.1 (tF b.1).2.2.2.2.2.2.2.2.1 (tF b.1).2.2.2.2.2.2.2.2.2.2.2.2 0 0 (-1) = some (.inl "java/lang/IllegalArgumentException") := by
    unfold fX6_recap
    rw [show fX6_checkReader 0 = some (.inr ()) by decide +kernel, cp_0 hs, show fX6_checkWhat (-1) 4 = some (.inl "java/lang/IllegalArgumentException") by decide +kernel]
    rfl
  unfold s_recap
  rw [h]
  rfl
theorem rf_30 (b : zOb) : s_told b 18 (-1) 0 0 = some ((-13), b) := by
  refine s_refuse (E := "java/lang/IndexOutOfBoundsException") ?_ (by decide +kernel)
  rw [sc_18]
  have h : fX6_easiest (tF b.1).2.2.1 (tF b.1).2.2.2.2.2.1 (tF b.1).2.2.2.2.2.2.1 (tF b.1).2.2.2.2.2.2.2.1 (tF b.1).2.2.2.2.2.2.2.2.1 (tF b.1).2.2.2.2.2.2.2.2.2.2.2.2 (-1) = some (.inl "java/lang/IndexOutOfBoundsException") := by
    unfold fX6_easiest
    rw [show fX6_checkReader (-1) = some (.inl "java/lang/IndexOutOfBoundsException") by decide +kernel]
    rfl
  unfold s_easiest
  rw [h]
  rfl
theorem rf_31 (b : zOb) : s_told b 19 (-1) 0 0 = some ((-13), b) := by
  refine s_refuse (E := "java/lang/IndexOutOfBoundsException") ?_ (by decide +kernel)
  rw [sc_19]
  have h : fX6_enough (tF b.1).2.2.1 (tF b.1).2.2.2.2.2.2.1 (tF b.1).2.2.2.2.2.2.2.1 (tF b.1).2.2.2.2.2.2.2.2.1 (-1) = some (.inl "java/lang/IndexOutOfBoundsException") := by
    unfold fX6_enough
    rw [show fX6_checkReader (-1) = some (.inl "java/lang/IndexOutOfBoundsException") by decide +kernel]
    rfl
  unfold s_enough
  rw [h]
  rfl
theorem rf_32 (b : zOb) : s_told b 0 64 (-1) 5 = some ((-11), b) := by
  refine s_refuse (E := "java/lang/IllegalArgumentException") ?_ (by decide +kernel)
  rw [sc_0]
  have h : fX6_add (tF b.1).2.2.1 (tF b.1).2.2.2.1 (tF b.1).2.2.2.2.1 (tF b.1).2.2.2.2.2.1 (tF b.1).2.2.2.2.2.2.1 64 (-1) 5 = some (.inl "java/lang/IllegalArgumentException") := by
    unfold fX6_add
    rw [show fX6_checkPlots 64 (-1) = some (.inl "java/lang/IllegalArgumentException") by decide +kernel]
    rfl
  unfold s_add
  rw [h]
  rfl
theorem rf_33 (b : zOb) : s_told b 0 1 (-1) 100 = some ((-11), b) := by
  refine s_refuse (E := "java/lang/IllegalArgumentException") ?_ (by decide +kernel)
  rw [sc_0]
  have h : fX6_add (tF b.1).2.2.1 (tF b.1).2.2.2.1 (tF b.1).2.2.2.2.1 (tF b.1).2.2.2.2.2.1 (tF b.1).2.2.2.2.2.2.1 1 (-1) 100 = some (.inl "java/lang/IllegalArgumentException") := by
    unfold fX6_add
    rw [show fX6_checkPlots 1 (-1) = some (.inr ()) by decide +kernel]
    rfl
  unfold s_add
  rw [h]
  rfl
theorem rf_34 (b : zOb) : s_told b 0 2 (-2) 5 = some ((-11), b) := by
  refine s_refuse (E := "java/lang/IllegalArgumentException") ?_ (by decide +kernel)
  rw [sc_0]
  have h : fX6_add (tF b.1).2.2.1 (tF b.1).2.2.2.1 (tF b.1).2.2.2.2.1 (tF b.1).2.2.2.2.2.1 (tF b.1).2.2.2.2.2.2.1 2 (-2) 5 = some (.inl "java/lang/IllegalArgumentException") := by
    unfold fX6_add
    rw [show fX6_checkPlots 2 (-2) = some (.inl "java/lang/IllegalArgumentException") by decide +kernel]
    rfl
  unfold s_add
  rw [h]
  rfl
theorem rf_35 (b : zOb) : s_told b 0 2 6 5 = some ((-11), b) := by
  refine s_refuse (E := "java/lang/IllegalArgumentException") ?_ (by decide +kernel)
  rw [sc_0]
  have h : fX6_add (tF b.1).2.2.1 (tF b.1).2.2.2.1 (tF b.1).2.2.2.2.1 (tF b.1).2.2.2.2.2.1 (tF b.1).2.2.2.2.2.2.1 2 6 5 = some (.inl "java/lang/IllegalArgumentException") := by
    unfold fX6_add
    rw [show fX6_checkPlots 2 6 = some (.inl "java/lang/IllegalArgumentException") by decide +kernel]
    rfl
  unfold s_add
  rw [h]
  rfl
theorem rf_36 (b : zOb) : s_told b 1 (tF b.1).2.2.1 0 9 = some ((-13), b) := by
  refine s_refuse (E := "java/lang/IndexOutOfBoundsException") ?_ (by decide +kernel)
  rw [sc_1]
  have h : fX6_change (tF b.1).2.2.1 (tF b.1).2.2.2.1 (tF b.1).2.2.2.2.1 (tF b.1).2.2.2.2.2.2.1 (tF b.1).2.2.1 0 9 = some (.inl "java/lang/IndexOutOfBoundsException") := by
    unfold fX6_change
    rw [cp_sz]
    rfl
  unfold s_change
  rw [h]
  rfl
theorem rf_37 (b : zOb) (hs : 0 < (tF b.1).2.2.1) : s_told b 1 0 64 (-1) = some ((-11), b) := by
  refine s_refuse (E := "java/lang/IllegalArgumentException") ?_ (by decide +kernel)
  rw [sc_1]
  have h : fX6_change (tF b.1).2.2.1 (tF b.1).2.2.2.1 (tF b.1).2.2.2.2.1 (tF b.1).2.2.2.2.2.2.1 0 64 (-1) = some (.inl "java/lang/IllegalArgumentException") := by
    unfold fX6_change
    rw [cp_0 hs, show fX6_checkPlots 64 (-1) = some (.inl "java/lang/IllegalArgumentException") by decide +kernel]
    rfl
  unfold s_change
  rw [h]
  rfl
theorem rf_38 (b : zOb) (hs : 0 < (tF b.1).2.2.1) : s_told b 1 0 4 34 = some ((-11), b) := by
  refine s_refuse (E := "java/lang/IllegalArgumentException") ?_ (by decide +kernel)
  rw [sc_1]
  have h : fX6_change (tF b.1).2.2.1 (tF b.1).2.2.2.1 (tF b.1).2.2.2.2.1 (tF b.1).2.2.2.2.2.2.1 0 4 34 = some (.inl "java/lang/IllegalArgumentException") := by
    unfold fX6_change
    rw [cp_0 hs, show fX6_checkPlots 4 34 = some (.inl "java/lang/IllegalArgumentException") by decide +kernel]
    rfl
  unfold s_change
  rw [h]
  rfl
theorem rf_39 (b : zOb) : s_told b 3 2 99 0 = some ((-13), b) := by
  refine s_refuse (E := "java/lang/IndexOutOfBoundsException") ?_ (by decide +kernel)
  rw [sc_3]
  have h : fX6_set (tF b.1).2.2.2.2.2.2.2.2.2.2.2.2 2 99 = some (.inl "java/lang/IndexOutOfBoundsException") := by
    unfold fX6_set
    rfl
  unfold s_set
  rw [h]
  rfl
theorem rf_40 (b : zOb) : s_told b 3 0 20 0 = some ((-11), b) := by
  refine s_refuse (E := "java/lang/IllegalArgumentException") ?_ (by decide +kernel)
  rw [sc_3]
  have h : fX6_set (tF b.1).2.2.2.2.2.2.2.2.2.2.2.2 0 20 = some (.inl "java/lang/IllegalArgumentException") := by
    unfold fX6_set
    rfl
  unfold s_set
  rw [h]
  rfl
theorem rf_41 (b : zOb) : s_told b 3 1 21 0 = some ((-11), b) := by
  refine s_refuse (E := "java/lang/IllegalArgumentException") ?_ (by decide +kernel)
  rw [sc_3]
  have h : fX6_set (tF b.1).2.2.2.2.2.2.2.2.2.2.2.2 1 21 = some (.inl "java/lang/IllegalArgumentException") := by
    unfold fX6_set
    rfl
  unfold s_set
  rw [h]
  rfl
theorem rf_42 (b : zOb) : s_told b 4 6 0 0 = some ((-13), b) := by
  refine s_refuse (E := "java/lang/IndexOutOfBoundsException") ?_ (by decide +kernel)
  rw [sc_4]
  have h : fX6_mail (tF b.1).1 (tF b.1).2.2.1 (tF b.1).2.2.2.2.2.1 (tF b.1).2.2.2.2.2.2.1 (tF b.1).2.2.2.2.2.2.2.1 (tF b.1).2.2.2.2.2.2.2.2.1 (tF b.1).2.2.2.2.2.2.2.2.2.1 (tF b.1).2.2.2.2.2.2.2.2.2.2.1 (tF b.1).2.2.2.2.2.2.2.2.2.2.2.1 (tF b.1).2.2.2.2.2.2.2.2.2.2.2.2 6 0 = some (.inl "java/lang/IndexOutOfBoundsException") := by
    unfold fX6_mail
    rw [show fX6_checkReader 6 = some (.inl "java/lang/IndexOutOfBoundsException") by decide +kernel]
    rfl
  unfold s_mail
  rw [h]
  rfl
theorem rf_43 (b : zOb) : s_told b 4 0 (tF b.1).2.2.1 0 = some ((-13), b) := by
  refine s_refuse (E := "java/lang/IndexOutOfBoundsException") ?_ (by decide +kernel)
  rw [sc_4]
  have h : fX6_mail (tF b.1).1 (tF b.1).2.2.1 (tF b.1).2.2.2.2.2.1 (tF b.1).2.2.2.2.2.2.1 (tF b.1).2.2.2.2.2.2.2.1 (tF b.1).2.2.2.2.2.2.2.2.1 (tF b.1).2.2.2.2.2.2.2.2.2.1 (tF b.1).2.2.2.2.2.2.2.2.2.2.1 (tF b.1).2.2.2.2.2.2.2.2.2.2.2.1 (tF b.1).2.2.2.2.2.2.2.2.2.2.2.2 0 (tF b.1).2.2.1 = some (.inl "java/lang/IndexOutOfBoundsException") := by
    unfold fX6_mail
    rw [show fX6_checkReader 0 = some (.inr ()) by decide +kernel, cp_sz]
    rfl
  unfold s_mail
  rw [h]
  rfl
theorem rf_44 (b : zOb) : s_told b 5 (tF b.1).2.2.1 99 0 = some ((-13), b) := by
  refine s_refuse (E := "java/lang/IndexOutOfBoundsException") ?_ (by decide +kernel)
  rw [sc_5]
  have h : fX6_mailAll (tF b.1).1 (tF b.1).2.1 (tF b.1).2.2.1 (tF b.1).2.2.2.2.2.1 (tF b.1).2.2.2.2.2.2.1 (tF b.1).2.2.2.2.2.2.2.1 (tF b.1).2.2.2.2.2.2.2.2.1 (tF b.1).2.2.2.2.2.2.2.2.2.1 (tF b.1).2.2.2.2.2.2.2.2.2.2.1 (tF b.1).2.2.2.2.2.2.2.2.2.2.2.1 (tF b.1).2.2.2.2.2.2.2.2.2.2.2.2 (tF b.1).2.2.1 99 = some (.inl "java/lang/IndexOutOfBoundsException") := by
    unfold fX6_mailAll
    rw [cp_sz]
    rfl
  unfold s_mailAll
  rw [h]
  rfl
theorem rf_45 (b : zOb) (hs : 0 < (tF b.1).2.2.1) : s_told b 5 0 64 0 = some ((-11), b) := by
  refine s_refuse (E := "java/lang/IllegalArgumentException") ?_ (by decide +kernel)
  rw [sc_5]
  have h : fX6_mailAll (tF b.1).1 (tF b.1).2.1 (tF b.1).2.2.1 (tF b.1).2.2.2.2.2.1 (tF b.1).2.2.2.2.2.2.1 (tF b.1).2.2.2.2.2.2.2.1 (tF b.1).2.2.2.2.2.2.2.2.1 (tF b.1).2.2.2.2.2.2.2.2.2.1 (tF b.1).2.2.2.2.2.2.2.2.2.2.1 (tF b.1).2.2.2.2.2.2.2.2.2.2.2.1 (tF b.1).2.2.2.2.2.2.2.2.2.2.2.2 0 64 = some (.inl "java/lang/IllegalArgumentException") := by
    unfold fX6_mailAll
    rw [cp_0 hs]
    rfl
  unfold s_mailAll
  rw [h]
  rfl
theorem rf_46 (b : zOb) : s_told b 6 6 0 0 = some ((-13), b) := by
  refine s_refuse (E := "java/lang/IndexOutOfBoundsException") ?_ (by decide +kernel)
  rw [sc_6]
  have h : fX6_forget (tF b.1).2.2.2.2.2.2.2.1 6 = some (.inl "java/lang/IndexOutOfBoundsException") := by
    unfold fX6_forget
    rw [show fX6_checkReader 6 = some (.inl "java/lang/IndexOutOfBoundsException") by decide +kernel]
    rfl
  unfold s_forget
  rw [h]
  rfl
theorem rf_47 (b : zOb) : s_told b 7 6 0 0 = some ((-13), b) := by
  refine s_refuse (E := "java/lang/IndexOutOfBoundsException") ?_ (by decide +kernel)
  rw [sc_7]
  have h : fX6_catchUp (tF b.1).1 (tF b.1).2.2.1 (tF b.1).2.2.2.2.2.1 (tF b.1).2.2.2.2.2.2.1 (tF b.1).2.2.2.2.2.2.2.1 (tF b.1).2.2.2.2.2.2.2.2.1 (tF b.1).2.2.2.2.2.2.2.2.2.1 (tF b.1).2.2.2.2.2.2.2.2.2.2.1 (tF b.1).2.2.2.2.2.2.2.2.2.2.2.1 (tF b.1).2.2.2.2.2.2.2.2.2.2.2.2 6 = some (.inl "java/lang/IndexOutOfBoundsException") := by
    unfold fX6_catchUp
    rw [show fX6_checkReader 6 = some (.inl "java/lang/IndexOutOfBoundsException") by decide +kernel]
    rfl
  unfold s_catchUp
  rw [h]
  rfl
theorem rf_48 (b : zOb) : s_told b 8 127 0 0 = some ((-11), b) := by
  refine s_refuse (E := "java/lang/IllegalArgumentException") ?_ (by decide +kernel)
  rw [sc_8]
  have h : fX6_append b.2.2.1 (tf b.2.2.2) 127 = some (.inl "java/lang/IllegalArgumentException") := by
    unfold fX6_append
    rfl
  unfold s_append
  rw [h]
  rfl
theorem rf_49 (b : zOb) : s_told b 11 (tF b.1).2.2.1 9 0 = some ((-13), b) := by
  refine s_refuse (E := "java/lang/IndexOutOfBoundsException") ?_ (by decide +kernel)
  rw [sc_11]
  have h : fX6_part (tF b.1).2.2.1 (tF b.1).2.2.2.1 (tF b.1).2.2.2.2.1 (tF b.1).2.2.2.2.2.1 (tF b.1).2.2.2.2.2.2.1 (tF b.1).2.2.2.2.2.2.2.2.1 (tF b.1).2.2.1 9 = some (.inl "java/lang/IndexOutOfBoundsException") := by
    unfold fX6_part
    rw [cp_sz]
    rfl
  unfold s_part
  rw [h]
  rfl
theorem rf_50 (b : zOb) (hs : 0 < (tF b.1).2.2.1) : s_told b 11 0 7 0 = some ((-11), b) := by
  refine s_refuse (E := "java/lang/IllegalArgumentException") ?_ (by decide +kernel)
  rw [sc_11]
  have h : fX6_part (tF b.1).2.2.1 (tF b.1).2.2.2.1 (tF b.1).2.2.2.2.1 (tF b.1).2.2.2.2.2.1 (tF b.1).2.2.2.2.2.2.1 (tF b.1).2.2.2.2.2.2.2.2.1 0 7 = some (.inl "java/lang/IllegalArgumentException") := by
    unfold fX6_part
    rw [cp_0 hs, show fX6_checkWhat 7 6 = some (.inl "java/lang/IllegalArgumentException") by decide +kernel]
    rfl
  unfold s_part
  rw [h]
  rfl
theorem rf_51 (b : zOb) : s_told b 12 6 0 0 = some ((-13), b) := by
  refine s_refuse (E := "java/lang/IndexOutOfBoundsException") ?_ (by decide +kernel)
  rw [sc_12]
  have h : fX6_knows (tF b.1).2.2.1 (tF b.1).2.2.2.2.2.2.2.1 (tF b.1).2.2.2.2.2.2.2.2.1 6 0 = some (.inl "java/lang/IndexOutOfBoundsException") := by
    unfold fX6_knows
    rw [show fX6_checkReader 6 = some (.inl "java/lang/IndexOutOfBoundsException") by decide +kernel]
    rfl
  unfold s_knows
  rw [h]
  rfl
theorem rf_52 (b : zOb) : s_told b 12 0 (tF b.1).2.2.1 0 = some ((-13), b) := by
  refine s_refuse (E := "java/lang/IndexOutOfBoundsException") ?_ (by decide +kernel)
  rw [sc_12]
  have h : fX6_knows (tF b.1).2.2.1 (tF b.1).2.2.2.2.2.2.2.1 (tF b.1).2.2.2.2.2.2.2.2.1 0 (tF b.1).2.2.1 = some (.inl "java/lang/IndexOutOfBoundsException") := by
    unfold fX6_knows
    rw [show fX6_checkReader 0 = some (.inr ()) by decide +kernel, cp_sz]
    rfl
  unfold s_knows
  rw [h]
  rfl
theorem rf_53 (b : zOb) : s_told b 13 6 9 0 = some ((-13), b) := by
  refine s_refuse (E := "java/lang/IndexOutOfBoundsException") ?_ (by decide +kernel)
  rw [sc_13]
  have h : fX6_reader (tF b.1).2.2.1 (tF b.1).2.2.2.1 (tF b.1).2.2.2.2.1 (tF b.1).2.2.2.2.2.2.2.1 (tF b.1).2.2.2.2.2.2.2.2.1 (tF b.1).2.2.2.2.2.2.2.2.2.1 (tF b.1).2.2.2.2.2.2.2.2.2.2.1 (tF b.1).2.2.2.2.2.2.2.2.2.2.2.1 6 9 = some (.inl "java/lang/IndexOutOfBoundsException") := by
    unfold fX6_reader
    rw [show fX6_checkReader 6 = some (.inl "java/lang/IndexOutOfBoundsException") by decide +kernel]
    rfl
  unfold s_reader
  rw [h]
  rfl
theorem rf_54 (b : zOb) : s_told b 13 0 7 0 = some ((-11), b) := by
  refine s_refuse (E := "java/lang/IllegalArgumentException") ?_ (by decide +kernel)
  rw [sc_13]
  have h : fX6_reader (tF b.1).2.2.1 (tF b.1).2.2.2.1 (tF b.1).2.2.2.2.1 (tF b.1).2.2.2.2.2.2.2.1 (tF b.1).2.2.2.2.2.2.2.2.1 (tF b.1).2.2.2.2.2.2.2.2.2.1 (tF b.1).2.2.2.2.2.2.2.2.2.2.1 (tF b.1).2.2.2.2.2.2.2.2.2.2.2.1 0 7 = some (.inl "java/lang/IllegalArgumentException") := by
    unfold fX6_reader
    rw [show fX6_checkReader 0 = some (.inr ()) by decide +kernel, show fX6_checkWhat 7 6 = some (.inl "java/lang/IllegalArgumentException") by decide +kernel]
    rfl
  unfold s_reader
  rw [h]
  rfl
theorem rf_55 (b : zOb) : s_told b 14 6 9 0 = some ((-13), b) := by
  refine s_refuse (E := "java/lang/IndexOutOfBoundsException") ?_ (by decide +kernel)
  rw [sc_14]
  have h : fX6_plot (tF b.1).2.2.1 (tF b.1).2.2.2.1 (tF b.1).2.2.2.2.1 (tF b.1).2.2.2.2.2.2.2.1 (tF b.1).2.2.2.2.2.2.2.2.1 6 9 = some (.inl "java/lang/IndexOutOfBoundsException") := by
    unfold fX6_plot
    rfl
  unfold s_plot
  rw [h]
  rfl
theorem rf_56 (b : zOb) : s_told b 14 5 4 0 = some ((-11), b) := by
  refine s_refuse (E := "java/lang/IllegalArgumentException") ?_ (by decide +kernel)
  rw [sc_14]
  have h : fX6_plot (tF b.1).2.2.1 (tF b.1).2.2.2.1 (tF b.1).2.2.2.2.1 (tF b.1).2.2.2.2.2.2.2.1 (tF b.1).2.2.2.2.2.2.2.2.1 5 4 = some (.inl "java/lang/IllegalArgumentException") := by
    unfold fX6_plot
    rw [show fX6_checkWhat 4 3 = some (.inl "java/lang/IllegalArgumentException") by decide +kernel]
    rfl
  unfold s_plot
  rw [h]
  rfl
theorem rf_57 (b : zOb) : s_told b 15 7 0 0 = some ((-11), b) := by
  refine s_refuse (E := "java/lang/IllegalArgumentException") ?_ (by decide +kernel)
  rw [sc_15]
  have h : fX6_count (tF b.1).1 (tF b.1).2.1 (tF b.1).2.2.1 (tF b.1).2.2.2.2.2.1 (tF b.1).2.2.2.2.2.2.2.1 (tF b.1).2.2.2.2.2.2.2.2.1 (tF b.1).2.2.2.2.2.2.2.2.2.1 (nI b.2.1.length) 7 = some (.inl "java/lang/IllegalArgumentException") := by
    unfold fX6_count
    rw [show fX6_checkWhat 7 6 = some (.inl "java/lang/IllegalArgumentException") by decide +kernel]
    rfl
  unfold s_count
  rw [h]
  rfl
theorem rf_58 (b : zOb) : s_told b 16 2 0 0 = some ((-13), b) := by
  refine s_refuse (E := "java/lang/IndexOutOfBoundsException") ?_ (by decide +kernel)
  rw [sc_16]
  have h : fX6_setting (tF b.1).2.2.2.2.2.2.2.2.2.2.2.2 2 = some (.inl "java/lang/IndexOutOfBoundsException") := by
    unfold fX6_setting
    rfl
  unfold s_setting
  rw [h]
  rfl
theorem rf_59 (b : zOb) : s_told b 17 6 0 9 = some ((-13), b) := by
  refine s_refuse (E := "java/lang/IndexOutOfBoundsException") ?_ (by decide +kernel)
  rw [sc_17]
  have h : fX6_recap (tF b.1).2.2.1 (tF b.1).2.2.2.2.2.1 (tF b.1).2.2.2.2.2.2.1 (tF b.1).2.2.2.2.2.2.2.1 (tF b.1).2.2.2.2.2.2.2.2.1 (tF b.1).2.2.2.2.2.2.2.2.2.2.2.2 6 0 9 = some (.inl "java/lang/IndexOutOfBoundsException") := by
    unfold fX6_recap
    rw [show fX6_checkReader 6 = some (.inl "java/lang/IndexOutOfBoundsException") by decide +kernel]
    rfl
  unfold s_recap
  rw [h]
  rfl
theorem rf_60 (b : zOb) : s_told b 17 0 (tF b.1).2.2.1 9 = some ((-13), b) := by
  refine s_refuse (E := "java/lang/IndexOutOfBoundsException") ?_ (by decide +kernel)
  rw [sc_17]
  have h : fX6_recap (tF b.1).2.2.1 (tF b.1).2.2.2.2.2.1 (tF b.1).2.2.2.2.2.2.1 (tF b.1).2.2.2.2.2.2.2.1 (tF b.1).2.2.2.2.2.2.2.2.1 (tF b.1).2.2.2.2.2.2.2.2.2.2.2.2 0 (tF b.1).2.2.1 9 = some (.inl "java/lang/IndexOutOfBoundsException") := by
    unfold fX6_recap
    rw [show fX6_checkReader 0 = some (.inr ()) by decide +kernel, cp_sz]
    rfl
  unfold s_recap
  rw [h]
  rfl
theorem rf_61 (b : zOb) (hs : 0 < (tF b.1).2.2.1) : s_told b 17 0 0 5 = some ((-11), b) := by
  refine s_refuse (E := "java/lang/IllegalArgumentException") ?_ (by decide +kernel)
  rw [sc_17]
  have h : fX6_recap (tF b.1).2.2.1 (tF b.1).2.2.2.2.2.1 (tF b.1).2.2.2.2.2.2.1 (tF b.1).2.2.2.2.2.2.2.1 (tF b.1).2.2.2.2.2.2.2.2.1 (tF b.1).2.2.2.2.2.2.2.2.2.2.2.2 0 0 5 = some (.inl "java/lang/IllegalArgumentException") := by
    unfold fX6_recap
    rw [show fX6_checkReader 0 = some (.inr ()) by decide +kernel, cp_0 hs, show fX6_checkWhat 5 4 = some (.inl "java/lang/IllegalArgumentException") by decide +kernel]
    rfl
  unfold s_recap
  rw [h]
  rfl
theorem rf_62 (b : zOb) : s_told b 18 6 0 0 = some ((-13), b) := by
  refine s_refuse (E := "java/lang/IndexOutOfBoundsException") ?_ (by decide +kernel)
  rw [sc_18]
  have h : fX6_easiest (tF b.1).2.2.1 (tF b.1).2.2.2.2.2.1 (tF b.1).2.2.2.2.2.2.1 (tF b.1).2.2.2.2.2.2.2.1 (tF b.1).2.2.2.2.2.2.2.2.1 (tF b.1).2.2.2.2.2.2.2.2.2.2.2.2 6 = some (.inl "java/lang/IndexOutOfBoundsException") := by
    unfold fX6_easiest
    rw [show fX6_checkReader 6 = some (.inl "java/lang/IndexOutOfBoundsException") by decide +kernel]
    rfl
  unfold s_easiest
  rw [h]
  rfl
theorem rf_63 (b : zOb) : s_told b 19 6 0 0 = some ((-13), b) := by
  refine s_refuse (E := "java/lang/IndexOutOfBoundsException") ?_ (by decide +kernel)
  rw [sc_19]
  have h : fX6_enough (tF b.1).2.2.1 (tF b.1).2.2.2.2.2.2.1 (tF b.1).2.2.2.2.2.2.2.1 (tF b.1).2.2.2.2.2.2.2.2.1 6 = some (.inl "java/lang/IndexOutOfBoundsException") := by
    unfold fX6_enough
    rw [show fX6_checkReader 6 = some (.inl "java/lang/IndexOutOfBoundsException") by decide +kernel]
    rfl
  unfold s_enough
  rw [h]
  rfl
set_option maxRecDepth 100000 in
set_option maxHeartbeats 4000000 in
theorem M_refusesAny_0 (l : Launch) (hT : l.stackTraces = false) (Δ : zE) {b : zOb} (hs : 0 < (tF b.1).2.2.1) (a : Nat) (ws : va_W) (hw : wOb Δ a b ws) : zMX l Δ yL_refusesAny (.code yL_refusesAny cL_refusesAny 4 (some .boolean)) 10 190 481 4454 [.ref a, .int 0] ws (fun rv w => rv = some (.int 1) ∧ wOb Δ a b w) (fun _ _ => False) := by
  refine x_start hT (by decide +kernel) (Nat.le_of_ble_eq_true rfl) ?_
  intro p e s m args below meth c A ls Y htab Z hl
  have X := Y.1
  have hl : lv_has ls 4 [(0, .ref a), (1, .int 0)] := hl
  rw [← List.append_nil ws] at Z
  refine lv_iload_n X.x X.b dL_refusesAny_0 rfl (lv_at hl 1 rfl) ?_
  refine lv_if_ne (tgt := 8) X.x X.b dL_refusesAny_1 (by decide) (fun h => absurd h (by decide)) (fun _ => ?_)
  refine lv_iconst (v := (-1)) X.x X.b dL_refusesAny_4 ki_m1 ?_
  refine lv_goto (tgt := 13) X.x X.b dL_refusesAny_5 (by decide) ?_
  refine lv_istore_n (lv' := [(2, .int (-1)), (0, .ref a), (1, .int 0)]) X.x X.b dL_refusesAny_13 rfl hl (Nat.le_of_ble_eq_true rfl) rfl (fun ls hl => ?_)
  refine lv_iload_n X.x X.b dL_refusesAny_14 rfl (lv_at hl 2 rfl) ?_
  refine lv_if_ne (tgt := 22) X.x X.b dL_refusesAny_15 (by decide) (fun h => absurd h (by decide)) (fun _ => ?_)
  refine lv_iconst (v := (-1)) X.x X.b dL_refusesAny_18 ki_m1 ?_
  refine lv_goto (tgt := 24) X.x X.b dL_refusesAny_19 (by decide) ?_
  refine lv_istore_n (lv' := [(3, .int (-1)), (2, .int (-1)), (0, .ref a), (1, .int 0)]) X.x X.b dL_refusesAny_24 rfl hl (Nat.le_of_ble_eq_true rfl) rfl (fun ls hl => ?_)
  refine lv_aload_n X.x X.b dL_refusesAny_25 rfl (lv_at hl 2 rfl) ?_
  refine lv_iconst (v := 0) X.x X.b dL_refusesAny_26 ki_0 ?_
  refine lv_iload_n X.x X.b dL_refusesAny_27 rfl (lv_at hl 3 rfl) ?_
  refine lv_if_ne (tgt := 35) X.x X.b dL_refusesAny_28 (by decide) (fun h => absurd h (by decide)) (fun _ => ?_)
  refine lv_iconst (v := 0) X.x X.b dL_refusesAny_31 ki_0 ?_
  refine lv_goto (tgt := 37) X.x X.b dL_refusesAny_32 (by decide) ?_
  refine lv_iconst (v := (-1)) X.x X.b dL_refusesAny_37 ki_m1 ?_
  refine lv_iconst (v := 5) X.x X.b dL_refusesAny_38 ki_5 ?_
  refine o_statX (wr := []) Y Z hl (M_told l hT Δ 0 0 (-1) 5 (rf_0 b) a ws hw) wd_349 wd_350 wd_18 wd_351 ok_L_told rfl (rest := []) rfl (Nat.le_of_ble_eq_true rfl) ⟨Nat.le_of_ble_eq_true rfl, Nat.le_of_ble_eq_true rfl⟩ ⟨Nat.le_of_ble_eq_true rfl, Nat.le_of_ble_eq_true rfl⟩ (c1 := 15) (s1 := 139) rfl rfl dL_refusesAny_39 (fun rv ws H locs hP Z => ?_)
  obtain ⟨rfl, hw⟩ := hP
  refine W.eq (g2 := F0 m 42 ls [.int (-11)]) rfl ?_
  refine lv_bipush (v := (-11)) X.x X.b dL_refusesAny_42 kb_m11 ?_
  refine lv_icmp_ne (tgt := 238) X.x X.b dL_refusesAny_44 (by decide) (fun h => absurd h (by decide)) (fun _ => ?_)
  refine lv_aload_n X.x X.b dL_refusesAny_47 rfl (lv_at hl 2 rfl) ?_
  refine lv_iconst (v := 0) X.x X.b dL_refusesAny_48 ki_0 ?_
  refine lv_iconst (v := 1) X.x X.b dL_refusesAny_49 ki_1 ?_
  refine lv_iconst (v := (-1)) X.x X.b dL_refusesAny_50 ki_m1 ?_
  refine lv_iload_n X.x X.b dL_refusesAny_51 rfl (lv_at hl 3 rfl) ?_
  refine lv_if_ne (tgt := 59) X.x X.b dL_refusesAny_52 (by decide) (fun h => absurd h (by decide)) (fun _ => ?_)
  refine lv_iconst (v := 0) X.x X.b dL_refusesAny_55 ki_0 ?_
  refine lv_goto (tgt := 61) X.x X.b dL_refusesAny_56 (by decide) ?_
  refine o_statX (wr := []) Y Z hl (M_told l hT Δ 0 1 (-1) 0 (rf_1 b) a ws hw) wd_349 wd_350 wd_18 wd_351 ok_L_told rfl (rest := []) rfl (Nat.le_of_ble_eq_true rfl) ⟨Nat.le_of_ble_eq_true rfl, Nat.le_of_ble_eq_true rfl⟩ ⟨Nat.le_of_ble_eq_true rfl, Nat.le_of_ble_eq_true rfl⟩ (c1 := 30) (s1 := 278) rfl rfl dL_refusesAny_61 (fun rv ws H locs hP Z => ?_)
  obtain ⟨rfl, hw⟩ := hP
  refine W.eq (g2 := F0 m 64 ls [.int (-11)]) rfl ?_
  refine lv_bipush (v := (-11)) X.x X.b dL_refusesAny_64 kb_m11 ?_
  refine lv_icmp_ne (tgt := 238) X.x X.b dL_refusesAny_66 (by decide) (fun h => absurd h (by decide)) (fun _ => ?_)
  refine lv_aload_n X.x X.b dL_refusesAny_69 rfl (lv_at hl 2 rfl) ?_
  refine lv_iconst (v := 0) X.x X.b dL_refusesAny_70 ki_0 ?_
  refine lv_iconst (v := 2) X.x X.b dL_refusesAny_71 ki_2 ?_
  refine lv_iload_n X.x X.b dL_refusesAny_72 rfl (lv_at hl 3 rfl) ?_
  refine lv_if_ne (tgt := 80) X.x X.b dL_refusesAny_73 (by decide) (fun h => absurd h (by decide)) (fun _ => ?_)
  refine lv_iconst (v := 0) X.x X.b dL_refusesAny_76 ki_0 ?_
  refine lv_goto (tgt := 82) X.x X.b dL_refusesAny_77 (by decide) ?_
  refine lv_iconst (v := 5) X.x X.b dL_refusesAny_82 ki_5 ?_
  refine o_statX (wr := []) Y Z hl (M_told l hT Δ 0 2 0 5 (rf_2 b) a ws hw) wd_349 wd_350 wd_18 wd_351 ok_L_told rfl (rest := []) rfl (Nat.le_of_ble_eq_true rfl) ⟨Nat.le_of_ble_eq_true rfl, Nat.le_of_ble_eq_true rfl⟩ ⟨Nat.le_of_ble_eq_true rfl, Nat.le_of_ble_eq_true rfl⟩ (c1 := 45) (s1 := 417) rfl rfl dL_refusesAny_83 (fun rv ws H locs hP Z => ?_)
  obtain ⟨rfl, hw⟩ := hP
  refine W.eq (g2 := F0 m 86 ls [.int (-11)]) rfl ?_
  refine lv_bipush (v := (-11)) X.x X.b dL_refusesAny_86 kb_m11 ?_
  refine lv_icmp_ne (tgt := 238) X.x X.b dL_refusesAny_88 (by decide) (fun h => absurd h (by decide)) (fun _ => ?_)
  refine lv_aload_n X.x X.b dL_refusesAny_91 rfl (lv_at hl 2 rfl) ?_
  refine lv_iconst (v := 0) X.x X.b dL_refusesAny_92 ki_0 ?_
  refine lv_iconst (v := 2) X.x X.b dL_refusesAny_93 ki_2 ?_
  refine lv_iload_n X.x X.b dL_refusesAny_94 rfl (lv_at hl 3 rfl) ?_
  refine lv_if_ne (tgt := 103) X.x X.b dL_refusesAny_95 (by decide) (fun h => absurd h (by decide)) (fun _ => ?_)
  refine lv_bipush (v := 33) X.x X.b dL_refusesAny_98 kb_33 ?_
  refine lv_goto (tgt := 105) X.x X.b dL_refusesAny_100 (by decide) ?_
  refine lv_iconst (v := 5) X.x X.b dL_refusesAny_105 ki_5 ?_
  refine o_statX (wr := []) Y Z hl (M_told l hT Δ 0 2 33 5 (rf_3 b) a ws hw) wd_349 wd_350 wd_18 wd_351 ok_L_told rfl (rest := []) rfl (Nat.le_of_ble_eq_true rfl) ⟨Nat.le_of_ble_eq_true rfl, Nat.le_of_ble_eq_true rfl⟩ ⟨Nat.le_of_ble_eq_true rfl, Nat.le_of_ble_eq_true rfl⟩ (c1 := 60) (s1 := 556) rfl rfl dL_refusesAny_106 (fun rv ws H locs hP Z => ?_)
  obtain ⟨rfl, hw⟩ := hP
  refine W.eq (g2 := F0 m 109 ls [.int (-11)]) rfl ?_
  refine lv_bipush (v := (-11)) X.x X.b dL_refusesAny_109 kb_m11 ?_
  refine lv_icmp_ne (tgt := 238) X.x X.b dL_refusesAny_111 (by decide) (fun h => absurd h (by decide)) (fun _ => ?_)
  refine lv_aload_n X.x X.b dL_refusesAny_114 rfl (lv_at hl 2 rfl) ?_
  refine lv_iconst (v := 1) X.x X.b dL_refusesAny_115 ki_1 ?_
  refine lv_iload_n X.x X.b dL_refusesAny_116 rfl (lv_at hl 1 rfl) ?_
  refine lv_iconst (v := 0) X.x X.b dL_refusesAny_117 ki_0 ?_
  refine lv_bipush (v := 9) X.x X.b dL_refusesAny_118 kb_9 ?_
  refine o_statX (wr := []) Y Z hl (M_told l hT Δ 1 (-1) 0 9 (rf_4 b) a ws hw) wd_349 wd_350 wd_18 wd_351 ok_L_told rfl (rest := []) rfl (Nat.le_of_ble_eq_true rfl) ⟨Nat.le_of_ble_eq_true rfl, Nat.le_of_ble_eq_true rfl⟩ ⟨Nat.le_of_ble_eq_true rfl, Nat.le_of_ble_eq_true rfl⟩ (c1 := 75) (s1 := 695) rfl rfl dL_refusesAny_120 (fun rv ws H locs hP Z => ?_)
  obtain ⟨rfl, hw⟩ := hP
  refine W.eq (g2 := F0 m 123 ls [.int (-13)]) rfl ?_
  refine lv_bipush (v := (-13)) X.x X.b dL_refusesAny_123 kb_m13 ?_
  refine lv_icmp_ne (tgt := 238) X.x X.b dL_refusesAny_125 (by decide) (fun h => absurd h (by decide)) (fun _ => ?_)
  refine lv_aload_n X.x X.b dL_refusesAny_128 rfl (lv_at hl 2 rfl) ?_
  refine lv_iconst (v := 1) X.x X.b dL_refusesAny_129 ki_1 ?_
  refine lv_iconst (v := 0) X.x X.b dL_refusesAny_130 ki_0 ?_
  refine lv_iload_n X.x X.b dL_refusesAny_131 rfl (lv_at hl 3 rfl) ?_
  refine lv_if_ne (tgt := 139) X.x X.b dL_refusesAny_132 (by decide) (fun h => absurd h (by decide)) (fun _ => ?_)
  refine lv_iconst (v := 0) X.x X.b dL_refusesAny_135 ki_0 ?_
  refine lv_goto (tgt := 141) X.x X.b dL_refusesAny_136 (by decide) ?_
  refine lv_iconst (v := (-1)) X.x X.b dL_refusesAny_141 ki_m1 ?_
  refine o_statX (wr := []) Y Z hl (M_told l hT Δ 1 0 0 (-1) (rf_5 b hs) a ws hw) wd_349 wd_350 wd_18 wd_351 ok_L_told rfl (rest := []) rfl (Nat.le_of_ble_eq_true rfl) ⟨Nat.le_of_ble_eq_true rfl, Nat.le_of_ble_eq_true rfl⟩ ⟨Nat.le_of_ble_eq_true rfl, Nat.le_of_ble_eq_true rfl⟩ (c1 := 90) (s1 := 834) rfl rfl dL_refusesAny_142 (fun rv ws H locs hP Z => ?_)
  obtain ⟨rfl, hw⟩ := hP
  refine W.eq (g2 := F0 m 145 ls [.int (-11)]) rfl ?_
  refine lv_bipush (v := (-11)) X.x X.b dL_refusesAny_145 kb_m11 ?_
  refine lv_icmp_ne (tgt := 238) X.x X.b dL_refusesAny_147 (by decide) (fun h => absurd h (by decide)) (fun _ => ?_)
  refine lv_aload_n X.x X.b dL_refusesAny_150 rfl (lv_at hl 2 rfl) ?_
  refine lv_iconst (v := 1) X.x X.b dL_refusesAny_151 ki_1 ?_
  refine lv_iconst (v := 0) X.x X.b dL_refusesAny_152 ki_0 ?_
  refine lv_iconst (v := 4) X.x X.b dL_refusesAny_153 ki_4 ?_
  refine lv_iload_n X.x X.b dL_refusesAny_154 rfl (lv_at hl 3 rfl) ?_
  refine lv_if_ne (tgt := 162) X.x X.b dL_refusesAny_155 (by decide) (fun h => absurd h (by decide)) (fun _ => ?_)
  refine lv_iconst (v := 3) X.x X.b dL_refusesAny_158 ki_3 ?_
  refine lv_goto (tgt := 164) X.x X.b dL_refusesAny_159 (by decide) ?_
  refine o_statX (wr := []) Y Z hl (M_told l hT Δ 1 0 4 3 (rf_6 b hs) a ws hw) wd_349 wd_350 wd_18 wd_351 ok_L_told rfl (rest := []) rfl (Nat.le_of_ble_eq_true rfl) ⟨Nat.le_of_ble_eq_true rfl, Nat.le_of_ble_eq_true rfl⟩ ⟨Nat.le_of_ble_eq_true rfl, Nat.le_of_ble_eq_true rfl⟩ (c1 := 105) (s1 := 973) rfl rfl dL_refusesAny_164 (fun rv ws H locs hP Z => ?_)
  obtain ⟨rfl, hw⟩ := hP
  refine W.eq (g2 := F0 m 167 ls [.int (-11)]) rfl ?_
  refine lv_bipush (v := (-11)) X.x X.b dL_refusesAny_167 kb_m11 ?_
  refine lv_icmp_ne (tgt := 238) X.x X.b dL_refusesAny_169 (by decide) (fun h => absurd h (by decide)) (fun _ => ?_)
  refine lv_aload_n X.x X.b dL_refusesAny_172 rfl (lv_at hl 2 rfl) ?_
  refine lv_iconst (v := 3) X.x X.b dL_refusesAny_173 ki_3 ?_
  refine lv_iload_n X.x X.b dL_refusesAny_174 rfl (lv_at hl 3 rfl) ?_
  refine lv_if_ne (tgt := 182) X.x X.b dL_refusesAny_175 (by decide) (fun h => absurd h (by decide)) (fun _ => ?_)
  refine lv_iconst (v := (-1)) X.x X.b dL_refusesAny_178 ki_m1 ?_
  refine lv_goto (tgt := 183) X.x X.b dL_refusesAny_179 (by decide) ?_
  refine lv_bipush (v := 99) X.x X.b dL_refusesAny_183 kb_99 ?_
  refine lv_iconst (v := 0) X.x X.b dL_refusesAny_185 ki_0 ?_
  refine o_statX (wr := []) Y Z hl (M_told l hT Δ 3 (-1) 99 0 (rf_7 b) a ws hw) wd_349 wd_350 wd_18 wd_351 ok_L_told rfl (rest := []) rfl (Nat.le_of_ble_eq_true rfl) ⟨Nat.le_of_ble_eq_true rfl, Nat.le_of_ble_eq_true rfl⟩ ⟨Nat.le_of_ble_eq_true rfl, Nat.le_of_ble_eq_true rfl⟩ (c1 := 120) (s1 := 1112) rfl rfl dL_refusesAny_186 (fun rv ws H locs hP Z => ?_)
  obtain ⟨rfl, hw⟩ := hP
  refine W.eq (g2 := F0 m 189 ls [.int (-13)]) rfl ?_
  refine lv_bipush (v := (-13)) X.x X.b dL_refusesAny_189 kb_m13 ?_
  refine lv_icmp_ne (tgt := 238) X.x X.b dL_refusesAny_191 (by decide) (fun h => absurd h (by decide)) (fun _ => ?_)
  refine lv_aload_n X.x X.b dL_refusesAny_194 rfl (lv_at hl 2 rfl) ?_
  refine lv_iconst (v := 3) X.x X.b dL_refusesAny_195 ki_3 ?_
  refine lv_iconst (v := 0) X.x X.b dL_refusesAny_196 ki_0 ?_
  refine lv_iload_n X.x X.b dL_refusesAny_197 rfl (lv_at hl 3 rfl) ?_
  refine lv_if_ne (tgt := 205) X.x X.b dL_refusesAny_198 (by decide) (fun h => absurd h (by decide)) (fun _ => ?_)
  refine lv_iconst (v := (-1)) X.x X.b dL_refusesAny_201 ki_m1 ?_
  refine lv_goto (tgt := 207) X.x X.b dL_refusesAny_202 (by decide) ?_
  refine lv_iconst (v := 0) X.x X.b dL_refusesAny_207 ki_0 ?_
  refine o_statX (wr := []) Y Z hl (M_told l hT Δ 3 0 (-1) 0 (rf_8 b) a ws hw) wd_349 wd_350 wd_18 wd_351 ok_L_told rfl (rest := []) rfl (Nat.le_of_ble_eq_true rfl) ⟨Nat.le_of_ble_eq_true rfl, Nat.le_of_ble_eq_true rfl⟩ ⟨Nat.le_of_ble_eq_true rfl, Nat.le_of_ble_eq_true rfl⟩ (c1 := 135) (s1 := 1251) rfl rfl dL_refusesAny_208 (fun rv ws H locs hP Z => ?_)
  obtain ⟨rfl, hw⟩ := hP
  refine W.eq (g2 := F0 m 211 ls [.int (-11)]) rfl ?_
  refine lv_bipush (v := (-11)) X.x X.b dL_refusesAny_211 kb_m11 ?_
  refine lv_icmp_ne (tgt := 238) X.x X.b dL_refusesAny_213 (by decide) (fun h => absurd h (by decide)) (fun _ => ?_)
  refine lv_aload_n X.x X.b dL_refusesAny_216 rfl (lv_at hl 2 rfl) ?_
  refine lv_iconst (v := 3) X.x X.b dL_refusesAny_217 ki_3 ?_
  refine lv_iconst (v := 1) X.x X.b dL_refusesAny_218 ki_1 ?_
  refine lv_iload_n X.x X.b dL_refusesAny_219 rfl (lv_at hl 3 rfl) ?_
  refine lv_if_ne (tgt := 227) X.x X.b dL_refusesAny_220 (by decide) (fun h => absurd h (by decide)) (fun _ => ?_)
  refine lv_iconst (v := 0) X.x X.b dL_refusesAny_223 ki_0 ?_
  refine lv_goto (tgt := 229) X.x X.b dL_refusesAny_224 (by decide) ?_
  refine lv_iconst (v := 0) X.x X.b dL_refusesAny_229 ki_0 ?_
  refine o_statX (wr := []) Y Z hl (M_told l hT Δ 3 1 0 0 (rf_9 b) a ws hw) wd_349 wd_350 wd_18 wd_351 ok_L_told rfl (rest := []) rfl (Nat.le_of_ble_eq_true rfl) ⟨Nat.le_of_ble_eq_true rfl, Nat.le_of_ble_eq_true rfl⟩ ⟨Nat.le_of_ble_eq_true rfl, Nat.le_of_ble_eq_true rfl⟩ (c1 := 150) (s1 := 1390) rfl rfl dL_refusesAny_230 (fun rv ws H locs hP Z => ?_)
  obtain ⟨rfl, hw⟩ := hP
  refine W.eq (g2 := F0 m 233 ls [.int (-11)]) rfl ?_
  refine lv_bipush (v := (-11)) X.x X.b dL_refusesAny_233 kb_m11 ?_
  refine lv_icmp_eq (tgt := 240) X.x X.b dL_refusesAny_235 (by decide) (fun _ => ?_) (fun h => absurd h (by decide))
  refine lv_aload_n X.x X.b dL_refusesAny_240 rfl (lv_at hl 2 rfl) ?_
  refine lv_iconst (v := 4) X.x X.b dL_refusesAny_241 ki_4 ?_
  refine lv_iload_n X.x X.b dL_refusesAny_242 rfl (lv_at hl 0 rfl) ?_
  refine lv_iconst (v := 0) X.x X.b dL_refusesAny_243 ki_0 ?_
  refine lv_iconst (v := 0) X.x X.b dL_refusesAny_244 ki_0 ?_
  refine o_statX (wr := []) Y Z hl (M_told l hT Δ 4 (-1) 0 0 (rf_10 b) a ws hw) wd_349 wd_350 wd_18 wd_351 ok_L_told rfl (rest := []) rfl (Nat.le_of_ble_eq_true rfl) ⟨Nat.le_of_ble_eq_true rfl, Nat.le_of_ble_eq_true rfl⟩ ⟨Nat.le_of_ble_eq_true rfl, Nat.le_of_ble_eq_true rfl⟩ (c1 := 165) (s1 := 1529) rfl rfl dL_refusesAny_245 (fun rv ws H locs hP Z => ?_)
  obtain ⟨rfl, hw⟩ := hP
  refine W.eq (g2 := F0 m 248 ls [.int (-13)]) rfl ?_
  refine lv_bipush (v := (-13)) X.x X.b dL_refusesAny_248 kb_m13 ?_
  refine lv_icmp_ne (tgt := 458) X.x X.b dL_refusesAny_250 (by decide) (fun h => absurd h (by decide)) (fun _ => ?_)
  refine lv_aload_n X.x X.b dL_refusesAny_253 rfl (lv_at hl 2 rfl) ?_
  refine lv_iconst (v := 4) X.x X.b dL_refusesAny_254 ki_4 ?_
  refine lv_iconst (v := 0) X.x X.b dL_refusesAny_255 ki_0 ?_
  refine lv_iload_n X.x X.b dL_refusesAny_256 rfl (lv_at hl 1 rfl) ?_
  refine lv_iconst (v := 0) X.x X.b dL_refusesAny_257 ki_0 ?_
  refine o_statX (wr := []) Y Z hl (M_told l hT Δ 4 0 (-1) 0 (rf_11 b) a ws hw) wd_349 wd_350 wd_18 wd_351 ok_L_told rfl (rest := []) rfl (Nat.le_of_ble_eq_true rfl) ⟨Nat.le_of_ble_eq_true rfl, Nat.le_of_ble_eq_true rfl⟩ ⟨Nat.le_of_ble_eq_true rfl, Nat.le_of_ble_eq_true rfl⟩ (c1 := 180) (s1 := 1668) rfl rfl dL_refusesAny_258 (fun rv ws H locs hP Z => ?_)
  obtain ⟨rfl, hw⟩ := hP
  refine W.eq (g2 := F0 m 261 ls [.int (-13)]) rfl ?_
  refine lv_bipush (v := (-13)) X.x X.b dL_refusesAny_261 kb_m13 ?_
  refine lv_icmp_ne (tgt := 458) X.x X.b dL_refusesAny_263 (by decide) (fun h => absurd h (by decide)) (fun _ => ?_)
  refine lv_aload_n X.x X.b dL_refusesAny_266 rfl (lv_at hl 2 rfl) ?_
  refine lv_iconst (v := 5) X.x X.b dL_refusesAny_267 ki_5 ?_
  refine lv_iload_n X.x X.b dL_refusesAny_268 rfl (lv_at hl 1 rfl) ?_
  refine lv_bipush (v := 99) X.x X.b dL_refusesAny_269 kb_99 ?_
  refine lv_iconst (v := 0) X.x X.b dL_refusesAny_271 ki_0 ?_
  refine o_statX (wr := []) Y Z hl (M_told l hT Δ 5 (-1) 99 0 (rf_12 b) a ws hw) wd_349 wd_350 wd_18 wd_351 ok_L_told rfl (rest := []) rfl (Nat.le_of_ble_eq_true rfl) ⟨Nat.le_of_ble_eq_true rfl, Nat.le_of_ble_eq_true rfl⟩ ⟨Nat.le_of_ble_eq_true rfl, Nat.le_of_ble_eq_true rfl⟩ (c1 := 195) (s1 := 1807) rfl rfl dL_refusesAny_272 (fun rv ws H locs hP Z => ?_)
  obtain ⟨rfl, hw⟩ := hP
  refine W.eq (g2 := F0 m 275 ls [.int (-13)]) rfl ?_
  refine lv_bipush (v := (-13)) X.x X.b dL_refusesAny_275 kb_m13 ?_
  refine lv_icmp_ne (tgt := 458) X.x X.b dL_refusesAny_277 (by decide) (fun h => absurd h (by decide)) (fun _ => ?_)
  refine lv_aload_n X.x X.b dL_refusesAny_280 rfl (lv_at hl 2 rfl) ?_
  refine lv_iconst (v := 5) X.x X.b dL_refusesAny_281 ki_5 ?_
  refine lv_iconst (v := 0) X.x X.b dL_refusesAny_282 ki_0 ?_
  refine lv_iload_n X.x X.b dL_refusesAny_283 rfl (lv_at hl 3 rfl) ?_
  refine lv_if_ne (tgt := 291) X.x X.b dL_refusesAny_284 (by decide) (fun h => absurd h (by decide)) (fun _ => ?_)
  refine lv_iconst (v := (-1)) X.x X.b dL_refusesAny_287 ki_m1 ?_
  refine lv_goto (tgt := 293) X.x X.b dL_refusesAny_288 (by decide) ?_
  refine lv_iconst (v := 0) X.x X.b dL_refusesAny_293 ki_0 ?_
  refine o_statX (wr := []) Y Z hl (M_told l hT Δ 5 0 (-1) 0 (rf_13 b hs) a ws hw) wd_349 wd_350 wd_18 wd_351 ok_L_told rfl (rest := []) rfl (Nat.le_of_ble_eq_true rfl) ⟨Nat.le_of_ble_eq_true rfl, Nat.le_of_ble_eq_true rfl⟩ ⟨Nat.le_of_ble_eq_true rfl, Nat.le_of_ble_eq_true rfl⟩ (c1 := 210) (s1 := 1946) rfl rfl dL_refusesAny_294 (fun rv ws H locs hP Z => ?_)
  obtain ⟨rfl, hw⟩ := hP
  refine W.eq (g2 := F0 m 297 ls [.int (-11)]) rfl ?_
  refine lv_bipush (v := (-11)) X.x X.b dL_refusesAny_297 kb_m11 ?_
  refine lv_icmp_ne (tgt := 458) X.x X.b dL_refusesAny_299 (by decide) (fun h => absurd h (by decide)) (fun _ => ?_)
  refine lv_aload_n X.x X.b dL_refusesAny_302 rfl (lv_at hl 2 rfl) ?_
  refine lv_bipush (v := 6) X.x X.b dL_refusesAny_303 kb_6 ?_
  refine lv_iload_n X.x X.b dL_refusesAny_305 rfl (lv_at hl 0 rfl) ?_
  refine lv_iconst (v := 0) X.x X.b dL_refusesAny_306 ki_0 ?_
  refine lv_iconst (v := 0) X.x X.b dL_refusesAny_307 ki_0 ?_
  refine o_statX (wr := []) Y Z hl (M_told l hT Δ 6 (-1) 0 0 (rf_14 b) a ws hw) wd_349 wd_350 wd_18 wd_351 ok_L_told rfl (rest := []) rfl (Nat.le_of_ble_eq_true rfl) ⟨Nat.le_of_ble_eq_true rfl, Nat.le_of_ble_eq_true rfl⟩ ⟨Nat.le_of_ble_eq_true rfl, Nat.le_of_ble_eq_true rfl⟩ (c1 := 225) (s1 := 2085) rfl rfl dL_refusesAny_308 (fun rv ws H locs hP Z => ?_)
  obtain ⟨rfl, hw⟩ := hP
  refine W.eq (g2 := F0 m 311 ls [.int (-13)]) rfl ?_
  refine lv_bipush (v := (-13)) X.x X.b dL_refusesAny_311 kb_m13 ?_
  refine lv_icmp_ne (tgt := 458) X.x X.b dL_refusesAny_313 (by decide) (fun h => absurd h (by decide)) (fun _ => ?_)
  refine lv_aload_n X.x X.b dL_refusesAny_316 rfl (lv_at hl 2 rfl) ?_
  refine lv_bipush (v := 7) X.x X.b dL_refusesAny_317 kb_7 ?_
  refine lv_iload_n X.x X.b dL_refusesAny_319 rfl (lv_at hl 0 rfl) ?_
  refine lv_iconst (v := 0) X.x X.b dL_refusesAny_320 ki_0 ?_
  refine lv_iconst (v := 0) X.x X.b dL_refusesAny_321 ki_0 ?_
  refine o_statX (wr := []) Y Z hl (M_told l hT Δ 7 (-1) 0 0 (rf_15 b) a ws hw) wd_349 wd_350 wd_18 wd_351 ok_L_told rfl (rest := []) rfl (Nat.le_of_ble_eq_true rfl) ⟨Nat.le_of_ble_eq_true rfl, Nat.le_of_ble_eq_true rfl⟩ ⟨Nat.le_of_ble_eq_true rfl, Nat.le_of_ble_eq_true rfl⟩ (c1 := 240) (s1 := 2224) rfl rfl dL_refusesAny_322 (fun rv ws H locs hP Z => ?_)
  obtain ⟨rfl, hw⟩ := hP
  refine W.eq (g2 := F0 m 325 ls [.int (-13)]) rfl ?_
  refine lv_bipush (v := (-13)) X.x X.b dL_refusesAny_325 kb_m13 ?_
  refine lv_icmp_ne (tgt := 458) X.x X.b dL_refusesAny_327 (by decide) (fun h => absurd h (by decide)) (fun _ => ?_)
  refine lv_aload_n X.x X.b dL_refusesAny_330 rfl (lv_at hl 2 rfl) ?_
  refine lv_bipush (v := 8) X.x X.b dL_refusesAny_331 kb_8 ?_
  refine lv_iload_n X.x X.b dL_refusesAny_333 rfl (lv_at hl 3 rfl) ?_
  refine lv_if_ne (tgt := 342) X.x X.b dL_refusesAny_334 (by decide) (fun h => absurd h (by decide)) (fun _ => ?_)
  refine lv_bipush (v := 32) X.x X.b dL_refusesAny_337 kb_32 ?_
  refine lv_goto (tgt := 344) X.x X.b dL_refusesAny_339 (by decide) ?_
  refine lv_iconst (v := 0) X.x X.b dL_refusesAny_344 ki_0 ?_
  refine lv_iconst (v := 0) X.x X.b dL_refusesAny_345 ki_0 ?_
  refine o_statX (wr := []) Y Z hl (M_told l hT Δ 8 32 0 0 (rf_16 b) a ws hw) wd_349 wd_350 wd_18 wd_351 ok_L_told rfl (rest := []) rfl (Nat.le_of_ble_eq_true rfl) ⟨Nat.le_of_ble_eq_true rfl, Nat.le_of_ble_eq_true rfl⟩ ⟨Nat.le_of_ble_eq_true rfl, Nat.le_of_ble_eq_true rfl⟩ (c1 := 255) (s1 := 2363) rfl rfl dL_refusesAny_346 (fun rv ws H locs hP Z => ?_)
  obtain ⟨rfl, hw⟩ := hP
  refine W.eq (g2 := F0 m 349 ls [.int (-11)]) rfl ?_
  refine lv_bipush (v := (-11)) X.x X.b dL_refusesAny_349 kb_m11 ?_
  refine lv_icmp_ne (tgt := 458) X.x X.b dL_refusesAny_351 (by decide) (fun h => absurd h (by decide)) (fun _ => ?_)
  refine lv_aload_n X.x X.b dL_refusesAny_354 rfl (lv_at hl 2 rfl) ?_
  refine lv_bipush (v := 11) X.x X.b dL_refusesAny_355 kb_11 ?_
  refine lv_iload_n X.x X.b dL_refusesAny_357 rfl (lv_at hl 1 rfl) ?_
  refine lv_bipush (v := 9) X.x X.b dL_refusesAny_358 kb_9 ?_
  refine lv_iconst (v := 0) X.x X.b dL_refusesAny_360 ki_0 ?_
  refine o_statX (wr := []) Y Z hl (M_told l hT Δ 11 (-1) 9 0 (rf_17 b) a ws hw) wd_349 wd_350 wd_18 wd_351 ok_L_told rfl (rest := []) rfl (Nat.le_of_ble_eq_true rfl) ⟨Nat.le_of_ble_eq_true rfl, Nat.le_of_ble_eq_true rfl⟩ ⟨Nat.le_of_ble_eq_true rfl, Nat.le_of_ble_eq_true rfl⟩ (c1 := 270) (s1 := 2502) rfl rfl dL_refusesAny_361 (fun rv ws H locs hP Z => ?_)
  obtain ⟨rfl, hw⟩ := hP
  refine W.eq (g2 := F0 m 364 ls [.int (-13)]) rfl ?_
  refine lv_bipush (v := (-13)) X.x X.b dL_refusesAny_364 kb_m13 ?_
  refine lv_icmp_ne (tgt := 458) X.x X.b dL_refusesAny_366 (by decide) (fun h => absurd h (by decide)) (fun _ => ?_)
  refine lv_aload_n X.x X.b dL_refusesAny_369 rfl (lv_at hl 2 rfl) ?_
  refine lv_bipush (v := 11) X.x X.b dL_refusesAny_370 kb_11 ?_
  refine lv_iconst (v := 0) X.x X.b dL_refusesAny_372 ki_0 ?_
  refine lv_iload_n X.x X.b dL_refusesAny_373 rfl (lv_at hl 3 rfl) ?_
  refine lv_if_ne (tgt := 381) X.x X.b dL_refusesAny_374 (by decide) (fun h => absurd h (by decide)) (fun _ => ?_)
  refine lv_iconst (v := (-1)) X.x X.b dL_refusesAny_377 ki_m1 ?_
  refine lv_goto (tgt := 383) X.x X.b dL_refusesAny_378 (by decide) ?_
  refine lv_iconst (v := 0) X.x X.b dL_refusesAny_383 ki_0 ?_
  refine o_statX (wr := []) Y Z hl (M_told l hT Δ 11 0 (-1) 0 (rf_18 b hs) a ws hw) wd_349 wd_350 wd_18 wd_351 ok_L_told rfl (rest := []) rfl (Nat.le_of_ble_eq_true rfl) ⟨Nat.le_of_ble_eq_true rfl, Nat.le_of_ble_eq_true rfl⟩ ⟨Nat.le_of_ble_eq_true rfl, Nat.le_of_ble_eq_true rfl⟩ (c1 := 285) (s1 := 2641) rfl rfl dL_refusesAny_384 (fun rv ws H locs hP Z => ?_)
  obtain ⟨rfl, hw⟩ := hP
  refine W.eq (g2 := F0 m 387 ls [.int (-11)]) rfl ?_
  refine lv_bipush (v := (-11)) X.x X.b dL_refusesAny_387 kb_m11 ?_
  refine lv_icmp_ne (tgt := 458) X.x X.b dL_refusesAny_389 (by decide) (fun h => absurd h (by decide)) (fun _ => ?_)
  refine lv_aload_n X.x X.b dL_refusesAny_392 rfl (lv_at hl 2 rfl) ?_
  refine lv_bipush (v := 12) X.x X.b dL_refusesAny_393 kb_12 ?_
  refine lv_iload_n X.x X.b dL_refusesAny_395 rfl (lv_at hl 0 rfl) ?_
  refine lv_iconst (v := 0) X.x X.b dL_refusesAny_396 ki_0 ?_
  refine lv_iconst (v := 0) X.x X.b dL_refusesAny_397 ki_0 ?_
  refine o_statX (wr := []) Y Z hl (M_told l hT Δ 12 (-1) 0 0 (rf_19 b) a ws hw) wd_349 wd_350 wd_18 wd_351 ok_L_told rfl (rest := []) rfl (Nat.le_of_ble_eq_true rfl) ⟨Nat.le_of_ble_eq_true rfl, Nat.le_of_ble_eq_true rfl⟩ ⟨Nat.le_of_ble_eq_true rfl, Nat.le_of_ble_eq_true rfl⟩ (c1 := 300) (s1 := 2780) rfl rfl dL_refusesAny_398 (fun rv ws H locs hP Z => ?_)
  obtain ⟨rfl, hw⟩ := hP
  refine W.eq (g2 := F0 m 401 ls [.int (-13)]) rfl ?_
  refine lv_bipush (v := (-13)) X.x X.b dL_refusesAny_401 kb_m13 ?_
  refine lv_icmp_ne (tgt := 458) X.x X.b dL_refusesAny_403 (by decide) (fun h => absurd h (by decide)) (fun _ => ?_)
  refine lv_aload_n X.x X.b dL_refusesAny_406 rfl (lv_at hl 2 rfl) ?_
  refine lv_bipush (v := 12) X.x X.b dL_refusesAny_407 kb_12 ?_
  refine lv_iconst (v := 0) X.x X.b dL_refusesAny_409 ki_0 ?_
  refine lv_iload_n X.x X.b dL_refusesAny_410 rfl (lv_at hl 1 rfl) ?_
  refine lv_iconst (v := 0) X.x X.b dL_refusesAny_411 ki_0 ?_
  refine o_statX (wr := []) Y Z hl (M_told l hT Δ 12 0 (-1) 0 (rf_20 b) a ws hw) wd_349 wd_350 wd_18 wd_351 ok_L_told rfl (rest := []) rfl (Nat.le_of_ble_eq_true rfl) ⟨Nat.le_of_ble_eq_true rfl, Nat.le_of_ble_eq_true rfl⟩ ⟨Nat.le_of_ble_eq_true rfl, Nat.le_of_ble_eq_true rfl⟩ (c1 := 315) (s1 := 2919) rfl rfl dL_refusesAny_412 (fun rv ws H locs hP Z => ?_)
  obtain ⟨rfl, hw⟩ := hP
  refine W.eq (g2 := F0 m 415 ls [.int (-13)]) rfl ?_
  refine lv_bipush (v := (-13)) X.x X.b dL_refusesAny_415 kb_m13 ?_
  refine lv_icmp_ne (tgt := 458) X.x X.b dL_refusesAny_417 (by decide) (fun h => absurd h (by decide)) (fun _ => ?_)
  refine lv_aload_n X.x X.b dL_refusesAny_420 rfl (lv_at hl 2 rfl) ?_
  refine lv_bipush (v := 13) X.x X.b dL_refusesAny_421 kb_13 ?_
  refine lv_iload_n X.x X.b dL_refusesAny_423 rfl (lv_at hl 0 rfl) ?_
  refine lv_bipush (v := 9) X.x X.b dL_refusesAny_424 kb_9 ?_
  refine lv_iconst (v := 0) X.x X.b dL_refusesAny_426 ki_0 ?_
  refine o_statX (wr := []) Y Z hl (M_told l hT Δ 13 (-1) 9 0 (rf_21 b) a ws hw) wd_349 wd_350 wd_18 wd_351 ok_L_told rfl (rest := []) rfl (Nat.le_of_ble_eq_true rfl) ⟨Nat.le_of_ble_eq_true rfl, Nat.le_of_ble_eq_true rfl⟩ ⟨Nat.le_of_ble_eq_true rfl, Nat.le_of_ble_eq_true rfl⟩ (c1 := 330) (s1 := 3058) rfl rfl dL_refusesAny_427 (fun rv ws H locs hP Z => ?_)
  obtain ⟨rfl, hw⟩ := hP
  refine W.eq (g2 := F0 m 430 ls [.int (-13)]) rfl ?_
  refine lv_bipush (v := (-13)) X.x X.b dL_refusesAny_430 kb_m13 ?_
  refine lv_icmp_ne (tgt := 458) X.x X.b dL_refusesAny_432 (by decide) (fun h => absurd h (by decide)) (fun _ => ?_)
  refine lv_aload_n X.x X.b dL_refusesAny_435 rfl (lv_at hl 2 rfl) ?_
  refine lv_bipush (v := 13) X.x X.b dL_refusesAny_436 kb_13 ?_
  refine lv_iconst (v := 0) X.x X.b dL_refusesAny_438 ki_0 ?_
  refine lv_iload_n X.x X.b dL_refusesAny_439 rfl (lv_at hl 3 rfl) ?_
  refine lv_if_ne (tgt := 447) X.x X.b dL_refusesAny_440 (by decide) (fun h => absurd h (by decide)) (fun _ => ?_)
  refine lv_iconst (v := (-1)) X.x X.b dL_refusesAny_443 ki_m1 ?_
  refine lv_goto (tgt := 449) X.x X.b dL_refusesAny_444 (by decide) ?_
  refine lv_iconst (v := 0) X.x X.b dL_refusesAny_449 ki_0 ?_
  refine o_statX (wr := []) Y Z hl (M_told l hT Δ 13 0 (-1) 0 (rf_22 b) a ws hw) wd_349 wd_350 wd_18 wd_351 ok_L_told rfl (rest := []) rfl (Nat.le_of_ble_eq_true rfl) ⟨Nat.le_of_ble_eq_true rfl, Nat.le_of_ble_eq_true rfl⟩ ⟨Nat.le_of_ble_eq_true rfl, Nat.le_of_ble_eq_true rfl⟩ (c1 := 345) (s1 := 3197) rfl rfl dL_refusesAny_450 (fun rv ws H locs hP Z => ?_)
  obtain ⟨rfl, hw⟩ := hP
  refine W.eq (g2 := F0 m 453 ls [.int (-11)]) rfl ?_
  refine lv_bipush (v := (-11)) X.x X.b dL_refusesAny_453 kb_m11 ?_
  refine lv_icmp_eq (tgt := 460) X.x X.b dL_refusesAny_455 (by decide) (fun _ => ?_) (fun h => absurd h (by decide))
  refine lv_aload_n X.x X.b dL_refusesAny_460 rfl (lv_at hl 2 rfl) ?_
  refine lv_bipush (v := 14) X.x X.b dL_refusesAny_461 kb_14 ?_
  refine lv_iload_n X.x X.b dL_refusesAny_463 rfl (lv_at hl 0 rfl) ?_
  refine lv_bipush (v := 9) X.x X.b dL_refusesAny_464 kb_9 ?_
  refine lv_iconst (v := 0) X.x X.b dL_refusesAny_466 ki_0 ?_
  refine o_statX (wr := []) Y Z hl (M_told l hT Δ 14 (-1) 9 0 (rf_23 b) a ws hw) wd_349 wd_350 wd_18 wd_351 ok_L_told rfl (rest := []) rfl (Nat.le_of_ble_eq_true rfl) ⟨Nat.le_of_ble_eq_true rfl, Nat.le_of_ble_eq_true rfl⟩ ⟨Nat.le_of_ble_eq_true rfl, Nat.le_of_ble_eq_true rfl⟩ (c1 := 360) (s1 := 3336) rfl rfl dL_refusesAny_467 (fun rv ws H locs hP Z => ?_)
  obtain ⟨rfl, hw⟩ := hP
  refine W.eq (g2 := F0 m 470 ls [.int (-13)]) rfl ?_
  refine lv_bipush (v := (-13)) X.x X.b dL_refusesAny_470 kb_m13 ?_
  refine lv_icmp_ne (tgt := 626) X.x X.b dL_refusesAny_472 (by decide) (fun h => absurd h (by decide)) (fun _ => ?_)
  refine lv_aload_n X.x X.b dL_refusesAny_475 rfl (lv_at hl 2 rfl) ?_
  refine lv_bipush (v := 14) X.x X.b dL_refusesAny_476 kb_14 ?_
  refine lv_iconst (v := 5) X.x X.b dL_refusesAny_478 ki_5 ?_
  refine lv_iload_n X.x X.b dL_refusesAny_479 rfl (lv_at hl 3 rfl) ?_
  refine lv_if_ne (tgt := 487) X.x X.b dL_refusesAny_480 (by decide) (fun h => absurd h (by decide)) (fun _ => ?_)
  refine lv_iconst (v := (-1)) X.x X.b dL_refusesAny_483 ki_m1 ?_
  refine lv_goto (tgt := 488) X.x X.b dL_refusesAny_484 (by decide) ?_
  refine lv_iconst (v := 0) X.x X.b dL_refusesAny_488 ki_0 ?_
  refine o_statX (wr := []) Y Z hl (M_told l hT Δ 14 5 (-1) 0 (rf_24 b) a ws hw) wd_349 wd_350 wd_18 wd_351 ok_L_told rfl (rest := []) rfl (Nat.le_of_ble_eq_true rfl) ⟨Nat.le_of_ble_eq_true rfl, Nat.le_of_ble_eq_true rfl⟩ ⟨Nat.le_of_ble_eq_true rfl, Nat.le_of_ble_eq_true rfl⟩ (c1 := 375) (s1 := 3475) rfl rfl dL_refusesAny_489 (fun rv ws H locs hP Z => ?_)
  obtain ⟨rfl, hw⟩ := hP
  refine W.eq (g2 := F0 m 492 ls [.int (-11)]) rfl ?_
  refine lv_bipush (v := (-11)) X.x X.b dL_refusesAny_492 kb_m11 ?_
  refine lv_icmp_ne (tgt := 626) X.x X.b dL_refusesAny_494 (by decide) (fun h => absurd h (by decide)) (fun _ => ?_)
  refine lv_aload_n X.x X.b dL_refusesAny_497 rfl (lv_at hl 2 rfl) ?_
  refine lv_bipush (v := 15) X.x X.b dL_refusesAny_498 kb_15 ?_
  refine lv_iload_n X.x X.b dL_refusesAny_500 rfl (lv_at hl 3 rfl) ?_
  refine lv_if_ne (tgt := 508) X.x X.b dL_refusesAny_501 (by decide) (fun h => absurd h (by decide)) (fun _ => ?_)
  refine lv_iconst (v := (-1)) X.x X.b dL_refusesAny_504 ki_m1 ?_
  refine lv_goto (tgt := 510) X.x X.b dL_refusesAny_505 (by decide) ?_
  refine lv_iconst (v := 0) X.x X.b dL_refusesAny_510 ki_0 ?_
  refine lv_iconst (v := 0) X.x X.b dL_refusesAny_511 ki_0 ?_
  refine o_statX (wr := []) Y Z hl (M_told l hT Δ 15 (-1) 0 0 (rf_25 b) a ws hw) wd_349 wd_350 wd_18 wd_351 ok_L_told rfl (rest := []) rfl (Nat.le_of_ble_eq_true rfl) ⟨Nat.le_of_ble_eq_true rfl, Nat.le_of_ble_eq_true rfl⟩ ⟨Nat.le_of_ble_eq_true rfl, Nat.le_of_ble_eq_true rfl⟩ (c1 := 390) (s1 := 3614) rfl rfl dL_refusesAny_512 (fun rv ws H locs hP Z => ?_)
  obtain ⟨rfl, hw⟩ := hP
  refine W.eq (g2 := F0 m 515 ls [.int (-11)]) rfl ?_
  refine lv_bipush (v := (-11)) X.x X.b dL_refusesAny_515 kb_m11 ?_
  refine lv_icmp_ne (tgt := 626) X.x X.b dL_refusesAny_517 (by decide) (fun h => absurd h (by decide)) (fun _ => ?_)
  refine lv_aload_n X.x X.b dL_refusesAny_520 rfl (lv_at hl 2 rfl) ?_
  refine lv_bipush (v := 16) X.x X.b dL_refusesAny_521 kb_16 ?_
  refine lv_iload_n X.x X.b dL_refusesAny_523 rfl (lv_at hl 3 rfl) ?_
  refine lv_if_ne (tgt := 531) X.x X.b dL_refusesAny_524 (by decide) (fun h => absurd h (by decide)) (fun _ => ?_)
  refine lv_iconst (v := (-1)) X.x X.b dL_refusesAny_527 ki_m1 ?_
  refine lv_goto (tgt := 532) X.x X.b dL_refusesAny_528 (by decide) ?_
  refine lv_iconst (v := 0) X.x X.b dL_refusesAny_532 ki_0 ?_
  refine lv_iconst (v := 0) X.x X.b dL_refusesAny_533 ki_0 ?_
  refine o_statX (wr := []) Y Z hl (M_told l hT Δ 16 (-1) 0 0 (rf_26 b) a ws hw) wd_349 wd_350 wd_18 wd_351 ok_L_told rfl (rest := []) rfl (Nat.le_of_ble_eq_true rfl) ⟨Nat.le_of_ble_eq_true rfl, Nat.le_of_ble_eq_true rfl⟩ ⟨Nat.le_of_ble_eq_true rfl, Nat.le_of_ble_eq_true rfl⟩ (c1 := 405) (s1 := 3753) rfl rfl dL_refusesAny_534 (fun rv ws H locs hP Z => ?_)
  obtain ⟨rfl, hw⟩ := hP
  refine W.eq (g2 := F0 m 537 ls [.int (-13)]) rfl ?_
  refine lv_bipush (v := (-13)) X.x X.b dL_refusesAny_537 kb_m13 ?_
  refine lv_icmp_ne (tgt := 626) X.x X.b dL_refusesAny_539 (by decide) (fun h => absurd h (by decide)) (fun _ => ?_)
  refine lv_aload_n X.x X.b dL_refusesAny_542 rfl (lv_at hl 2 rfl) ?_
  refine lv_bipush (v := 17) X.x X.b dL_refusesAny_543 kb_17 ?_
  refine lv_iload_n X.x X.b dL_refusesAny_545 rfl (lv_at hl 0 rfl) ?_
  refine lv_iconst (v := 0) X.x X.b dL_refusesAny_546 ki_0 ?_
  refine lv_bipush (v := 9) X.x X.b dL_refusesAny_547 kb_9 ?_
  refine o_statX (wr := []) Y Z hl (M_told l hT Δ 17 (-1) 0 9 (rf_27 b) a ws hw) wd_349 wd_350 wd_18 wd_351 ok_L_told rfl (rest := []) rfl (Nat.le_of_ble_eq_true rfl) ⟨Nat.le_of_ble_eq_true rfl, Nat.le_of_ble_eq_true rfl⟩ ⟨Nat.le_of_ble_eq_true rfl, Nat.le_of_ble_eq_true rfl⟩ (c1 := 420) (s1 := 3892) rfl rfl dL_refusesAny_549 (fun rv ws H locs hP Z => ?_)
  obtain ⟨rfl, hw⟩ := hP
  refine W.eq (g2 := F0 m 552 ls [.int (-13)]) rfl ?_
  refine lv_bipush (v := (-13)) X.x X.b dL_refusesAny_552 kb_m13 ?_
  refine lv_icmp_ne (tgt := 626) X.x X.b dL_refusesAny_554 (by decide) (fun h => absurd h (by decide)) (fun _ => ?_)
  refine lv_aload_n X.x X.b dL_refusesAny_557 rfl (lv_at hl 2 rfl) ?_
  refine lv_bipush (v := 17) X.x X.b dL_refusesAny_558 kb_17 ?_
  refine lv_iconst (v := 0) X.x X.b dL_refusesAny_560 ki_0 ?_
  refine lv_iload_n X.x X.b dL_refusesAny_561 rfl (lv_at hl 1 rfl) ?_
  refine lv_bipush (v := 9) X.x X.b dL_refusesAny_562 kb_9 ?_
  refine o_statX (wr := []) Y Z hl (M_told l hT Δ 17 0 (-1) 9 (rf_28 b) a ws hw) wd_349 wd_350 wd_18 wd_351 ok_L_told rfl (rest := []) rfl (Nat.le_of_ble_eq_true rfl) ⟨Nat.le_of_ble_eq_true rfl, Nat.le_of_ble_eq_true rfl⟩ ⟨Nat.le_of_ble_eq_true rfl, Nat.le_of_ble_eq_true rfl⟩ (c1 := 435) (s1 := 4031) rfl rfl dL_refusesAny_564 (fun rv ws H locs hP Z => ?_)
  obtain ⟨rfl, hw⟩ := hP
  refine W.eq (g2 := F0 m 567 ls [.int (-13)]) rfl ?_
  refine lv_bipush (v := (-13)) X.x X.b dL_refusesAny_567 kb_m13 ?_
  refine lv_icmp_ne (tgt := 626) X.x X.b dL_refusesAny_569 (by decide) (fun h => absurd h (by decide)) (fun _ => ?_)
  refine lv_aload_n X.x X.b dL_refusesAny_572 rfl (lv_at hl 2 rfl) ?_
  refine lv_bipush (v := 17) X.x X.b dL_refusesAny_573 kb_17 ?_
  refine lv_iconst (v := 0) X.x X.b dL_refusesAny_575 ki_0 ?_
  refine lv_iconst (v := 0) X.x X.b dL_refusesAny_576 ki_0 ?_
  refine lv_iload_n X.x X.b dL_refusesAny_577 rfl (lv_at hl 3 rfl) ?_
  refine lv_if_ne (tgt := 585) X.x X.b dL_refusesAny_578 (by decide) (fun h => absurd h (by decide)) (fun _ => ?_)
  refine lv_iconst (v := (-1)) X.x X.b dL_refusesAny_581 ki_m1 ?_
  refine lv_goto (tgt := 586) X.x X.b dL_refusesAny_582 (by decide) ?_
  refine o_statX (wr := []) Y Z hl (M_told l hT Δ 17 0 0 (-1) (rf_29 b hs) a ws hw) wd_349 wd_350 wd_18 wd_351 ok_L_told rfl (rest := []) rfl (Nat.le_of_ble_eq_true rfl) ⟨Nat.le_of_ble_eq_true rfl, Nat.le_of_ble_eq_true rfl⟩ ⟨Nat.le_of_ble_eq_true rfl, Nat.le_of_ble_eq_true rfl⟩ (c1 := 450) (s1 := 4170) rfl rfl dL_refusesAny_586 (fun rv ws H locs hP Z => ?_)
  obtain ⟨rfl, hw⟩ := hP
  refine W.eq (g2 := F0 m 589 ls [.int (-11)]) rfl ?_
  refine lv_bipush (v := (-11)) X.x X.b dL_refusesAny_589 kb_m11 ?_
  refine lv_icmp_ne (tgt := 626) X.x X.b dL_refusesAny_591 (by decide) (fun h => absurd h (by decide)) (fun _ => ?_)
  refine lv_aload_n X.x X.b dL_refusesAny_594 rfl (lv_at hl 2 rfl) ?_
  refine lv_bipush (v := 18) X.x X.b dL_refusesAny_595 kb_18 ?_
  refine lv_iload_n X.x X.b dL_refusesAny_597 rfl (lv_at hl 0 rfl) ?_
  refine lv_iconst (v := 0) X.x X.b dL_refusesAny_598 ki_0 ?_
  refine lv_iconst (v := 0) X.x X.b dL_refusesAny_599 ki_0 ?_
  refine o_statX (wr := []) Y Z hl (M_told l hT Δ 18 (-1) 0 0 (rf_30 b) a ws hw) wd_349 wd_350 wd_18 wd_351 ok_L_told rfl (rest := []) rfl (Nat.le_of_ble_eq_true rfl) ⟨Nat.le_of_ble_eq_true rfl, Nat.le_of_ble_eq_true rfl⟩ ⟨Nat.le_of_ble_eq_true rfl, Nat.le_of_ble_eq_true rfl⟩ (c1 := 465) (s1 := 4309) rfl rfl dL_refusesAny_600 (fun rv ws H locs hP Z => ?_)
  obtain ⟨rfl, hw⟩ := hP
  refine W.eq (g2 := F0 m 603 ls [.int (-13)]) rfl ?_
  refine lv_bipush (v := (-13)) X.x X.b dL_refusesAny_603 kb_m13 ?_
  refine lv_icmp_ne (tgt := 626) X.x X.b dL_refusesAny_605 (by decide) (fun h => absurd h (by decide)) (fun _ => ?_)
  refine lv_aload_n X.x X.b dL_refusesAny_608 rfl (lv_at hl 2 rfl) ?_
  refine lv_bipush (v := 19) X.x X.b dL_refusesAny_609 kb_19 ?_
  refine lv_iload_n X.x X.b dL_refusesAny_611 rfl (lv_at hl 0 rfl) ?_
  refine lv_iconst (v := 0) X.x X.b dL_refusesAny_612 ki_0 ?_
  refine lv_iconst (v := 0) X.x X.b dL_refusesAny_613 ki_0 ?_
  refine o_statX (wr := []) Y Z hl (M_told l hT Δ 19 (-1) 0 0 (rf_31 b) a ws hw) wd_349 wd_350 wd_18 wd_351 ok_L_told rfl (rest := []) rfl (Nat.le_of_ble_eq_true rfl) ⟨Nat.le_of_ble_eq_true rfl, Nat.le_of_ble_eq_true rfl⟩ ⟨Nat.le_of_ble_eq_true rfl, Nat.le_of_ble_eq_true rfl⟩ (c1 := 480) (s1 := 4448) rfl rfl dL_refusesAny_614 (fun rv ws H locs hP Z => ?_)
  obtain ⟨rfl, hw⟩ := hP
  refine W.eq (g2 := F0 m 617 ls [.int (-13)]) rfl ?_
  refine lv_bipush (v := (-13)) X.x X.b dL_refusesAny_617 kb_m13 ?_
  refine lv_icmp_ne (tgt := 626) X.x X.b dL_refusesAny_619 (by decide) (fun h => absurd h (by decide)) (fun _ => ?_)
  refine lv_iconst (v := 1) X.x X.b dL_refusesAny_622 ki_1 ?_
  refine lv_goto (tgt := 627) X.x X.b dL_refusesAny_623 (by decide) ?_
  rw [List.append_nil] at Z
  exact x_zret X Z (Or.inr rfl) ⟨rfl, hw⟩ (Nat.le_of_ble_eq_true rfl) (Nat.le_of_ble_eq_true rfl) dL_refusesAny_627
set_option maxRecDepth 100000 in
set_option maxHeartbeats 4000000 in
theorem M_refusesAny_1 (l : Launch) (hT : l.stackTraces = false) (Δ : zE) {b : zOb} (hs : 0 < (tF b.1).2.2.1) (a : Nat) (ws : va_W) (hw : wOb Δ a b ws) : zMX l Δ yL_refusesAny (.code yL_refusesAny cL_refusesAny 4 (some .boolean)) 10 190 481 4454 [.ref a, .int 1] ws (fun rv w => rv = some (.int 1) ∧ wOb Δ a b w) (fun _ _ => False) := by
  refine x_start hT (by decide +kernel) (Nat.le_of_ble_eq_true rfl) ?_
  intro p e s m args below meth c A ls Y htab Z hl
  have X := Y.1
  have hl : lv_has ls 4 [(0, .ref a), (1, .int 1)] := hl
  rw [← List.append_nil ws] at Z
  refine lv_iload_n X.x X.b dL_refusesAny_0 rfl (lv_at hl 1 rfl) ?_
  refine lv_if_ne (tgt := 8) X.x X.b dL_refusesAny_1 (by decide) (fun _ => ?_) (fun h => absurd h (by decide))
  refine lv_aload_n X.x X.b dL_refusesAny_8 rfl (lv_at hl 0 rfl) ?_
  refine lv_iconst (v := 0) X.x X.b dL_refusesAny_9 ki_0 ?_
  refine o_call (wr := []) Y Z hl hw (C_count l hT Δ 0 (c_count0 b)) wd_290 wd_291 wd_292 wd_19 wd_293 ok_X6_count rfl rfl (rest := []) rfl (Nat.le_of_ble_eq_true rfl) ⟨Nat.le_of_ble_eq_true rfl, Nat.le_of_ble_eq_true rfl⟩ ⟨Nat.le_of_ble_eq_true rfl, Nat.le_of_ble_eq_true rfl⟩ (c1 := 1) (s1 := 6) rfl rfl dL_refusesAny_10 (fun ws H locs hw Z => ?_)
  refine lv_istore_n (lv' := [(2, .int ((tF b.1).2.2.1)), (0, .ref a), (1, .int 1)]) X.x X.b dL_refusesAny_13 rfl hl (Nat.le_of_ble_eq_true rfl) rfl (fun ls hl => ?_)
  refine lv_iload_n X.x X.b dL_refusesAny_14 rfl (lv_at hl 2 rfl) ?_
  refine lv_if_ne (tgt := 22) X.x X.b dL_refusesAny_15 (by decide) (fun _ => ?_) (fun h => absurd h (by decide))
  refine lv_bipush (v := 6) X.x X.b dL_refusesAny_22 kb_6 ?_
  refine lv_istore_n (lv' := [(3, .int 6), (2, .int ((tF b.1).2.2.1)), (0, .ref a), (1, .int 1)]) X.x X.b dL_refusesAny_24 rfl hl (Nat.le_of_ble_eq_true rfl) rfl (fun ls hl => ?_)
  refine lv_aload_n X.x X.b dL_refusesAny_25 rfl (lv_at hl 2 rfl) ?_
  refine lv_iconst (v := 0) X.x X.b dL_refusesAny_26 ki_0 ?_
  refine lv_iload_n X.x X.b dL_refusesAny_27 rfl (lv_at hl 3 rfl) ?_
  refine lv_if_ne (tgt := 35) X.x X.b dL_refusesAny_28 (by decide) (fun _ => ?_) (fun h => absurd h (by decide))
  refine lv_bipush (v := 64) X.x X.b dL_refusesAny_35 kb_64 ?_
  refine lv_iconst (v := (-1)) X.x X.b dL_refusesAny_37 ki_m1 ?_
  refine lv_iconst (v := 5) X.x X.b dL_refusesAny_38 ki_5 ?_
  refine o_statX (wr := []) Y Z hl (M_told l hT Δ 0 64 (-1) 5 (rf_32 b) a ws hw) wd_349 wd_350 wd_18 wd_351 ok_L_told rfl (rest := []) rfl (Nat.le_of_ble_eq_true rfl) ⟨Nat.le_of_ble_eq_true rfl, Nat.le_of_ble_eq_true rfl⟩ ⟨Nat.le_of_ble_eq_true rfl, Nat.le_of_ble_eq_true rfl⟩ (c1 := 16) (s1 := 145) rfl rfl dL_refusesAny_39 (fun rv ws H locs hP Z => ?_)
  obtain ⟨rfl, hw⟩ := hP
  refine W.eq (g2 := F0 m 42 ls [.int (-11)]) rfl ?_
  refine lv_bipush (v := (-11)) X.x X.b dL_refusesAny_42 kb_m11 ?_
  refine lv_icmp_ne (tgt := 238) X.x X.b dL_refusesAny_44 (by decide) (fun h => absurd h (by decide)) (fun _ => ?_)
  refine lv_aload_n X.x X.b dL_refusesAny_47 rfl (lv_at hl 2 rfl) ?_
  refine lv_iconst (v := 0) X.x X.b dL_refusesAny_48 ki_0 ?_
  refine lv_iconst (v := 1) X.x X.b dL_refusesAny_49 ki_1 ?_
  refine lv_iconst (v := (-1)) X.x X.b dL_refusesAny_50 ki_m1 ?_
  refine lv_iload_n X.x X.b dL_refusesAny_51 rfl (lv_at hl 3 rfl) ?_
  refine lv_if_ne (tgt := 59) X.x X.b dL_refusesAny_52 (by decide) (fun _ => ?_) (fun h => absurd h (by decide))
  refine lv_bipush (v := 100) X.x X.b dL_refusesAny_59 kb_100 ?_
  refine o_statX (wr := []) Y Z hl (M_told l hT Δ 0 1 (-1) 100 (rf_33 b) a ws hw) wd_349 wd_350 wd_18 wd_351 ok_L_told rfl (rest := []) rfl (Nat.le_of_ble_eq_true rfl) ⟨Nat.le_of_ble_eq_true rfl, Nat.le_of_ble_eq_true rfl⟩ ⟨Nat.le_of_ble_eq_true rfl, Nat.le_of_ble_eq_true rfl⟩ (c1 := 31) (s1 := 284) rfl rfl dL_refusesAny_61 (fun rv ws H locs hP Z => ?_)
  obtain ⟨rfl, hw⟩ := hP
  refine W.eq (g2 := F0 m 64 ls [.int (-11)]) rfl ?_
  refine lv_bipush (v := (-11)) X.x X.b dL_refusesAny_64 kb_m11 ?_
  refine lv_icmp_ne (tgt := 238) X.x X.b dL_refusesAny_66 (by decide) (fun h => absurd h (by decide)) (fun _ => ?_)
  refine lv_aload_n X.x X.b dL_refusesAny_69 rfl (lv_at hl 2 rfl) ?_
  refine lv_iconst (v := 0) X.x X.b dL_refusesAny_70 ki_0 ?_
  refine lv_iconst (v := 2) X.x X.b dL_refusesAny_71 ki_2 ?_
  refine lv_iload_n X.x X.b dL_refusesAny_72 rfl (lv_at hl 3 rfl) ?_
  refine lv_if_ne (tgt := 80) X.x X.b dL_refusesAny_73 (by decide) (fun _ => ?_) (fun h => absurd h (by decide))
  refine lv_bipush (v := (-2)) X.x X.b dL_refusesAny_80 kb_m2 ?_
  refine lv_iconst (v := 5) X.x X.b dL_refusesAny_82 ki_5 ?_
  refine o_statX (wr := []) Y Z hl (M_told l hT Δ 0 2 (-2) 5 (rf_34 b) a ws hw) wd_349 wd_350 wd_18 wd_351 ok_L_told rfl (rest := []) rfl (Nat.le_of_ble_eq_true rfl) ⟨Nat.le_of_ble_eq_true rfl, Nat.le_of_ble_eq_true rfl⟩ ⟨Nat.le_of_ble_eq_true rfl, Nat.le_of_ble_eq_true rfl⟩ (c1 := 46) (s1 := 423) rfl rfl dL_refusesAny_83 (fun rv ws H locs hP Z => ?_)
  obtain ⟨rfl, hw⟩ := hP
  refine W.eq (g2 := F0 m 86 ls [.int (-11)]) rfl ?_
  refine lv_bipush (v := (-11)) X.x X.b dL_refusesAny_86 kb_m11 ?_
  refine lv_icmp_ne (tgt := 238) X.x X.b dL_refusesAny_88 (by decide) (fun h => absurd h (by decide)) (fun _ => ?_)
  refine lv_aload_n X.x X.b dL_refusesAny_91 rfl (lv_at hl 2 rfl) ?_
  refine lv_iconst (v := 0) X.x X.b dL_refusesAny_92 ki_0 ?_
  refine lv_iconst (v := 2) X.x X.b dL_refusesAny_93 ki_2 ?_
  refine lv_iload_n X.x X.b dL_refusesAny_94 rfl (lv_at hl 3 rfl) ?_
  refine lv_if_ne (tgt := 103) X.x X.b dL_refusesAny_95 (by decide) (fun _ => ?_) (fun h => absurd h (by decide))
  refine lv_bipush (v := 6) X.x X.b dL_refusesAny_103 kb_6 ?_
  refine lv_iconst (v := 5) X.x X.b dL_refusesAny_105 ki_5 ?_
  refine o_statX (wr := []) Y Z hl (M_told l hT Δ 0 2 6 5 (rf_35 b) a ws hw) wd_349 wd_350 wd_18 wd_351 ok_L_told rfl (rest := []) rfl (Nat.le_of_ble_eq_true rfl) ⟨Nat.le_of_ble_eq_true rfl, Nat.le_of_ble_eq_true rfl⟩ ⟨Nat.le_of_ble_eq_true rfl, Nat.le_of_ble_eq_true rfl⟩ (c1 := 61) (s1 := 562) rfl rfl dL_refusesAny_106 (fun rv ws H locs hP Z => ?_)
  obtain ⟨rfl, hw⟩ := hP
  refine W.eq (g2 := F0 m 109 ls [.int (-11)]) rfl ?_
  refine lv_bipush (v := (-11)) X.x X.b dL_refusesAny_109 kb_m11 ?_
  refine lv_icmp_ne (tgt := 238) X.x X.b dL_refusesAny_111 (by decide) (fun h => absurd h (by decide)) (fun _ => ?_)
  refine lv_aload_n X.x X.b dL_refusesAny_114 rfl (lv_at hl 2 rfl) ?_
  refine lv_iconst (v := 1) X.x X.b dL_refusesAny_115 ki_1 ?_
  refine lv_iload_n X.x X.b dL_refusesAny_116 rfl (lv_at hl 1 rfl) ?_
  refine lv_iconst (v := 0) X.x X.b dL_refusesAny_117 ki_0 ?_
  refine lv_bipush (v := 9) X.x X.b dL_refusesAny_118 kb_9 ?_
  refine o_statX (wr := []) Y Z hl (M_told l hT Δ 1 ((tF b.1).2.2.1) 0 9 (rf_36 b) a ws hw) wd_349 wd_350 wd_18 wd_351 ok_L_told rfl (rest := []) rfl (Nat.le_of_ble_eq_true rfl) ⟨Nat.le_of_ble_eq_true rfl, Nat.le_of_ble_eq_true rfl⟩ ⟨Nat.le_of_ble_eq_true rfl, Nat.le_of_ble_eq_true rfl⟩ (c1 := 76) (s1 := 701) rfl rfl dL_refusesAny_120 (fun rv ws H locs hP Z => ?_)
  obtain ⟨rfl, hw⟩ := hP
  refine W.eq (g2 := F0 m 123 ls [.int (-13)]) rfl ?_
  refine lv_bipush (v := (-13)) X.x X.b dL_refusesAny_123 kb_m13 ?_
  refine lv_icmp_ne (tgt := 238) X.x X.b dL_refusesAny_125 (by decide) (fun h => absurd h (by decide)) (fun _ => ?_)
  refine lv_aload_n X.x X.b dL_refusesAny_128 rfl (lv_at hl 2 rfl) ?_
  refine lv_iconst (v := 1) X.x X.b dL_refusesAny_129 ki_1 ?_
  refine lv_iconst (v := 0) X.x X.b dL_refusesAny_130 ki_0 ?_
  refine lv_iload_n X.x X.b dL_refusesAny_131 rfl (lv_at hl 3 rfl) ?_
  refine lv_if_ne (tgt := 139) X.x X.b dL_refusesAny_132 (by decide) (fun _ => ?_) (fun h => absurd h (by decide))
  refine lv_bipush (v := 64) X.x X.b dL_refusesAny_139 kb_64 ?_
  refine lv_iconst (v := (-1)) X.x X.b dL_refusesAny_141 ki_m1 ?_
  refine o_statX (wr := []) Y Z hl (M_told l hT Δ 1 0 64 (-1) (rf_37 b hs) a ws hw) wd_349 wd_350 wd_18 wd_351 ok_L_told rfl (rest := []) rfl (Nat.le_of_ble_eq_true rfl) ⟨Nat.le_of_ble_eq_true rfl, Nat.le_of_ble_eq_true rfl⟩ ⟨Nat.le_of_ble_eq_true rfl, Nat.le_of_ble_eq_true rfl⟩ (c1 := 91) (s1 := 840) rfl rfl dL_refusesAny_142 (fun rv ws H locs hP Z => ?_)
  obtain ⟨rfl, hw⟩ := hP
  refine W.eq (g2 := F0 m 145 ls [.int (-11)]) rfl ?_
  refine lv_bipush (v := (-11)) X.x X.b dL_refusesAny_145 kb_m11 ?_
  refine lv_icmp_ne (tgt := 238) X.x X.b dL_refusesAny_147 (by decide) (fun h => absurd h (by decide)) (fun _ => ?_)
  refine lv_aload_n X.x X.b dL_refusesAny_150 rfl (lv_at hl 2 rfl) ?_
  refine lv_iconst (v := 1) X.x X.b dL_refusesAny_151 ki_1 ?_
  refine lv_iconst (v := 0) X.x X.b dL_refusesAny_152 ki_0 ?_
  refine lv_iconst (v := 4) X.x X.b dL_refusesAny_153 ki_4 ?_
  refine lv_iload_n X.x X.b dL_refusesAny_154 rfl (lv_at hl 3 rfl) ?_
  refine lv_if_ne (tgt := 162) X.x X.b dL_refusesAny_155 (by decide) (fun _ => ?_) (fun h => absurd h (by decide))
  refine lv_bipush (v := 34) X.x X.b dL_refusesAny_162 kb_34 ?_
  refine o_statX (wr := []) Y Z hl (M_told l hT Δ 1 0 4 34 (rf_38 b hs) a ws hw) wd_349 wd_350 wd_18 wd_351 ok_L_told rfl (rest := []) rfl (Nat.le_of_ble_eq_true rfl) ⟨Nat.le_of_ble_eq_true rfl, Nat.le_of_ble_eq_true rfl⟩ ⟨Nat.le_of_ble_eq_true rfl, Nat.le_of_ble_eq_true rfl⟩ (c1 := 106) (s1 := 979) rfl rfl dL_refusesAny_164 (fun rv ws H locs hP Z => ?_)
  obtain ⟨rfl, hw⟩ := hP
  refine W.eq (g2 := F0 m 167 ls [.int (-11)]) rfl ?_
  refine lv_bipush (v := (-11)) X.x X.b dL_refusesAny_167 kb_m11 ?_
  refine lv_icmp_ne (tgt := 238) X.x X.b dL_refusesAny_169 (by decide) (fun h => absurd h (by decide)) (fun _ => ?_)
  refine lv_aload_n X.x X.b dL_refusesAny_172 rfl (lv_at hl 2 rfl) ?_
  refine lv_iconst (v := 3) X.x X.b dL_refusesAny_173 ki_3 ?_
  refine lv_iload_n X.x X.b dL_refusesAny_174 rfl (lv_at hl 3 rfl) ?_
  refine lv_if_ne (tgt := 182) X.x X.b dL_refusesAny_175 (by decide) (fun _ => ?_) (fun h => absurd h (by decide))
  refine lv_iconst (v := 2) X.x X.b dL_refusesAny_182 ki_2 ?_
  refine lv_bipush (v := 99) X.x X.b dL_refusesAny_183 kb_99 ?_
  refine lv_iconst (v := 0) X.x X.b dL_refusesAny_185 ki_0 ?_
  refine o_statX (wr := []) Y Z hl (M_told l hT Δ 3 2 99 0 (rf_39 b) a ws hw) wd_349 wd_350 wd_18 wd_351 ok_L_told rfl (rest := []) rfl (Nat.le_of_ble_eq_true rfl) ⟨Nat.le_of_ble_eq_true rfl, Nat.le_of_ble_eq_true rfl⟩ ⟨Nat.le_of_ble_eq_true rfl, Nat.le_of_ble_eq_true rfl⟩ (c1 := 121) (s1 := 1118) rfl rfl dL_refusesAny_186 (fun rv ws H locs hP Z => ?_)
  obtain ⟨rfl, hw⟩ := hP
  refine W.eq (g2 := F0 m 189 ls [.int (-13)]) rfl ?_
  refine lv_bipush (v := (-13)) X.x X.b dL_refusesAny_189 kb_m13 ?_
  refine lv_icmp_ne (tgt := 238) X.x X.b dL_refusesAny_191 (by decide) (fun h => absurd h (by decide)) (fun _ => ?_)
  refine lv_aload_n X.x X.b dL_refusesAny_194 rfl (lv_at hl 2 rfl) ?_
  refine lv_iconst (v := 3) X.x X.b dL_refusesAny_195 ki_3 ?_
  refine lv_iconst (v := 0) X.x X.b dL_refusesAny_196 ki_0 ?_
  refine lv_iload_n X.x X.b dL_refusesAny_197 rfl (lv_at hl 3 rfl) ?_
  refine lv_if_ne (tgt := 205) X.x X.b dL_refusesAny_198 (by decide) (fun _ => ?_) (fun h => absurd h (by decide))
  refine lv_bipush (v := 20) X.x X.b dL_refusesAny_205 kb_20 ?_
  refine lv_iconst (v := 0) X.x X.b dL_refusesAny_207 ki_0 ?_
  refine o_statX (wr := []) Y Z hl (M_told l hT Δ 3 0 20 0 (rf_40 b) a ws hw) wd_349 wd_350 wd_18 wd_351 ok_L_told rfl (rest := []) rfl (Nat.le_of_ble_eq_true rfl) ⟨Nat.le_of_ble_eq_true rfl, Nat.le_of_ble_eq_true rfl⟩ ⟨Nat.le_of_ble_eq_true rfl, Nat.le_of_ble_eq_true rfl⟩ (c1 := 136) (s1 := 1257) rfl rfl dL_refusesAny_208 (fun rv ws H locs hP Z => ?_)
  obtain ⟨rfl, hw⟩ := hP
  refine W.eq (g2 := F0 m 211 ls [.int (-11)]) rfl ?_
  refine lv_bipush (v := (-11)) X.x X.b dL_refusesAny_211 kb_m11 ?_
  refine lv_icmp_ne (tgt := 238) X.x X.b dL_refusesAny_213 (by decide) (fun h => absurd h (by decide)) (fun _ => ?_)
  refine lv_aload_n X.x X.b dL_refusesAny_216 rfl (lv_at hl 2 rfl) ?_
  refine lv_iconst (v := 3) X.x X.b dL_refusesAny_217 ki_3 ?_
  refine lv_iconst (v := 1) X.x X.b dL_refusesAny_218 ki_1 ?_
  refine lv_iload_n X.x X.b dL_refusesAny_219 rfl (lv_at hl 3 rfl) ?_
  refine lv_if_ne (tgt := 227) X.x X.b dL_refusesAny_220 (by decide) (fun _ => ?_) (fun h => absurd h (by decide))
  refine lv_bipush (v := 21) X.x X.b dL_refusesAny_227 kb_21 ?_
  refine lv_iconst (v := 0) X.x X.b dL_refusesAny_229 ki_0 ?_
  refine o_statX (wr := []) Y Z hl (M_told l hT Δ 3 1 21 0 (rf_41 b) a ws hw) wd_349 wd_350 wd_18 wd_351 ok_L_told rfl (rest := []) rfl (Nat.le_of_ble_eq_true rfl) ⟨Nat.le_of_ble_eq_true rfl, Nat.le_of_ble_eq_true rfl⟩ ⟨Nat.le_of_ble_eq_true rfl, Nat.le_of_ble_eq_true rfl⟩ (c1 := 151) (s1 := 1396) rfl rfl dL_refusesAny_230 (fun rv ws H locs hP Z => ?_)
  obtain ⟨rfl, hw⟩ := hP
  refine W.eq (g2 := F0 m 233 ls [.int (-11)]) rfl ?_
  refine lv_bipush (v := (-11)) X.x X.b dL_refusesAny_233 kb_m11 ?_
  refine lv_icmp_eq (tgt := 240) X.x X.b dL_refusesAny_235 (by decide) (fun _ => ?_) (fun h => absurd h (by decide))
  refine lv_aload_n X.x X.b dL_refusesAny_240 rfl (lv_at hl 2 rfl) ?_
  refine lv_iconst (v := 4) X.x X.b dL_refusesAny_241 ki_4 ?_
  refine lv_iload_n X.x X.b dL_refusesAny_242 rfl (lv_at hl 0 rfl) ?_
  refine lv_iconst (v := 0) X.x X.b dL_refusesAny_243 ki_0 ?_
  refine lv_iconst (v := 0) X.x X.b dL_refusesAny_244 ki_0 ?_
  refine o_statX (wr := []) Y Z hl (M_told l hT Δ 4 6 0 0 (rf_42 b) a ws hw) wd_349 wd_350 wd_18 wd_351 ok_L_told rfl (rest := []) rfl (Nat.le_of_ble_eq_true rfl) ⟨Nat.le_of_ble_eq_true rfl, Nat.le_of_ble_eq_true rfl⟩ ⟨Nat.le_of_ble_eq_true rfl, Nat.le_of_ble_eq_true rfl⟩ (c1 := 166) (s1 := 1535) rfl rfl dL_refusesAny_245 (fun rv ws H locs hP Z => ?_)
  obtain ⟨rfl, hw⟩ := hP
  refine W.eq (g2 := F0 m 248 ls [.int (-13)]) rfl ?_
  refine lv_bipush (v := (-13)) X.x X.b dL_refusesAny_248 kb_m13 ?_
  refine lv_icmp_ne (tgt := 458) X.x X.b dL_refusesAny_250 (by decide) (fun h => absurd h (by decide)) (fun _ => ?_)
  refine lv_aload_n X.x X.b dL_refusesAny_253 rfl (lv_at hl 2 rfl) ?_
  refine lv_iconst (v := 4) X.x X.b dL_refusesAny_254 ki_4 ?_
  refine lv_iconst (v := 0) X.x X.b dL_refusesAny_255 ki_0 ?_
  refine lv_iload_n X.x X.b dL_refusesAny_256 rfl (lv_at hl 1 rfl) ?_
  refine lv_iconst (v := 0) X.x X.b dL_refusesAny_257 ki_0 ?_
  refine o_statX (wr := []) Y Z hl (M_told l hT Δ 4 0 ((tF b.1).2.2.1) 0 (rf_43 b) a ws hw) wd_349 wd_350 wd_18 wd_351 ok_L_told rfl (rest := []) rfl (Nat.le_of_ble_eq_true rfl) ⟨Nat.le_of_ble_eq_true rfl, Nat.le_of_ble_eq_true rfl⟩ ⟨Nat.le_of_ble_eq_true rfl, Nat.le_of_ble_eq_true rfl⟩ (c1 := 181) (s1 := 1674) rfl rfl dL_refusesAny_258 (fun rv ws H locs hP Z => ?_)
  obtain ⟨rfl, hw⟩ := hP
  refine W.eq (g2 := F0 m 261 ls [.int (-13)]) rfl ?_
  refine lv_bipush (v := (-13)) X.x X.b dL_refusesAny_261 kb_m13 ?_
  refine lv_icmp_ne (tgt := 458) X.x X.b dL_refusesAny_263 (by decide) (fun h => absurd h (by decide)) (fun _ => ?_)
  refine lv_aload_n X.x X.b dL_refusesAny_266 rfl (lv_at hl 2 rfl) ?_
  refine lv_iconst (v := 5) X.x X.b dL_refusesAny_267 ki_5 ?_
  refine lv_iload_n X.x X.b dL_refusesAny_268 rfl (lv_at hl 1 rfl) ?_
  refine lv_bipush (v := 99) X.x X.b dL_refusesAny_269 kb_99 ?_
  refine lv_iconst (v := 0) X.x X.b dL_refusesAny_271 ki_0 ?_
  refine o_statX (wr := []) Y Z hl (M_told l hT Δ 5 ((tF b.1).2.2.1) 99 0 (rf_44 b) a ws hw) wd_349 wd_350 wd_18 wd_351 ok_L_told rfl (rest := []) rfl (Nat.le_of_ble_eq_true rfl) ⟨Nat.le_of_ble_eq_true rfl, Nat.le_of_ble_eq_true rfl⟩ ⟨Nat.le_of_ble_eq_true rfl, Nat.le_of_ble_eq_true rfl⟩ (c1 := 196) (s1 := 1813) rfl rfl dL_refusesAny_272 (fun rv ws H locs hP Z => ?_)
  obtain ⟨rfl, hw⟩ := hP
  refine W.eq (g2 := F0 m 275 ls [.int (-13)]) rfl ?_
  refine lv_bipush (v := (-13)) X.x X.b dL_refusesAny_275 kb_m13 ?_
  refine lv_icmp_ne (tgt := 458) X.x X.b dL_refusesAny_277 (by decide) (fun h => absurd h (by decide)) (fun _ => ?_)
  refine lv_aload_n X.x X.b dL_refusesAny_280 rfl (lv_at hl 2 rfl) ?_
  refine lv_iconst (v := 5) X.x X.b dL_refusesAny_281 ki_5 ?_
  refine lv_iconst (v := 0) X.x X.b dL_refusesAny_282 ki_0 ?_
  refine lv_iload_n X.x X.b dL_refusesAny_283 rfl (lv_at hl 3 rfl) ?_
  refine lv_if_ne (tgt := 291) X.x X.b dL_refusesAny_284 (by decide) (fun _ => ?_) (fun h => absurd h (by decide))
  refine lv_bipush (v := 64) X.x X.b dL_refusesAny_291 kb_64 ?_
  refine lv_iconst (v := 0) X.x X.b dL_refusesAny_293 ki_0 ?_
  refine o_statX (wr := []) Y Z hl (M_told l hT Δ 5 0 64 0 (rf_45 b hs) a ws hw) wd_349 wd_350 wd_18 wd_351 ok_L_told rfl (rest := []) rfl (Nat.le_of_ble_eq_true rfl) ⟨Nat.le_of_ble_eq_true rfl, Nat.le_of_ble_eq_true rfl⟩ ⟨Nat.le_of_ble_eq_true rfl, Nat.le_of_ble_eq_true rfl⟩ (c1 := 211) (s1 := 1952) rfl rfl dL_refusesAny_294 (fun rv ws H locs hP Z => ?_)
  obtain ⟨rfl, hw⟩ := hP
  refine W.eq (g2 := F0 m 297 ls [.int (-11)]) rfl ?_
  refine lv_bipush (v := (-11)) X.x X.b dL_refusesAny_297 kb_m11 ?_
  refine lv_icmp_ne (tgt := 458) X.x X.b dL_refusesAny_299 (by decide) (fun h => absurd h (by decide)) (fun _ => ?_)
  refine lv_aload_n X.x X.b dL_refusesAny_302 rfl (lv_at hl 2 rfl) ?_
  refine lv_bipush (v := 6) X.x X.b dL_refusesAny_303 kb_6 ?_
  refine lv_iload_n X.x X.b dL_refusesAny_305 rfl (lv_at hl 0 rfl) ?_
  refine lv_iconst (v := 0) X.x X.b dL_refusesAny_306 ki_0 ?_
  refine lv_iconst (v := 0) X.x X.b dL_refusesAny_307 ki_0 ?_
  refine o_statX (wr := []) Y Z hl (M_told l hT Δ 6 6 0 0 (rf_46 b) a ws hw) wd_349 wd_350 wd_18 wd_351 ok_L_told rfl (rest := []) rfl (Nat.le_of_ble_eq_true rfl) ⟨Nat.le_of_ble_eq_true rfl, Nat.le_of_ble_eq_true rfl⟩ ⟨Nat.le_of_ble_eq_true rfl, Nat.le_of_ble_eq_true rfl⟩ (c1 := 226) (s1 := 2091) rfl rfl dL_refusesAny_308 (fun rv ws H locs hP Z => ?_)
  obtain ⟨rfl, hw⟩ := hP
  refine W.eq (g2 := F0 m 311 ls [.int (-13)]) rfl ?_
  refine lv_bipush (v := (-13)) X.x X.b dL_refusesAny_311 kb_m13 ?_
  refine lv_icmp_ne (tgt := 458) X.x X.b dL_refusesAny_313 (by decide) (fun h => absurd h (by decide)) (fun _ => ?_)
  refine lv_aload_n X.x X.b dL_refusesAny_316 rfl (lv_at hl 2 rfl) ?_
  refine lv_bipush (v := 7) X.x X.b dL_refusesAny_317 kb_7 ?_
  refine lv_iload_n X.x X.b dL_refusesAny_319 rfl (lv_at hl 0 rfl) ?_
  refine lv_iconst (v := 0) X.x X.b dL_refusesAny_320 ki_0 ?_
  refine lv_iconst (v := 0) X.x X.b dL_refusesAny_321 ki_0 ?_
  refine o_statX (wr := []) Y Z hl (M_told l hT Δ 7 6 0 0 (rf_47 b) a ws hw) wd_349 wd_350 wd_18 wd_351 ok_L_told rfl (rest := []) rfl (Nat.le_of_ble_eq_true rfl) ⟨Nat.le_of_ble_eq_true rfl, Nat.le_of_ble_eq_true rfl⟩ ⟨Nat.le_of_ble_eq_true rfl, Nat.le_of_ble_eq_true rfl⟩ (c1 := 241) (s1 := 2230) rfl rfl dL_refusesAny_322 (fun rv ws H locs hP Z => ?_)
  obtain ⟨rfl, hw⟩ := hP
  refine W.eq (g2 := F0 m 325 ls [.int (-13)]) rfl ?_
  refine lv_bipush (v := (-13)) X.x X.b dL_refusesAny_325 kb_m13 ?_
  refine lv_icmp_ne (tgt := 458) X.x X.b dL_refusesAny_327 (by decide) (fun h => absurd h (by decide)) (fun _ => ?_)
  refine lv_aload_n X.x X.b dL_refusesAny_330 rfl (lv_at hl 2 rfl) ?_
  refine lv_bipush (v := 8) X.x X.b dL_refusesAny_331 kb_8 ?_
  refine lv_iload_n X.x X.b dL_refusesAny_333 rfl (lv_at hl 3 rfl) ?_
  refine lv_if_ne (tgt := 342) X.x X.b dL_refusesAny_334 (by decide) (fun _ => ?_) (fun h => absurd h (by decide))
  refine lv_bipush (v := 127) X.x X.b dL_refusesAny_342 kb_127 ?_
  refine lv_iconst (v := 0) X.x X.b dL_refusesAny_344 ki_0 ?_
  refine lv_iconst (v := 0) X.x X.b dL_refusesAny_345 ki_0 ?_
  refine o_statX (wr := []) Y Z hl (M_told l hT Δ 8 127 0 0 (rf_48 b) a ws hw) wd_349 wd_350 wd_18 wd_351 ok_L_told rfl (rest := []) rfl (Nat.le_of_ble_eq_true rfl) ⟨Nat.le_of_ble_eq_true rfl, Nat.le_of_ble_eq_true rfl⟩ ⟨Nat.le_of_ble_eq_true rfl, Nat.le_of_ble_eq_true rfl⟩ (c1 := 256) (s1 := 2369) rfl rfl dL_refusesAny_346 (fun rv ws H locs hP Z => ?_)
  obtain ⟨rfl, hw⟩ := hP
  refine W.eq (g2 := F0 m 349 ls [.int (-11)]) rfl ?_
  refine lv_bipush (v := (-11)) X.x X.b dL_refusesAny_349 kb_m11 ?_
  refine lv_icmp_ne (tgt := 458) X.x X.b dL_refusesAny_351 (by decide) (fun h => absurd h (by decide)) (fun _ => ?_)
  refine lv_aload_n X.x X.b dL_refusesAny_354 rfl (lv_at hl 2 rfl) ?_
  refine lv_bipush (v := 11) X.x X.b dL_refusesAny_355 kb_11 ?_
  refine lv_iload_n X.x X.b dL_refusesAny_357 rfl (lv_at hl 1 rfl) ?_
  refine lv_bipush (v := 9) X.x X.b dL_refusesAny_358 kb_9 ?_
  refine lv_iconst (v := 0) X.x X.b dL_refusesAny_360 ki_0 ?_
  refine o_statX (wr := []) Y Z hl (M_told l hT Δ 11 ((tF b.1).2.2.1) 9 0 (rf_49 b) a ws hw) wd_349 wd_350 wd_18 wd_351 ok_L_told rfl (rest := []) rfl (Nat.le_of_ble_eq_true rfl) ⟨Nat.le_of_ble_eq_true rfl, Nat.le_of_ble_eq_true rfl⟩ ⟨Nat.le_of_ble_eq_true rfl, Nat.le_of_ble_eq_true rfl⟩ (c1 := 271) (s1 := 2508) rfl rfl dL_refusesAny_361 (fun rv ws H locs hP Z => ?_)
  obtain ⟨rfl, hw⟩ := hP
  refine W.eq (g2 := F0 m 364 ls [.int (-13)]) rfl ?_
  refine lv_bipush (v := (-13)) X.x X.b dL_refusesAny_364 kb_m13 ?_
  refine lv_icmp_ne (tgt := 458) X.x X.b dL_refusesAny_366 (by decide) (fun h => absurd h (by decide)) (fun _ => ?_)
  refine lv_aload_n X.x X.b dL_refusesAny_369 rfl (lv_at hl 2 rfl) ?_
  refine lv_bipush (v := 11) X.x X.b dL_refusesAny_370 kb_11 ?_
  refine lv_iconst (v := 0) X.x X.b dL_refusesAny_372 ki_0 ?_
  refine lv_iload_n X.x X.b dL_refusesAny_373 rfl (lv_at hl 3 rfl) ?_
  refine lv_if_ne (tgt := 381) X.x X.b dL_refusesAny_374 (by decide) (fun _ => ?_) (fun h => absurd h (by decide))
  refine lv_bipush (v := 7) X.x X.b dL_refusesAny_381 kb_7 ?_
  refine lv_iconst (v := 0) X.x X.b dL_refusesAny_383 ki_0 ?_
  refine o_statX (wr := []) Y Z hl (M_told l hT Δ 11 0 7 0 (rf_50 b hs) a ws hw) wd_349 wd_350 wd_18 wd_351 ok_L_told rfl (rest := []) rfl (Nat.le_of_ble_eq_true rfl) ⟨Nat.le_of_ble_eq_true rfl, Nat.le_of_ble_eq_true rfl⟩ ⟨Nat.le_of_ble_eq_true rfl, Nat.le_of_ble_eq_true rfl⟩ (c1 := 286) (s1 := 2647) rfl rfl dL_refusesAny_384 (fun rv ws H locs hP Z => ?_)
  obtain ⟨rfl, hw⟩ := hP
  refine W.eq (g2 := F0 m 387 ls [.int (-11)]) rfl ?_
  refine lv_bipush (v := (-11)) X.x X.b dL_refusesAny_387 kb_m11 ?_
  refine lv_icmp_ne (tgt := 458) X.x X.b dL_refusesAny_389 (by decide) (fun h => absurd h (by decide)) (fun _ => ?_)
  refine lv_aload_n X.x X.b dL_refusesAny_392 rfl (lv_at hl 2 rfl) ?_
  refine lv_bipush (v := 12) X.x X.b dL_refusesAny_393 kb_12 ?_
  refine lv_iload_n X.x X.b dL_refusesAny_395 rfl (lv_at hl 0 rfl) ?_
  refine lv_iconst (v := 0) X.x X.b dL_refusesAny_396 ki_0 ?_
  refine lv_iconst (v := 0) X.x X.b dL_refusesAny_397 ki_0 ?_
  refine o_statX (wr := []) Y Z hl (M_told l hT Δ 12 6 0 0 (rf_51 b) a ws hw) wd_349 wd_350 wd_18 wd_351 ok_L_told rfl (rest := []) rfl (Nat.le_of_ble_eq_true rfl) ⟨Nat.le_of_ble_eq_true rfl, Nat.le_of_ble_eq_true rfl⟩ ⟨Nat.le_of_ble_eq_true rfl, Nat.le_of_ble_eq_true rfl⟩ (c1 := 301) (s1 := 2786) rfl rfl dL_refusesAny_398 (fun rv ws H locs hP Z => ?_)
  obtain ⟨rfl, hw⟩ := hP
  refine W.eq (g2 := F0 m 401 ls [.int (-13)]) rfl ?_
  refine lv_bipush (v := (-13)) X.x X.b dL_refusesAny_401 kb_m13 ?_
  refine lv_icmp_ne (tgt := 458) X.x X.b dL_refusesAny_403 (by decide) (fun h => absurd h (by decide)) (fun _ => ?_)
  refine lv_aload_n X.x X.b dL_refusesAny_406 rfl (lv_at hl 2 rfl) ?_
  refine lv_bipush (v := 12) X.x X.b dL_refusesAny_407 kb_12 ?_
  refine lv_iconst (v := 0) X.x X.b dL_refusesAny_409 ki_0 ?_
  refine lv_iload_n X.x X.b dL_refusesAny_410 rfl (lv_at hl 1 rfl) ?_
  refine lv_iconst (v := 0) X.x X.b dL_refusesAny_411 ki_0 ?_
  refine o_statX (wr := []) Y Z hl (M_told l hT Δ 12 0 ((tF b.1).2.2.1) 0 (rf_52 b) a ws hw) wd_349 wd_350 wd_18 wd_351 ok_L_told rfl (rest := []) rfl (Nat.le_of_ble_eq_true rfl) ⟨Nat.le_of_ble_eq_true rfl, Nat.le_of_ble_eq_true rfl⟩ ⟨Nat.le_of_ble_eq_true rfl, Nat.le_of_ble_eq_true rfl⟩ (c1 := 316) (s1 := 2925) rfl rfl dL_refusesAny_412 (fun rv ws H locs hP Z => ?_)
  obtain ⟨rfl, hw⟩ := hP
  refine W.eq (g2 := F0 m 415 ls [.int (-13)]) rfl ?_
  refine lv_bipush (v := (-13)) X.x X.b dL_refusesAny_415 kb_m13 ?_
  refine lv_icmp_ne (tgt := 458) X.x X.b dL_refusesAny_417 (by decide) (fun h => absurd h (by decide)) (fun _ => ?_)
  refine lv_aload_n X.x X.b dL_refusesAny_420 rfl (lv_at hl 2 rfl) ?_
  refine lv_bipush (v := 13) X.x X.b dL_refusesAny_421 kb_13 ?_
  refine lv_iload_n X.x X.b dL_refusesAny_423 rfl (lv_at hl 0 rfl) ?_
  refine lv_bipush (v := 9) X.x X.b dL_refusesAny_424 kb_9 ?_
  refine lv_iconst (v := 0) X.x X.b dL_refusesAny_426 ki_0 ?_
  refine o_statX (wr := []) Y Z hl (M_told l hT Δ 13 6 9 0 (rf_53 b) a ws hw) wd_349 wd_350 wd_18 wd_351 ok_L_told rfl (rest := []) rfl (Nat.le_of_ble_eq_true rfl) ⟨Nat.le_of_ble_eq_true rfl, Nat.le_of_ble_eq_true rfl⟩ ⟨Nat.le_of_ble_eq_true rfl, Nat.le_of_ble_eq_true rfl⟩ (c1 := 331) (s1 := 3064) rfl rfl dL_refusesAny_427 (fun rv ws H locs hP Z => ?_)
  obtain ⟨rfl, hw⟩ := hP
  refine W.eq (g2 := F0 m 430 ls [.int (-13)]) rfl ?_
  refine lv_bipush (v := (-13)) X.x X.b dL_refusesAny_430 kb_m13 ?_
  refine lv_icmp_ne (tgt := 458) X.x X.b dL_refusesAny_432 (by decide) (fun h => absurd h (by decide)) (fun _ => ?_)
  refine lv_aload_n X.x X.b dL_refusesAny_435 rfl (lv_at hl 2 rfl) ?_
  refine lv_bipush (v := 13) X.x X.b dL_refusesAny_436 kb_13 ?_
  refine lv_iconst (v := 0) X.x X.b dL_refusesAny_438 ki_0 ?_
  refine lv_iload_n X.x X.b dL_refusesAny_439 rfl (lv_at hl 3 rfl) ?_
  refine lv_if_ne (tgt := 447) X.x X.b dL_refusesAny_440 (by decide) (fun _ => ?_) (fun h => absurd h (by decide))
  refine lv_bipush (v := 7) X.x X.b dL_refusesAny_447 kb_7 ?_
  refine lv_iconst (v := 0) X.x X.b dL_refusesAny_449 ki_0 ?_
  refine o_statX (wr := []) Y Z hl (M_told l hT Δ 13 0 7 0 (rf_54 b) a ws hw) wd_349 wd_350 wd_18 wd_351 ok_L_told rfl (rest := []) rfl (Nat.le_of_ble_eq_true rfl) ⟨Nat.le_of_ble_eq_true rfl, Nat.le_of_ble_eq_true rfl⟩ ⟨Nat.le_of_ble_eq_true rfl, Nat.le_of_ble_eq_true rfl⟩ (c1 := 346) (s1 := 3203) rfl rfl dL_refusesAny_450 (fun rv ws H locs hP Z => ?_)
  obtain ⟨rfl, hw⟩ := hP
  refine W.eq (g2 := F0 m 453 ls [.int (-11)]) rfl ?_
  refine lv_bipush (v := (-11)) X.x X.b dL_refusesAny_453 kb_m11 ?_
  refine lv_icmp_eq (tgt := 460) X.x X.b dL_refusesAny_455 (by decide) (fun _ => ?_) (fun h => absurd h (by decide))
  refine lv_aload_n X.x X.b dL_refusesAny_460 rfl (lv_at hl 2 rfl) ?_
  refine lv_bipush (v := 14) X.x X.b dL_refusesAny_461 kb_14 ?_
  refine lv_iload_n X.x X.b dL_refusesAny_463 rfl (lv_at hl 0 rfl) ?_
  refine lv_bipush (v := 9) X.x X.b dL_refusesAny_464 kb_9 ?_
  refine lv_iconst (v := 0) X.x X.b dL_refusesAny_466 ki_0 ?_
  refine o_statX (wr := []) Y Z hl (M_told l hT Δ 14 6 9 0 (rf_55 b) a ws hw) wd_349 wd_350 wd_18 wd_351 ok_L_told rfl (rest := []) rfl (Nat.le_of_ble_eq_true rfl) ⟨Nat.le_of_ble_eq_true rfl, Nat.le_of_ble_eq_true rfl⟩ ⟨Nat.le_of_ble_eq_true rfl, Nat.le_of_ble_eq_true rfl⟩ (c1 := 361) (s1 := 3342) rfl rfl dL_refusesAny_467 (fun rv ws H locs hP Z => ?_)
  obtain ⟨rfl, hw⟩ := hP
  refine W.eq (g2 := F0 m 470 ls [.int (-13)]) rfl ?_
  refine lv_bipush (v := (-13)) X.x X.b dL_refusesAny_470 kb_m13 ?_
  refine lv_icmp_ne (tgt := 626) X.x X.b dL_refusesAny_472 (by decide) (fun h => absurd h (by decide)) (fun _ => ?_)
  refine lv_aload_n X.x X.b dL_refusesAny_475 rfl (lv_at hl 2 rfl) ?_
  refine lv_bipush (v := 14) X.x X.b dL_refusesAny_476 kb_14 ?_
  refine lv_iconst (v := 5) X.x X.b dL_refusesAny_478 ki_5 ?_
  refine lv_iload_n X.x X.b dL_refusesAny_479 rfl (lv_at hl 3 rfl) ?_
  refine lv_if_ne (tgt := 487) X.x X.b dL_refusesAny_480 (by decide) (fun _ => ?_) (fun h => absurd h (by decide))
  refine lv_iconst (v := 4) X.x X.b dL_refusesAny_487 ki_4 ?_
  refine lv_iconst (v := 0) X.x X.b dL_refusesAny_488 ki_0 ?_
  refine o_statX (wr := []) Y Z hl (M_told l hT Δ 14 5 4 0 (rf_56 b) a ws hw) wd_349 wd_350 wd_18 wd_351 ok_L_told rfl (rest := []) rfl (Nat.le_of_ble_eq_true rfl) ⟨Nat.le_of_ble_eq_true rfl, Nat.le_of_ble_eq_true rfl⟩ ⟨Nat.le_of_ble_eq_true rfl, Nat.le_of_ble_eq_true rfl⟩ (c1 := 376) (s1 := 3481) rfl rfl dL_refusesAny_489 (fun rv ws H locs hP Z => ?_)
  obtain ⟨rfl, hw⟩ := hP
  refine W.eq (g2 := F0 m 492 ls [.int (-11)]) rfl ?_
  refine lv_bipush (v := (-11)) X.x X.b dL_refusesAny_492 kb_m11 ?_
  refine lv_icmp_ne (tgt := 626) X.x X.b dL_refusesAny_494 (by decide) (fun h => absurd h (by decide)) (fun _ => ?_)
  refine lv_aload_n X.x X.b dL_refusesAny_497 rfl (lv_at hl 2 rfl) ?_
  refine lv_bipush (v := 15) X.x X.b dL_refusesAny_498 kb_15 ?_
  refine lv_iload_n X.x X.b dL_refusesAny_500 rfl (lv_at hl 3 rfl) ?_
  refine lv_if_ne (tgt := 508) X.x X.b dL_refusesAny_501 (by decide) (fun _ => ?_) (fun h => absurd h (by decide))
  refine lv_bipush (v := 7) X.x X.b dL_refusesAny_508 kb_7 ?_
  refine lv_iconst (v := 0) X.x X.b dL_refusesAny_510 ki_0 ?_
  refine lv_iconst (v := 0) X.x X.b dL_refusesAny_511 ki_0 ?_
  refine o_statX (wr := []) Y Z hl (M_told l hT Δ 15 7 0 0 (rf_57 b) a ws hw) wd_349 wd_350 wd_18 wd_351 ok_L_told rfl (rest := []) rfl (Nat.le_of_ble_eq_true rfl) ⟨Nat.le_of_ble_eq_true rfl, Nat.le_of_ble_eq_true rfl⟩ ⟨Nat.le_of_ble_eq_true rfl, Nat.le_of_ble_eq_true rfl⟩ (c1 := 391) (s1 := 3620) rfl rfl dL_refusesAny_512 (fun rv ws H locs hP Z => ?_)
  obtain ⟨rfl, hw⟩ := hP
  refine W.eq (g2 := F0 m 515 ls [.int (-11)]) rfl ?_
  refine lv_bipush (v := (-11)) X.x X.b dL_refusesAny_515 kb_m11 ?_
  refine lv_icmp_ne (tgt := 626) X.x X.b dL_refusesAny_517 (by decide) (fun h => absurd h (by decide)) (fun _ => ?_)
  refine lv_aload_n X.x X.b dL_refusesAny_520 rfl (lv_at hl 2 rfl) ?_
  refine lv_bipush (v := 16) X.x X.b dL_refusesAny_521 kb_16 ?_
  refine lv_iload_n X.x X.b dL_refusesAny_523 rfl (lv_at hl 3 rfl) ?_
  refine lv_if_ne (tgt := 531) X.x X.b dL_refusesAny_524 (by decide) (fun _ => ?_) (fun h => absurd h (by decide))
  refine lv_iconst (v := 2) X.x X.b dL_refusesAny_531 ki_2 ?_
  refine lv_iconst (v := 0) X.x X.b dL_refusesAny_532 ki_0 ?_
  refine lv_iconst (v := 0) X.x X.b dL_refusesAny_533 ki_0 ?_
  refine o_statX (wr := []) Y Z hl (M_told l hT Δ 16 2 0 0 (rf_58 b) a ws hw) wd_349 wd_350 wd_18 wd_351 ok_L_told rfl (rest := []) rfl (Nat.le_of_ble_eq_true rfl) ⟨Nat.le_of_ble_eq_true rfl, Nat.le_of_ble_eq_true rfl⟩ ⟨Nat.le_of_ble_eq_true rfl, Nat.le_of_ble_eq_true rfl⟩ (c1 := 406) (s1 := 3759) rfl rfl dL_refusesAny_534 (fun rv ws H locs hP Z => ?_)
  obtain ⟨rfl, hw⟩ := hP
  refine W.eq (g2 := F0 m 537 ls [.int (-13)]) rfl ?_
  refine lv_bipush (v := (-13)) X.x X.b dL_refusesAny_537 kb_m13 ?_
  refine lv_icmp_ne (tgt := 626) X.x X.b dL_refusesAny_539 (by decide) (fun h => absurd h (by decide)) (fun _ => ?_)
  refine lv_aload_n X.x X.b dL_refusesAny_542 rfl (lv_at hl 2 rfl) ?_
  refine lv_bipush (v := 17) X.x X.b dL_refusesAny_543 kb_17 ?_
  refine lv_iload_n X.x X.b dL_refusesAny_545 rfl (lv_at hl 0 rfl) ?_
  refine lv_iconst (v := 0) X.x X.b dL_refusesAny_546 ki_0 ?_
  refine lv_bipush (v := 9) X.x X.b dL_refusesAny_547 kb_9 ?_
  refine o_statX (wr := []) Y Z hl (M_told l hT Δ 17 6 0 9 (rf_59 b) a ws hw) wd_349 wd_350 wd_18 wd_351 ok_L_told rfl (rest := []) rfl (Nat.le_of_ble_eq_true rfl) ⟨Nat.le_of_ble_eq_true rfl, Nat.le_of_ble_eq_true rfl⟩ ⟨Nat.le_of_ble_eq_true rfl, Nat.le_of_ble_eq_true rfl⟩ (c1 := 421) (s1 := 3898) rfl rfl dL_refusesAny_549 (fun rv ws H locs hP Z => ?_)
  obtain ⟨rfl, hw⟩ := hP
  refine W.eq (g2 := F0 m 552 ls [.int (-13)]) rfl ?_
  refine lv_bipush (v := (-13)) X.x X.b dL_refusesAny_552 kb_m13 ?_
  refine lv_icmp_ne (tgt := 626) X.x X.b dL_refusesAny_554 (by decide) (fun h => absurd h (by decide)) (fun _ => ?_)
  refine lv_aload_n X.x X.b dL_refusesAny_557 rfl (lv_at hl 2 rfl) ?_
  refine lv_bipush (v := 17) X.x X.b dL_refusesAny_558 kb_17 ?_
  refine lv_iconst (v := 0) X.x X.b dL_refusesAny_560 ki_0 ?_
  refine lv_iload_n X.x X.b dL_refusesAny_561 rfl (lv_at hl 1 rfl) ?_
  refine lv_bipush (v := 9) X.x X.b dL_refusesAny_562 kb_9 ?_
  refine o_statX (wr := []) Y Z hl (M_told l hT Δ 17 0 ((tF b.1).2.2.1) 9 (rf_60 b) a ws hw) wd_349 wd_350 wd_18 wd_351 ok_L_told rfl (rest := []) rfl (Nat.le_of_ble_eq_true rfl) ⟨Nat.le_of_ble_eq_true rfl, Nat.le_of_ble_eq_true rfl⟩ ⟨Nat.le_of_ble_eq_true rfl, Nat.le_of_ble_eq_true rfl⟩ (c1 := 436) (s1 := 4037) rfl rfl dL_refusesAny_564 (fun rv ws H locs hP Z => ?_)
  obtain ⟨rfl, hw⟩ := hP
  refine W.eq (g2 := F0 m 567 ls [.int (-13)]) rfl ?_
  refine lv_bipush (v := (-13)) X.x X.b dL_refusesAny_567 kb_m13 ?_
  refine lv_icmp_ne (tgt := 626) X.x X.b dL_refusesAny_569 (by decide) (fun h => absurd h (by decide)) (fun _ => ?_)
  refine lv_aload_n X.x X.b dL_refusesAny_572 rfl (lv_at hl 2 rfl) ?_
  refine lv_bipush (v := 17) X.x X.b dL_refusesAny_573 kb_17 ?_
  refine lv_iconst (v := 0) X.x X.b dL_refusesAny_575 ki_0 ?_
  refine lv_iconst (v := 0) X.x X.b dL_refusesAny_576 ki_0 ?_
  refine lv_iload_n X.x X.b dL_refusesAny_577 rfl (lv_at hl 3 rfl) ?_
  refine lv_if_ne (tgt := 585) X.x X.b dL_refusesAny_578 (by decide) (fun _ => ?_) (fun h => absurd h (by decide))
  refine lv_iconst (v := 5) X.x X.b dL_refusesAny_585 ki_5 ?_
  refine o_statX (wr := []) Y Z hl (M_told l hT Δ 17 0 0 5 (rf_61 b hs) a ws hw) wd_349 wd_350 wd_18 wd_351 ok_L_told rfl (rest := []) rfl (Nat.le_of_ble_eq_true rfl) ⟨Nat.le_of_ble_eq_true rfl, Nat.le_of_ble_eq_true rfl⟩ ⟨Nat.le_of_ble_eq_true rfl, Nat.le_of_ble_eq_true rfl⟩ (c1 := 451) (s1 := 4176) rfl rfl dL_refusesAny_586 (fun rv ws H locs hP Z => ?_)
  obtain ⟨rfl, hw⟩ := hP
  refine W.eq (g2 := F0 m 589 ls [.int (-11)]) rfl ?_
  refine lv_bipush (v := (-11)) X.x X.b dL_refusesAny_589 kb_m11 ?_
  refine lv_icmp_ne (tgt := 626) X.x X.b dL_refusesAny_591 (by decide) (fun h => absurd h (by decide)) (fun _ => ?_)
  refine lv_aload_n X.x X.b dL_refusesAny_594 rfl (lv_at hl 2 rfl) ?_
  refine lv_bipush (v := 18) X.x X.b dL_refusesAny_595 kb_18 ?_
  refine lv_iload_n X.x X.b dL_refusesAny_597 rfl (lv_at hl 0 rfl) ?_
  refine lv_iconst (v := 0) X.x X.b dL_refusesAny_598 ki_0 ?_
  refine lv_iconst (v := 0) X.x X.b dL_refusesAny_599 ki_0 ?_
  refine o_statX (wr := []) Y Z hl (M_told l hT Δ 18 6 0 0 (rf_62 b) a ws hw) wd_349 wd_350 wd_18 wd_351 ok_L_told rfl (rest := []) rfl (Nat.le_of_ble_eq_true rfl) ⟨Nat.le_of_ble_eq_true rfl, Nat.le_of_ble_eq_true rfl⟩ ⟨Nat.le_of_ble_eq_true rfl, Nat.le_of_ble_eq_true rfl⟩ (c1 := 466) (s1 := 4315) rfl rfl dL_refusesAny_600 (fun rv ws H locs hP Z => ?_)
  obtain ⟨rfl, hw⟩ := hP
  refine W.eq (g2 := F0 m 603 ls [.int (-13)]) rfl ?_
  refine lv_bipush (v := (-13)) X.x X.b dL_refusesAny_603 kb_m13 ?_
  refine lv_icmp_ne (tgt := 626) X.x X.b dL_refusesAny_605 (by decide) (fun h => absurd h (by decide)) (fun _ => ?_)
  refine lv_aload_n X.x X.b dL_refusesAny_608 rfl (lv_at hl 2 rfl) ?_
  refine lv_bipush (v := 19) X.x X.b dL_refusesAny_609 kb_19 ?_
  refine lv_iload_n X.x X.b dL_refusesAny_611 rfl (lv_at hl 0 rfl) ?_
  refine lv_iconst (v := 0) X.x X.b dL_refusesAny_612 ki_0 ?_
  refine lv_iconst (v := 0) X.x X.b dL_refusesAny_613 ki_0 ?_
  refine o_statX (wr := []) Y Z hl (M_told l hT Δ 19 6 0 0 (rf_63 b) a ws hw) wd_349 wd_350 wd_18 wd_351 ok_L_told rfl (rest := []) rfl (Nat.le_of_ble_eq_true rfl) ⟨Nat.le_of_ble_eq_true rfl, Nat.le_of_ble_eq_true rfl⟩ ⟨Nat.le_of_ble_eq_true rfl, Nat.le_of_ble_eq_true rfl⟩ (c1 := 481) (s1 := 4454) rfl rfl dL_refusesAny_614 (fun rv ws H locs hP Z => ?_)
  obtain ⟨rfl, hw⟩ := hP
  refine W.eq (g2 := F0 m 617 ls [.int (-13)]) rfl ?_
  refine lv_bipush (v := (-13)) X.x X.b dL_refusesAny_617 kb_m13 ?_
  refine lv_icmp_ne (tgt := 626) X.x X.b dL_refusesAny_619 (by decide) (fun h => absurd h (by decide)) (fun _ => ?_)
  refine lv_iconst (v := 1) X.x X.b dL_refusesAny_622 ki_1 ?_
  refine lv_goto (tgt := 627) X.x X.b dL_refusesAny_623 (by decide) ?_
  rw [List.append_nil] at Z
  exact x_zret X Z (Or.inr rfl) ⟨rfl, hw⟩ (Nat.le_of_ble_eq_true rfl) (Nat.le_of_ble_eq_true rfl) dL_refusesAny_627
set_option maxRecDepth 100000 in
set_option maxHeartbeats 4000000 in
theorem M_refused (l : Launch) (hT : l.stackTraces = false) (Δ : zE) {b : zOb} (hs : 0 < (tF b.1).2.2.1) {v : Int64} (hd : fX6_digest (tF b.1).1 (tF b.1).2.1 (tF b.1).2.2.1 (tF b.1).2.2.2.1 (tF b.1).2.2.2.2.1 (tF b.1).2.2.2.2.2.1 (tF b.1).2.2.2.2.2.2.1 (tF b.1).2.2.2.2.2.2.2.1 (tF b.1).2.2.2.2.2.2.2.2.1 (tF b.1).2.2.2.2.2.2.2.2.2.1 (tF b.1).2.2.2.2.2.2.2.2.2.2.1 (tF b.1).2.2.2.2.2.2.2.2.2.2.2.1 (tF b.1).2.2.2.2.2.2.2.2.2.2.2.2 (nI b.2.1.length) b.2.2.1 (tf b.2.2.2) = some v) (a : Nat) (ws : va_W) (hw : wOb Δ a b ws) : zMX l Δ yL_refused (.code yL_refused cL_refused 3 (some .boolean)) 11 213 962 8908 [.ref a] ws (fun rv w => rv = some (.int 1) ∧ wOb Δ a b w) (fun _ _ => False) := by
  refine x_start hT (by decide +kernel) (Nat.le_of_ble_eq_true rfl) ?_
  intro p e s m args below meth c A ls Y htab Z hl
  have X := Y.1
  have hl : lv_has ls 3 [(0, .ref a)] := hl
  rw [← List.append_nil ws] at Z
  refine lv_aload_n X.x X.b dL_refused_0 rfl (lv_at hl 0 rfl) ?_
  refine o_callW (v := .long v) Y Z hl hw (C_digest l hT Δ hd a ws hw) wd_677 wd_678 wd_679 wd_19 wd_680 ok_X6_digest rfl (rest := []) rfl (Nat.le_of_ble_eq_true rfl) ⟨Nat.le_of_ble_eq_true rfl, Nat.le_of_ble_eq_true rfl⟩ ⟨Nat.le_of_ble_eq_true rfl, Nat.le_of_ble_eq_true rfl⟩ rfl rfl dL_refused_1 (fun ws H locs hw Z => ?_)
  refine lv_lstore_n (lv' := [(1, .long v), (0, .ref a)]) X.x X.b dL_refused_4 rfl hl (Nat.le_of_ble_eq_true rfl) rfl (fun ls hl => ?_)
  refine lv_aload_n X.x X.b dL_refused_5 rfl (lv_at hl 1 rfl) ?_
  refine lv_iconst (v := 0) X.x X.b dL_refused_6 ki_0 ?_
  refine o_stat Y Z hl (M_refusesAny_0 l hT Δ hs a ws hw) wd_716 wd_717 wd_18 wd_718 ok_L_refusesAny rfl (rest := []) rfl (Nat.le_of_ble_eq_true rfl) ⟨Nat.le_of_ble_eq_true rfl, Nat.le_of_ble_eq_true rfl⟩ ⟨Nat.le_of_ble_eq_true rfl, Nat.le_of_ble_eq_true rfl⟩ (c1 := 481) (s1 := 4454) rfl rfl dL_refused_7 (fun rv ws H locs hP Z => ?_)
  obtain ⟨rfl, hw⟩ := hP
  refine W.eq (g2 := F0 m 10 ls [.int 1]) rfl ?_
  refine lv_if_eq (tgt := 34) X.x X.b dL_refused_10 (by decide) (fun h => absurd h (by decide)) (fun _ => ?_)
  refine lv_aload_n X.x X.b dL_refused_13 rfl (lv_at hl 1 rfl) ?_
  refine lv_iconst (v := 1) X.x X.b dL_refused_14 ki_1 ?_
  refine o_stat Y Z hl (M_refusesAny_1 l hT Δ hs a ws hw) wd_716 wd_717 wd_18 wd_718 ok_L_refusesAny rfl (rest := []) rfl (Nat.le_of_ble_eq_true rfl) ⟨Nat.le_of_ble_eq_true rfl, Nat.le_of_ble_eq_true rfl⟩ ⟨Nat.le_of_ble_eq_true rfl, Nat.le_of_ble_eq_true rfl⟩ (c1 := 962) (s1 := 8908) rfl rfl dL_refused_15 (fun rv ws H locs hP Z => ?_)
  obtain ⟨rfl, hw⟩ := hP
  refine W.eq (g2 := F0 m 18 ls [.int 1]) rfl ?_
  refine lv_if_eq (tgt := 34) X.x X.b dL_refused_18 (by decide) (fun h => absurd h (by decide)) (fun _ => ?_)
  refine lv_aload_n X.x X.b dL_refused_21 rfl (lv_at hl 1 rfl) ?_
  refine o_callW (v := .long v) Y Z hl hw (C_digest l hT Δ hd a ws hw) wd_677 wd_678 wd_679 wd_19 wd_680 ok_X6_digest rfl (rest := []) rfl (Nat.le_of_ble_eq_true rfl) ⟨Nat.le_of_ble_eq_true rfl, Nat.le_of_ble_eq_true rfl⟩ ⟨Nat.le_of_ble_eq_true rfl, Nat.le_of_ble_eq_true rfl⟩ rfl rfl dL_refused_22 (fun ws H locs hw Z => ?_)
  refine lv_lload_n X.x X.b dL_refused_25 rfl (lv_at hl 0 rfl) ?_
  refine W.lcmp X.x X.b dL_refused_26 ?_
  rw [lg_cmp_self]
  refine lv_if_ne (tgt := 34) X.x X.b dL_refused_27 (by decide) (fun h => absurd rfl h) (fun _ => ?_)
  refine lv_iconst (v := 1) X.x X.b dL_refused_30 ki_1 ?_
  refine lv_goto (tgt := 35) X.x X.b dL_refused_31 (by decide) ?_
  rw [List.append_nil] at Z
  exact x_zret X Z (Or.inr rfl) ⟨rfl, hw⟩ (Nat.le_of_ble_eq_true rfl) (Nat.le_of_ble_eq_true rfl) dL_refused_35
