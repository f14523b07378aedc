/-! PURE: the class's told parts are the reference's -/
theorem zcnt_end (m : Int32) (d j : Nat) : zcnt m (d + 1) j = zcnt m d j + if zb m (j + d) = true then 1 else 0 := by
  rw [zcnt_add m d 1 j, zcnt_s]
  rfl
theorem zcnt_mono (m : Int32) {a b : Nat} (j : Nat) (h : a ≤ b) : zcnt m a j ≤ zcnt m b j := by
  obtain ⟨c, rfl⟩ : ∃ c, b = a + c := ⟨b - a, by omega⟩
  rw [zcnt_add]
  omega
/-- the bit with i bits below it -/
theorem zcnt_at (m : Int32) (i : Nat) : ∀ (d : Nat), i < zcnt m d 0 → ∃ t, t < d ∧ zb m t = true ∧ zcnt m t 0 = i
  | 0, h => by
    have h1 : zcnt m 0 0 = 0 := rfl
    omega
  | d + 1, h => by
    rw [zcnt_end, Nat.zero_add] at h
    by_cases h2 : i < zcnt m d 0
    · obtain ⟨t, h3, h4, h5⟩ := zcnt_at m i d h2
      exact ⟨t, by omega, h4, h5⟩
    · by_cases hb : zb m d = true
      · rw [if_pos hb] at h
        exact ⟨d, by omega, hb, by omega⟩
      · rw [if_neg hb] at h
        omega
theorem p_toldParts_17 (sets : Nat → Int32) {o : Nat} (ho : o < 100) : ∀ (d j k : Nat) (v : Int32), j + d = o → d < k → fX3_toldParts_17 k sets v (nI o) (nI j) = some (zup (fun _ v => v &&& (v - 1)) d j v)
  | 0, j, k + 1, v, hj, _ => by
    unfold fX3_toldParts_17
    rw [if_pos (nI_le (by omega) (by omega))]
    rfl
  | d + 1, j, k + 1, v, hj, hk => by
    unfold fX3_toldParts_17
    rw [if_neg (nI_ge (by omega) (by omega)), nI_1]
    exact p_toldParts_17 sets ho d (j + 1) k _ (by omega) (by omega)
theorem clr_bit (m : Int32) (o : Nat) (ho : o ≤ zpop m) {q : Nat} (hq : q < 32) : zb (zup (fun _ v => v &&& (v - 1)) o 0 m) q = (zb m q && decide (o ≤ zcnt m q 0)) := by
  have key := zup_inv (g := fun _ (v : Int32) => v &&& (v - 1)) (fun i v => ∀ q, q < 32 → zb v q = (zb m q && decide (i ≤ zcnt m q 0))) o 0 m (fun q _ => by rw [decide_eq_true (Nat.zero_le _), Bool.and_true]) (fun i v _ hi h1 q hq => by
    have hlt : i < zcnt m 32 0 := by
      rw [← zpop_cnt]
      omega
    obtain ⟨t, ht, hbt, hct⟩ := zcnt_at m i 32 hlt
    have hv : zb v t = true := by rw [h1 t ht, hbt, hct, decide_eq_true (Nat.le_refl i)]; rfl
    have hlow : ∀ q, q < t → zb v q = false := by
      intro q h2
      rw [h1 q (by omega)]
      by_cases hb : zb m q = true
      · have h3 := zcnt_end m q 0
        rw [Nat.zero_add, if_pos hb] at h3
        have h4 := zcnt_mono m (a := q + 1) (b := t) 0 (by omega)
        have h5 : ¬ i ≤ zcnt m q 0 := by omega
        rw [decide_eq_false h5, Bool.and_false]
      · have h3 : zb m q = false := by simpa using hb
        rw [h3, Bool.false_and]
    show zb (v &&& (v - 1)) q = _
    rw [zb_clr hlow hv, h1 q hq]
    by_cases he : q = t
    · subst he
      have h5 : ¬ i + 1 ≤ zcnt m q 0 := by omega
      rw [decide_eq_true rfl, decide_eq_false h5]
      simp
    · rw [decide_eq_false he, Bool.not_false, Bool.and_true]
      by_cases hb : zb m q = true
      · by_cases hl : q < t
        · have h3 := hlow q hl
          rw [h1 q hq, hb, Bool.true_and] at h3
          have h4 : ¬ i ≤ zcnt m q 0 := of_decide_eq_false h3
          have h5 : ¬ i + 1 ≤ zcnt m q 0 := by omega
          rw [decide_eq_false h4, decide_eq_false h5]
        · have h3 := zcnt_end m t 0
          rw [Nat.zero_add, if_pos hbt] at h3
          have h4 := zcnt_mono m (a := t + 1) (b := q) 0 (by omega)
          have h5 : i + 1 ≤ zcnt m q 0 := by omega
          have h6 : i ≤ zcnt m q 0 := by omega
          rw [decide_eq_true h5, decide_eq_true h6]
      · have h3 : zb m q = false := by simpa using hb
        rw [h3, Bool.false_and, Bool.false_and])
  rw [Nat.zero_add] at key
  exact key q hq
/-- below, itself and above -/
theorem zcnt_parts {m : Int32} (h : zl20 m) {q : Nat} (hq : q < 20) (hb : zb m q = true) : zcnt m q 0 + 1 + zcnt m (19 - q) (q + 1) = zpop m := by
  rw [zpop_20 h, show 20 = (q + 1) + (19 - q) by omega, zcnt_add, zcnt_end, Nat.zero_add, Nat.zero_add, if_pos hb]
theorem p_toldParts {m : Int32} (sets : Nat → Int32) {L : Nat} (hm : zl20 m) (hL : L < 100) (h : sets 0 = nI L) : fX3_toldParts sets m = some (sT m L) := by
  unfold fX3_toldParts
  have e : sets (0 : Int32).toNatClampNeg = nI L := h
  rw [p_bitCount, Option.bind_some, e]
  have hp := zpop_le m
  by_cases hc : zpop m ≤ L
  · have e1 : nI (zpop m) - nI L ≤ 0 := by
      rw [Int32.le_iff_toInt_le, Int32.toInt_sub, nI_toInt (by omega), nI_toInt (by omega)]
      rw [Int.bmod_eq_of_le (by omega) (by omega)]
      have : (0 : Int32).toInt = 0 := rfl
      omega
    rw [show zfuel = 4999 + 1 from rfl]
    unfold fX3_toldParts_17
    rw [if_pos e1]
    refine congrArg some (zb_ext fun q hq => ?_)
    rw [sT_bit m L hq]
    by_cases h20 : q < 20
    · by_cases hb : zb m q = true
      · have h2 := zcnt_parts hm h20 hb
        have h3 : zcnt m (19 - q) (q + 1) < L := by omega
        rw [hb, decide_eq_true h20, decide_eq_true h3]
        rfl
      · have h3 : zb m q = false := by simpa using hb
        rw [h3, Bool.false_and, Bool.and_false]
    · rw [hm q (by omega) hq, Bool.false_and, Bool.and_false]
  · obtain ⟨o, ho⟩ : ∃ o, zpop m = L + o := ⟨zpop m - L, by omega⟩
    have e1 : nI (zpop m) - nI L = nI o := by
      rw [ho, ← nI_add, Int32.add_comm, Int32.add_sub_cancel]
    rw [e1]
    have h1 := p_toldParts_17 sets (o := o) (by omega) o 0 zfuel m (by omega) (by have : zfuel = 5000 := rfl; omega)
    refine h1.trans (congrArg some (zb_ext fun q hq => ?_))
    rw [sT_bit m L hq, clr_bit m o (by omega) hq]
    by_cases h20 : q < 20
    · by_cases hb : zb m q = true
      · have h2 := zcnt_parts hm h20 hb
        rw [hb, decide_eq_true h20, Bool.true_and, Bool.true_and, Bool.true_and]
        have h3 : o ≤ zcnt m q 0 ↔ zcnt m (19 - q) (q + 1) < L := by omega
        exact decide_eq_decide.mpr h3
      · have h3 : zb m q = false := by simpa using hb
        rw [h3, Bool.false_and, Bool.false_and, Bool.and_false]
    · rw [hm q (by omega) hq, Bool.false_and, Bool.false_and, Bool.and_false]
