/-! PURE: which of the missed parts are told -/
def gT (m : Int32) (i : Nat) (x : Int32 × Nat) : Int32 × Nat := if x.2 = 0 then x else if zb m i = true then (x.1 ||| zbit i, x.2 - 1) else x
theorem p_told_13 (ms : Nat → Int32) (m : Int32) : ∀ (p k : Nat) (f : Int32) (L : Nat), p < k → p ≤ 20 → L < 100 → fX7_told_13 k ms m f (nI L) (nI p - 1) = some (zdn (gT m) p (f, L)).1
  | 0, k + 1, f, L, _, _, _ => by
    unfold fX7_told_13
    rw [if_pos nI_neg1']
    rfl
  | p + 1, k + 1, f, L, h, h20, hL => by
    unfold fX7_told_13
    rw [nI_pred, if_neg (nI_pos (by omega)), zb_bit m (by omega), nI_dn, zor_0, Int32.sub_zero]
    unfold zdn
    by_cases h0 : L = 0
    · have e : gT m p (f, L) = (f, L) := if_pos h0
      rw [e, if_pos (by rw [h0]; decide)]
      exact p_told_13 ms m p k f L (by omega) (by omega) hL
    · rw [if_neg (nI_nle (by omega) (by omega))]
      by_cases hb : zb m p = true
      · have e : gT m p (f, L) = (f ||| zbit p, L - 1) := (if_neg h0).trans (if_pos hb)
        obtain ⟨L', rfl⟩ : ∃ L', L = L' + 1 := ⟨L - 1, by omega⟩
        rw [e, if_pos hb, if_pos rfl, nI_pred]
        exact p_told_13 ms m p k _ L' (by omega) (by omega) (by omega)
      · have e : gT m p (f, L) = (f, L) := (if_neg h0).trans (if_neg hb)
        rw [e, if_neg hb, if_neg (by decide)]
        exact p_told_13 ms m p k f L (by omega) (by omega) hL
/-- of m the L greatest -/
def sT (m : Int32) (L : Nat) : Int32 := (zdn (gT m) 20 (0, L)).1
theorem p_told (ms : Nat → Int32) (m : Int32) {L : Nat} (hL : L < 100) (h : ms 1 = nI L) : fX7_told ms m = some (sT m L) := by
  have h1 := p_told_13 ms m 20 zfuel 0 L (by decide) (by omega) hL
  have e : ms (1 : Int32).toNatClampNeg = nI L := h
  have e2 : nI 20 - 1 = 19 := by decide
  unfold fX7_told
  rw [e, ← e2]
  exact h1
theorem sT_bit (m : Int32) (L : Nat) {q : Nat} (hq : q < 32) : zb (sT m L) q = (decide (q < 20) && (zb m q && decide (zcnt m (19 - q) (q + 1) < L))) := by
  have key := zdn_inv (g := gT m) (fun i x => x.2 = L - zcnt m (20 - i) i ∧ zb x.1 q = (decide (i ≤ q) && (decide (q < 20) && (zb m q && decide (zcnt m (19 - q) (q + 1) < L))))) 20 (0, L) ⟨by rfl, by
    rw [zb_0]
    by_cases h : q < 20
    · have h2 : ¬ 20 ≤ q := by omega
      rw [decide_eq_false h2, Bool.false_and]
    · rw [decide_eq_false h, Bool.false_and, Bool.and_false]⟩ (fun i a hi h1 => by
    obtain ⟨ha, hb⟩ := h1
    have ec : zcnt m (20 - i) i = (if zb m i = true then 1 else 0) + zcnt m (19 - i) (i + 1) := by
      rw [show 20 - i = (19 - i) + 1 by omega, zcnt_s]
    have ec2 : zcnt m (20 - (i + 1)) (i + 1) = zcnt m (19 - i) (i + 1) := by rw [show 20 - (i + 1) = 19 - i by omega]
    rw [ec2] at ha
    have hstep : ∀ b : Bool, (b = (decide (i + 1 ≤ q) && (decide (q < 20) && (zb m q && decide (zcnt m (19 - q) (q + 1) < L))))) → (q = i → (zb m i && decide (zcnt m (19 - i) (i + 1) < L)) = false) → b = (decide (i ≤ q) && (decide (q < 20) && (zb m q && decide (zcnt m (19 - q) (q + 1) < L)))) := by
      intro b h2 h3
      rw [h2]
      by_cases he : q = i
      · subst he
        rw [h3 rfl]
        simp
      · by_cases hl : i ≤ q
        · have h4 : i + 1 ≤ q := by omega
          rw [decide_eq_true hl, decide_eq_true h4]
        · have h4 : ¬ i + 1 ≤ q := by omega
          rw [decide_eq_false hl, decide_eq_false h4]
    unfold gT
    by_cases h0 : a.2 = 0
    · rw [if_pos h0]
      refine ⟨by rw [ec]; omega, hstep _ hb (fun he => ?_)⟩
      have h4 : ¬ zcnt m (19 - i) (i + 1) < L := by omega
      rw [decide_eq_false h4, Bool.and_false]
    · rw [if_neg h0]
      by_cases hz : zb m i = true
      · rw [if_pos hz]
        rw [if_pos hz] at ec
        refine ⟨by rw [ec]; omega, ?_⟩
        show zb (a.1 ||| zbit i) q = _
        rw [zb_or, hb, zb_zbit (by omega) hq]
        by_cases he : q = i
        · subst he
          have h4 : zcnt m (19 - q) (q + 1) < L := by omega
          have h5 : q < 20 := by omega
          simp [h4, h5, hz]
        · by_cases hl : i ≤ q
          · have h4 : i + 1 ≤ q := by omega
            rw [decide_eq_true hl, decide_eq_true h4, decide_eq_false he, Bool.or_false]
          · have h4 : ¬ i + 1 ≤ q := by omega
            rw [decide_eq_false hl, decide_eq_false h4, decide_eq_false he]
            rfl
      · rw [if_neg hz]
        rw [if_neg hz] at ec
        refine ⟨by rw [ec, Nat.zero_add]; exact ha, hstep _ hb (fun he => ?_)⟩
        have h5 : zb m i = false := by simpa using hz
        rw [h5, Bool.false_and])
  have k2 := key.2
  rw [decide_eq_true (Nat.zero_le q), Bool.true_and] at k2
  exact k2
