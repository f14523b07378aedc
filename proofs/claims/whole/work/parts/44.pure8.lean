/-! PURE: words of a recap -/
def gW (wd : Nat → Int32) (un m : Int32) (i : Nat) (s : Int32) : Int32 := if zb m i = true then s + (wd i + un - 1) / un else s
/-- the words of the lines of m, of n parts -/
def sW (wd : Nat → Int32) (un m : Int32) (n : Nat) : Int32 := zup (gW wd un m) n 0 0
theorem p_shortened (sets : Nat → Int32) {c : Nat} (hc : 1 ≤ c) (hc2 : c < 100) (h : sets 1 = nI c) (w : Int32) : fX3_shortened sets w = some ((w + nI c - 1) / nI c) := by
  unfold fX3_shortened
  have e : sets (1 : Int32).toNatClampNeg = nI c := h
  have h1 : (1 : Int32) ≤ nI c := nI_le (a := 1) hc (by omega)
  rw [e, if_pos h1, if_neg (nI_ne0 (by omega) (by omega))]
theorem p_lineWords_4 (wd sets : Nat → Int32) (m : Int32) {c n : Nat} (hc : 1 ≤ c) (hc2 : c < 100) (h : sets 1 = nI c) (hn : n ≤ 20) : ∀ (d j k : Nat) (s : Int32), j + d = n → d < k → fX3_lineWords_4 k (nI n) wd sets m s (nI j) = some (zup (gW wd (nI c) m) d j s)
  | 0, j, k + 1, s, hj, _ => by
    unfold fX3_lineWords_4
    rw [if_pos (nI_le (by omega) (by omega))]
    rfl
  | d + 1, j, k + 1, s, hj, hk => by
    unfold fX3_lineWords_4
    rw [if_neg (nI_ge (by omega) (by omega)), zb_isIn m (by omega), Option.bind_some, if_pos (zin_nI (by omega) (by decide)), nI_clamp (by omega), p_shortened sets hc hc2 h, Option.bind_some, nI_1]
    unfold zup
    by_cases hb : zb m j = true
    · have e : gW wd (nI c) m j s = s + (wd j + nI c - 1) / nI c := if_pos hb
      rw [e, if_pos hb, if_neg (by decide)]
      exact p_lineWords_4 wd sets m hc hc2 h hn d (j + 1) k _ (by omega) (by omega)
    · have e : gW wd (nI c) m j s = s := if_neg hb
      rw [e, if_neg hb, if_pos rfl]
      exact p_lineWords_4 wd sets m hc hc2 h hn d (j + 1) k _ (by omega) (by omega)
theorem p_lineWords (wd sets : Nat → Int32) (m : Int32) {c n : Nat} (hc : 1 ≤ c) (hc2 : c < 100) (h : sets 1 = nI c) (hn : n ≤ 20) : fX3_lineWords (nI n) wd sets m = some (sW wd (nI c) m n) :=
  p_lineWords_4 wd sets m hc hc2 h hn n 0 zfuel 0 (by omega) (Nat.lt_of_le_of_lt hn (by decide))
/-- the reference's words -/
def mwd (ms : Nat → Int32) (q : Nat) : Int32 := ms (5 + 3 * q + 2)
theorem p_of2 (ms : Nat → Int32) {p : Nat} (h : p < 20) : fX7_of ms (nI p) 2 = some (mwd ms p) := p_of ms (p := p) (w := 2) (by omega)
theorem p_wordsOf_12 (ms : Nat → Int32) (m : Int32) {c n : Nat} (hc : 1 ≤ c) (hc2 : c < 100) (hn : ms 0 = nI n) (hn20 : n ≤ 20) : ∀ (d j k : Nat) (s : Int32), j + d = n → d < k → fX7_wordsOf_12 k ms m s (nI c) (nI j) = some (zup (gW (mwd ms) (nI c) m) d j s)
  | 0, j, k + 1, s, hj, _ => by
    unfold fX7_wordsOf_12
    have e : ms (0 : Int32).toNatClampNeg = nI n := hn
    rw [e, if_pos (nI_le (by omega) (by omega))]
    rfl
  | d + 1, j, k + 1, s, hj, hk => by
    unfold fX7_wordsOf_12
    have e : ms (0 : Int32).toNatClampNeg = nI n := hn
    rw [e, if_neg (nI_ge (by omega) (by omega)), zb_bit m (by omega), p_of2 ms (by omega), Option.bind_some, if_neg (nI_ne0 (by omega) (by omega)), nI_1, Int32.add_zero]
    unfold zup
    by_cases hb : zb m j = true
    · have e : gW (mwd ms) (nI c) m j s = s + (mwd ms j + nI c - 1) / nI c := if_pos hb
      rw [e, if_pos hb, if_pos rfl]
      exact p_wordsOf_12 ms m hc hc2 hn hn20 d (j + 1) k _ (by omega) (by omega)
    · have e : gW (mwd ms) (nI c) m j s = s := if_neg hb
      rw [e, if_neg hb, if_neg (by decide)]
      exact p_wordsOf_12 ms m hc hc2 hn hn20 d (j + 1) k _ (by omega) (by omega)
theorem p_wordsOf (ms : Nat → Int32) (m : Int32) {c n : Nat} (hc : 1 ≤ c) (hc2 : c < 100) (h : ms 2 = nI c) (hn : ms 0 = nI n) (hn20 : n ≤ 20) : fX7_wordsOf ms m = some (sW (mwd ms) (nI c) m n) := by
  have e : ms (2 : Int32).toNatClampNeg = nI c := h
  unfold fX7_wordsOf
  rw [e]
  exact p_wordsOf_12 ms m hc hc2 hn hn20 n 0 zfuel 0 (by omega) (Nat.lt_of_le_of_lt hn20 (by decide))
theorem sW_congr {wd wd' : Nat → Int32} (un m : Int32) {n : Nat} (h : ∀ q, q < n → wd q = wd' q) : sW wd un m n = sW wd' un m n :=
  zup_congr n 0 0 (fun i a _ hi => by unfold gW; rw [h i (by omega)])
/-- all that a part needs has lower numbers -/
theorem sA_low (nd : Nat → Int32) (am : Int32) {p q : Nat} (hp : p < 32) (hq : q < 32) (hl : ∀ i, i ≤ p → zb (nd i) q = true → q < i) (h : zb (sA nd am p) q = true) : q < p := by
  have hstart : zb (nd p &&& am) q = true → q < p := fun h0 => by
    rw [zb_and, Bool.and_eq_true] at h0
    exact hl p (Nat.le_refl p) h0.1
  exact zdn_inv (g := gA nd am) (fun _ f => zb f q = true → q < p) p (nd p &&& am) hstart (fun i f hi h1 => by
    unfold gA
    by_cases hz : zb f i = true
    · rw [if_pos hz]
      intro h2
      rw [zb_or, zb_and, Bool.or_eq_true, Bool.and_eq_true] at h2
      rcases h2 with h2 | h2
      · exact h1 h2
      · have := hl i (by omega) h2.1
        omega
    · rw [if_neg hz]
      exact h1) h
theorem sA_20 (pl : Nat → Int32) (am : Int32) {p : Nat} (hp : p < 20) : zl20 (sA (sN pl) am p) := by
  intro q h1 h2
  by_cases hb : zb (sA (sN pl) am p) q = true
  · have := sA_low (sN pl) am (by omega) h2 (fun i hi h => sN_low pl (by omega) h2 h) hb
    omega
  · simpa using hb
theorem sT_20 (m : Int32) (L : Nat) : zl20 (sT m L) := by
  intro q h1 h2
  rw [sT_bit m L h2, decide_eq_false (by omega), Bool.false_and]
