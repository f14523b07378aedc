/-! PURE: what a reader misses -/
theorem sN_low (pl : Nat → Int32) {p q : Nat} (hp : p < 32) (hq : q < 32) (h : zb (sN pl p) q = true) : q < p := by
  have key := zdn_inv (g := gN pl) (fun _ x => zb x.2 q = true → q < p) p (pl p, 0) (fun h0 => by rw [zb_0] at h0; cases h0) (fun i a hi h1 => by
    unfold gN
    by_cases hz : pl i &&& a.1 = 0
    · rw [if_pos hz]; exact h1
    · rw [if_neg hz]
      intro h2
      rw [zb_or, zb_zbit (by omega) hq, Bool.or_eq_true] at h2
      rcases h2 with h2 | h2
      · exact h1 h2
      · have h3 := of_decide_eq_true h2
        omega)
  exact key h
theorem sA_congr {nd nd' : Nat → Int32} {am am' : Int32} {p : Nat} (h : ∀ q, q ≤ p → nd q &&& am = nd' q &&& am') : sA nd am p = sA nd' am' p := by
  unfold sA
  rw [h p (Nat.le_refl p)]
  exact zdn_congr (h := gA nd' am') p _ (fun i a hi => by unfold gA; rw [h i (by omega)])
theorem zand_low {a am am' : Int32} {p : Nat} (ha : ∀ q, q < 32 → zb a q = true → q < p) (h : ∀ q, q < p → zb am q = zb am' q) : a &&& am = a &&& am' := by
  apply zb_ext
  intro q hq
  rw [zb_and, zb_and]
  cases hz : zb a q
  · rfl
  · rw [h q (ha q hq hz)]
def gU (kn : Nat → Int32) (i : Nat) (m : Int32) : Int32 := if kn i = 0 then m ||| zbit i else m
/-- the parts below n that a reader knows nothing of -/
def sU (kn : Nat → Int32) (n : Nat) : Int32 := zup (gU kn) n 0 0
def mkn (ms : Nat → Int32) (r p : Nat) : Int32 := ms (83 + 20 * r + p)
theorem p_unknown_4 (ms : Nat → Int32) {n r : Nat} (hn : ms 0 = nI n) (hn20 : n ≤ 20) (hr : r < 6) : ∀ (d j k : Nat) (m : Int32), j + d = n → d < k → fX7_unknown_4 k ms (nI r) m (nI j) = some (zup (gU (mkn ms r)) d j m)
  | 0, j, k + 1, m, hj, _ => by
    unfold fX7_unknown_4
    have e : ms (0 : Int32).toNatClampNeg = nI n := hn
    rw [e, if_pos (nI_le (by omega) (by omega))]
    rfl
  | d + 1, j, k + 1, m, hj, hk => by
    unfold fX7_unknown_4
    have e : ms (0 : Int32).toNatClampNeg = nI n := hn
    rw [e, if_neg (nI_ge (by omega) (by omega)), p_known ms (by omega), Option.bind_some, nI_1, zor_0]
    unfold zup
    by_cases hz : ms (83 + 20 * r + j) = 0
    · have e2 : gU (mkn ms r) j m = m ||| zbit j := if_pos hz
      rw [if_pos hz, e2]
      exact p_unknown_4 ms hn hn20 hr d (j + 1) k _ (by omega) (by omega)
    · have e2 : gU (mkn ms r) j m = m := if_neg hz
      rw [if_neg hz, e2]
      exact p_unknown_4 ms hn hn20 hr d (j + 1) k _ (by omega) (by omega)
theorem p_unknown (ms : Nat → Int32) {n r : Nat} (hn : ms 0 = nI n) (hn20 : n ≤ 20) (hr : r < 6) : fX7_unknown ms (nI r) = some (sU (mkn ms r) n) :=
  p_unknown_4 ms hn hn20 hr n 0 zfuel 0 (by omega) (Nat.lt_of_le_of_lt hn20 (by decide))
theorem sU_bit (kn : Nat → Int32) {n q : Nat} (hn : n ≤ 32) (hq : q < 32) : zb (sU kn n) q = (decide (q < n) && decide (kn q = 0)) := by
  have key := zup_inv (g := gU kn) (fun i m => zb m q = (decide (q < i) && decide (kn q = 0))) n 0 0 (by rw [zb_0]; rfl) (fun i m _ hi h1 => by
    unfold gU
    by_cases hz : kn i = 0
    · rw [if_pos hz, zb_or, h1, zb_zbit (by omega) hq]
      by_cases he : q = i
      · subst he
        rw [hz]
        simp
      · by_cases hl : q < i
        · simp [hl, he, Nat.lt_succ_of_lt hl]
        · have h2 : ¬ q < i + 1 := by omega
          simp [hl, he, h2]
    · rw [if_neg hz, h1]
      by_cases he : q = i
      · subst he
        simp [hz]
      · by_cases hl : q < i
        · simp [hl, Nat.lt_succ_of_lt hl]
        · have h2 : ¬ q < i + 1 := by omega
          simp [hl, h2])
  rw [Nat.zero_add] at key
  exact key
theorem p_missed (ms : Nat → Int32) {n r p : Nat} (hn : ms 0 = nI n) (hn20 : n ≤ 20) (hr : r < 6) (hp : p < 20) : fX7_missed ms (nI r) (nI p) = some (sA (sN (mpl ms)) (sU (mkn ms r) n) p) := by
  unfold fX7_missed
  rw [p_unknown ms hn hn20 hr, Option.bind_some, p_needsAmong ms _ hp]
  rfl
theorem p_missedParts (needs told rea : Nat → Int32) {r p : Nat} (hr : r < 6) (hp : p < 20) : fX3_missedParts needs told rea (nI r) (nI p) = some (sA needs ((told r ||| rea r) ^^^ (-1)) p) := by
  unfold fX3_missedParts fX0_known
  rw [if_pos (zin_nI hr (by decide)), if_pos (zin_nI hr (by decide)), nI_clamp (by omega), Option.bind_some, p_allNeeds _ _ hp]
  rfl
/-- both look at the same parts -/
theorem missed_eq {needs told rea ms : Nat → Int32} {n r p : Nat} (hn20 : n ≤ 20) (hp : p < n) (hnd : ∀ q, q < n → needs q = sN (mpl ms) q) (hk : ∀ q, q < n → zb (told r ||| rea r) q = !decide (mkn ms r q = 0)) : sA needs ((told r ||| rea r) ^^^ (-1)) p = sA (sN (mpl ms)) (sU (mkn ms r) n) p := by
  apply sA_congr
  intro q hq
  rw [hnd q (by omega)]
  refine zand_low (p := n) (fun i hi hb => ?_) (fun i hi => ?_)
  · have := sN_low (mpl ms) (p := q) (by omega) hi hb
    omega
  · rw [zb_not _ (by omega), hk i hi, sU_bit _ (by omega) (by omega), decide_eq_true hi, Bool.true_and, Bool.not_not]
