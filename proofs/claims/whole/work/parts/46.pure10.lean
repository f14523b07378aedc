/-! PURE: enough -/
section PE
variable {n L c : Nat} {reached lost size : Int32} {plots cliffs words needs told rea wread ltold lout sets ms : Nat → Int32}
theorem p_hasRead (rea : Nat → Int32) {r q : Nat} (hr : r < 6) (hq : q < 32) : fX0_hasRead rea (nI r) (nI q) = some (if zb (rea r) q = true then 1 else 0) := by
  unfold fX0_hasRead
  rw [if_pos (zin_nI hr (by decide)), nI_clamp (by omega), zb_isIn _ hq, Option.bind_some]
  cases zb (rea r) q <;> rfl
theorem zV.hasRead (V : zV n L c reached lost size plots cliffs words needs told rea wread ltold lout sets ms) {r q : Nat} (hr : r < 6) (hq : q < n) : fX0_hasRead rea (nI r) (nI q) = some (if mkn ms r q = 2 then 1 else 0) := by
  have hn := V.1.1
  rw [p_hasRead rea hr (by omega), (V.2.2.2.2.2.1 r hr q (by omega)).2, decide_eq_true hq, Bool.true_and]
  by_cases h : mkn ms r q = 2
  · rw [decide_eq_true h, if_pos rfl, if_pos h]
  · rw [decide_eq_false h, if_neg (by decide), if_neg h]
theorem zV.enough_4 (V : zV n L c reached lost size plots cliffs words needs told rea wread ltold lout sets ms) {r : Nat} (hr : r < 6) : ∀ (d j k a : Nat), j + d = n → d < k → a ≤ 32 → ∃ b, b ≤ 32 ∧ fX3_linesForAll_4 k size needs told rea (nI r) (nI a) (nI j) = some (nI b) ∧ fX7_enoughOf_4 k ms (nI r) (nI a) (nI j) = some (nI b)
  | 0, j, k + 1, a, hj, _, ha => by
    have hn := V.1.1
    have e : ms (0 : Int32).toNatClampNeg = nI n := V.1.2.2
    unfold fX3_linesForAll_4 fX7_enoughOf_4
    rw [e, V.1.2.1, if_pos (nI_le (by omega) (by omega)), if_pos (nI_le (by omega) (by omega))]
    exact ⟨a, ha, rfl, rfl⟩
  | d + 1, j, k + 1, a, hj, hk, ha => by
    have hn := V.1.1
    have e : ms (0 : Int32).toNatClampNeg = nI n := V.1.2.2
    have hs : size = nI n := V.1.2.1
    obtain ⟨m1, m2⟩ := V.missed hr (p := j) (by omega)
    have hM := sM_20 (ms := ms) (n := n) (r := r) (p := j) (by omega)
    have hkn : fX7_known ms (nI r) (nI j) = some (mkn ms r j) := p_known ms (by omega)
    unfold fX3_linesForAll_4 fX7_enoughOf_4
    rw [e, if_neg (by rw [hs]; exact nI_ge (by omega) (by omega)), if_neg (nI_ge (by omega) (by omega)), V.hasRead hr (by omega), hkn, Option.bind_some, Option.bind_some, m1, m2, Option.bind_some, Option.bind_some, p_bitCount, p_ones hM, Option.bind_some, Option.bind_some, nI_1]
    by_cases h2 : mkn ms r j = 2
    · rw [if_pos h2, if_neg (by decide), if_pos h2, if_pos (nI_pos' (by omega))]
      exact V.enough_4 hr d (j + 1) k a (by omega) (by omega) ha
    · rw [if_neg h2, if_pos rfl, if_neg h2]
      have hp := zpop_le (sM ms n r j)
      by_cases h3 : zpop (sM ms n r j) ≤ a
      · rw [if_pos (nI_le h3 (by omega)), if_neg (nI_nlt h3 (by omega))]
        exact V.enough_4 hr d (j + 1) k a (by omega) (by omega) ha
      · rw [if_neg (nI_ge (by omega) (by omega)), if_pos (nI_lt (by omega) (by omega))]
        exact V.enough_4 hr d (j + 1) k _ (by omega) (by omega) hp
theorem zV.v_enough (V : zV n L c reached lost size plots cliffs words needs told rea wread ltold lout sets ms) {r : Nat} (hr : r < 6) : ∃ b, b ≤ 32 ∧ fX3_linesForAll size needs told rea (nI r) = some (nI b) ∧ fX7_enoughOf ms (nI r) = some (nI b) :=
  V.enough_4 hr n 0 zfuel 0 (by omega) (Nat.lt_of_le_of_lt V.1.1 (by decide)) (by omega)
end PE
