/-! PURE: easiest, and how many need a part -/
section PF
variable {n L c : Nat} {reached lost size : Int32} {plots cliffs words needs told rea wread ltold lout sets ms : Nat → Int32}
theorem zV.easiest_10 (V : zV n L c reached lost size plots cliffs words needs told rea wread ltold lout sets ms) {r : Nat} (hr : r < 6) : ∀ (d j k : Nat) (b x y : Int32), j + d = n → d < k → ∃ v, fX3_bestPart_10 k size words needs told rea sets (nI r) b x y (nI j) = some v ∧ fX7_easiestOf_10 k ms (nI r) b x y (nI j) = some v
  | 0, j, k + 1, b, x, y, hj, _ => by
    have hn := V.1.1
    have e : ms (0 : Int32).toNatClampNeg = nI n := V.1.2.2
    unfold fX3_bestPart_10 fX7_easiestOf_10
    rw [e, V.1.2.1, if_pos (nI_le (by omega) (by omega)), if_pos (nI_le (by omega) (by omega))]
    exact ⟨b, rfl, rfl⟩
  | d + 1, j, k + 1, b, x, y, hj, hk => by
    have hn := V.1.1
    have e : ms (0 : Int32).toNatClampNeg = nI n := V.1.2.2
    have hs : size = nI n := V.1.2.1
    obtain ⟨q1, m1, m2⟩ := V.recap hr (p := j) (by omega) 3
    obtain ⟨q2, m3, m4⟩ := V.recap hr (p := j) (by omega) 4
    have hkn : fX7_known ms (nI r) (nI j) = some (mkn ms r j) := p_known ms (by omega)
    have ih := fun b x y => V.easiest_10 hr d (j + 1) k b x y (by omega) (by omega)
    unfold fX3_bestPart_10 fX7_easiestOf_10
    rw [e, if_neg (by rw [hs]; exact nI_ge (by omega) (by omega)), if_neg (nI_ge (by omega) (by omega)), V.hasRead hr (by omega), hkn, m1, m2, m3, m4]
    simp only [Option.bind_some, nI_1]
    by_cases h2 : mkn ms r j = 2
    · rw [if_pos h2, if_neg (by decide), if_pos h2]
      exact ih b x y
    · rw [if_neg h2, if_pos rfl, if_neg h2]
      by_cases hb : b = -1
      · simp only [hb, if_true, ite_self]
        exact ih (nI j) q1 q2
      · simp only [hb, if_false, ite_self]
        by_cases h3 : q1 < x
        · rw [if_pos h3, if_pos h3]
          exact ih (nI j) q1 q2
        · rw [if_neg h3, if_neg h3]
          by_cases h4 : q1 = x
          · rw [if_pos h4, if_pos h4]
            by_cases h5 : y ≤ q2
            · rw [if_pos h5, if_pos h5]
              exact ih b x y
            · rw [if_neg h5, if_neg h5]
              exact ih (nI j) q1 q2
          · rw [if_neg h4, if_neg h4]
            exact ih b x y
theorem zV.v_easiest (V : zV n L c reached lost size plots cliffs words needs told rea wread ltold lout sets ms) {r : Nat} (hr : r < 6) : ∃ v, fX3_bestPart size words needs told rea sets (nI r) = some v ∧ fX7_easiestOf ms (nI r) = some v :=
  V.easiest_10 hr n 0 zfuel (-1) 0 0 (by omega) (Nat.lt_of_le_of_lt V.1.1 (by decide))
theorem zV.needing_6 (V : zV n L c reached lost size plots cliffs words needs told rea wread ltold lout sets ms) (x : Int32) : ∀ (d j k : Nat) (a : Int32), j + d = n → d < k → ∃ v, fX4_howManyNeed_6 k size needs x a (nI j) = some v ∧ fX7_needing_6 k ms x a (nI j) = some v
  | 0, j, k + 1, a, hj, _ => by
    have hn := V.1.1
    have e : ms (0 : Int32).toNatClampNeg = nI n := V.1.2.2
    unfold fX4_howManyNeed_6 fX7_needing_6
    rw [e, V.1.2.1, if_pos (nI_le (by omega) (by omega)), if_pos (nI_le (by omega) (by omega))]
    exact ⟨a, rfl, rfl⟩
  | d + 1, j, k + 1, a, hj, hk => by
    have hn := V.1.1
    have e : ms (0 : Int32).toNatClampNeg = nI n := V.1.2.2
    have hs : size = nI n := V.1.2.1
    unfold fX4_howManyNeed_6 fX7_needing_6
    rw [e, if_neg (by rw [hs]; exact nI_ge (by omega) (by omega)), if_neg (nI_ge (by omega) (by omega)), if_pos (zin_nI (by omega) (by decide)), nI_clamp (by omega), p_needs ms (by omega), Option.bind_some, nI_1, V.nd (by omega)]
    exact V.needing_6 x d (j + 1) k _ (by omega) (by omega)
theorem zV.v_needing (V : zV n L c reached lost size plots cliffs words needs told rea wread ltold lout sets ms) {p : Nat} (hp : p < n) : ∃ v, fX4_howManyNeed size needs (nI p) = some v ∧ fX7_needing ms (nI p) = some v := by
  have hn := V.1.1
  unfold fX4_howManyNeed fX7_needing
  rw [nI_1]
  exact V.needing_6 (nI p) (n - (p + 1)) (p + 1) zfuel 0 (by omega) (by have : zfuel = 5000 := rfl; omega)
end PF
