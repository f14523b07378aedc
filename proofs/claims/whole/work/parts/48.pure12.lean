/-! PURE: sums, and who read a part -/
section PG
variable {n L c : Nat} {reached lost size : Int32} {plots cliffs words needs told rea wread ltold lout sets ms : Nat → Int32}
theorem zV.allWords_4 (V : zV n L c reached lost size plots cliffs words needs told rea wread ltold lout sets ms) : ∀ (d j k : Nat) (a : Int32), j + d = n → d < k → ∃ v, fX4_sumOfWords_4 k size words a (nI j) = some v ∧ fX7_allWords_4 k ms a (nI j) = some v
  | 0, j, k + 1, a, hj, _ => by
    have hn := V.1.1
    have e : ms (0 : Int32).toNatClampNeg = nI n := V.1.2.2
    unfold fX4_sumOfWords_4 fX7_allWords_4
    rw [e, V.1.2.1, if_pos (nI_le (by omega) (by omega)), if_pos (nI_le (by omega) (by omega))]
    exact ⟨a, rfl, rfl⟩
  | d + 1, j, k + 1, a, hj, hk => by
    have hn := V.1.1
    have e : ms (0 : Int32).toNatClampNeg = nI n := V.1.2.2
    have hs : size = nI n := V.1.2.1
    have hw : words j = mwd ms j := (V.2.2.2.2.1 j (by omega)).2.2.1
    unfold fX4_sumOfWords_4 fX7_allWords_4
    rw [e, if_neg (by rw [hs]; exact nI_ge (by omega) (by omega)), if_neg (nI_ge (by omega) (by omega)), if_pos (zin_nI (by omega) (by decide)), nI_clamp (by omega), p_of2 ms (by omega), Option.bind_some, nI_1, hw]
    exact V.allWords_4 d (j + 1) k _ (by omega) (by omega)
theorem zV.v_allWords (V : zV n L c reached lost size plots cliffs words needs told rea wread ltold lout sets ms) : ∃ v, fX4_sumOfWords size words = some v ∧ fX7_allWords ms = some v :=
  V.allWords_4 n 0 zfuel 0 (by omega) (Nat.lt_of_le_of_lt V.1.1 (by decide))
theorem zV.wordsRead_4 (V : zV n L c reached lost size plots cliffs words needs told rea wread ltold lout sets ms) : ∀ (d j k : Nat) (a : Int32), j + d = 6 → d < k → ∃ v, fX0_sumOfWordsRead_4 k wread a (nI j) = some v ∧ fX7_wordsRead_4 k ms a (nI j) = some v
  | 0, j, k + 1, a, hj, _ => by
    have e6 : (6 : Int32) ≤ nI j := nI_le (a := 6) (by omega) (by omega)
    unfold fX0_sumOfWordsRead_4 fX7_wordsRead_4
    rw [if_pos e6, if_pos e6]
    exact ⟨a, rfl, rfl⟩
  | d + 1, j, k + 1, a, hj, hk => by
    have e6 : ¬ (6 : Int32) ≤ nI j := nI_ge (b := 6) (by omega) (by omega)
    have hw : wread j = ms (65 + 3 * j) := (V.2.2.2.2.2.2.2 j (by omega)).1
    have e : (65 : Int32) + 3 * nI j = nI (65 + 3 * j) := by
      rw [show (65 : Int32) = nI 65 from by decide, show (3 : Int32) = nI 3 from by decide, nI_mul, nI_add]
    unfold fX0_sumOfWordsRead_4 fX7_wordsRead_4
    rw [if_neg e6, if_neg e6, if_pos (zin_nI (by omega) (by decide)), e, if_pos (zin_nI (by omega) (by decide)), nI_clamp (by omega), nI_clamp (by omega), nI_1, hw]
    exact V.wordsRead_4 d (j + 1) k _ (by omega) (by omega)
theorem zV.v_wordsRead (V : zV n L c reached lost size plots cliffs words needs told rea wread ltold lout sets ms) : ∃ v, fX0_sumOfWordsRead wread = some v ∧ fX7_wordsRead ms = some v :=
  V.wordsRead_4 6 0 zfuel 0 (by omega) (by decide)
theorem zV.readersOf_4 (V : zV n L c reached lost size plots cliffs words needs told rea wread ltold lout sets ms) {p : Nat} (hp : p < n) : ∀ (d j k : Nat) (a : Int32), j + d = 6 → d < k → ∃ v, fX0_whoRead_4 k rea (nI p) a (nI j) = some v ∧ fX7_readersOf_4 k ms (nI p) a (nI j) = some v
  | 0, j, k + 1, a, hj, _ => by
    have e6 : (6 : Int32) ≤ nI j := nI_le (a := 6) (by omega) (by omega)
    unfold fX0_whoRead_4 fX7_readersOf_4
    rw [if_pos e6, if_pos e6]
    exact ⟨a, rfl, rfl⟩
  | d + 1, j, k + 1, a, hj, hk => by
    have hn := V.1.1
    have e6 : ¬ (6 : Int32) ≤ nI j := nI_ge (b := 6) (by omega) (by omega)
    have hkn : fX7_known ms (nI j) (nI p) = some (mkn ms j p) := p_known ms (by omega)
    unfold fX0_whoRead_4 fX7_readersOf_4
    rw [if_neg e6, if_neg e6, V.hasRead (by omega) hp, hkn, Option.bind_some, Option.bind_some, nI_1, zor_0]
    by_cases h2 : mkn ms j p = 2
    · rw [if_pos h2, if_neg (by decide), if_pos h2]
      exact V.readersOf_4 hp d (j + 1) k _ (by omega) (by omega)
    · rw [if_neg h2, if_pos rfl, if_neg h2]
      exact V.readersOf_4 hp d (j + 1) k _ (by omega) (by omega)
theorem zV.v_readersOf (V : zV n L c reached lost size plots cliffs words needs told rea wread ltold lout sets ms) {p : Nat} (hp : p < n) : ∃ v, fX0_whoRead rea (nI p) = some v ∧ fX7_readersOf ms (nI p) = some v :=
  V.readersOf_4 hp 6 0 zfuel 0 (by omega) (by decide)
end PG
