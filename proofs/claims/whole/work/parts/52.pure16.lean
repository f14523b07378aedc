/-! PURE: how many know all -/
section PK
variable {n L c : Nat} {reached lost size : Int32} {plots cliffs words needs told rea wread ltold lout sets ms : Nat → Int32}
theorem zV.knowAll_4 (V : zV n L c reached lost size plots cliffs words needs told rea wread ltold lout sets ms) : ∀ (d j k : Nat) (a : Int32), j + d = 6 → d < k → ∃ v, fX0_howManyKnowAll_4 k told rea (((1 : Int32) <<< (nI n &&& 31)) - 1) a (nI j) = some v ∧ fX7_knowAll_4 k ms a (nI j) = some v
  | 0, j, k + 1, a, hj, _ => by
    have e6 : (6 : Int32) ≤ nI j := nI_le (a := 6) (by omega) (by omega)
    unfold fX0_howManyKnowAll_4 fX7_knowAll_4
    rw [if_pos e6, if_pos e6]
    exact ⟨a, rfl, rfl⟩
  | d + 1, j, k + 1, a, hj, hk => by
    have e6 : ¬ (6 : Int32) ≤ nI j := nI_ge (b := 6) (by omega) (by omega)
    have hkn : fX0_known told rea (nI j) = some (told j ||| rea j) := by
      unfold fX0_known
      rw [if_pos (zin_nI (by omega) (by decide)), if_pos (zin_nI (by omega) (by decide)), nI_clamp (by omega)]
    have ha := V.v_all (r := j) (by omega)
    unfold fX0_howManyKnowAll_4 fX7_knowAll_4
    rw [if_neg e6, if_neg e6, hkn, p_unknown ms V.1.2.2 V.1.1 (by omega), Option.bind_some, Option.bind_some, nI_1, Int32.add_zero]
    by_cases h : sU (mkn ms j) n = 0
    · rw [if_pos h, if_pos (ha.mpr h)]
      exact V.knowAll_4 d (j + 1) k _ (by omega) (by omega)
    · rw [if_neg h, if_neg (fun e => h (ha.mp e))]
      exact V.knowAll_4 d (j + 1) k _ (by omega) (by omega)
theorem zV.v_knowAll (V : zV n L c reached lost size plots cliffs words needs told rea wread ltold lout sets ms) : ∃ v, fX0_howManyKnowAll told rea (((1 : Int32) <<< (size &&& 31)) - 1) = some v ∧ fX7_knowAll ms = some v := by
  rw [V.1.2.1]
  exact V.knowAll_4 6 0 zfuel 0 (by omega) (by decide)
end PK
