/-! PURE: the reference's open cliffs as a fold -/
def mcb (ms : Nat → Int32) (p : Nat) : Int32 := if mcl ms p = -1 then 0 else (1 : Int32) <<< (mcl ms p &&& 31)
def gO (ms : Nat → Int32) (r p : Nat) (s : Int32) : Int32 := if mkn ms r p = 0 then s else (s &&& (mpl ms p ^^^ (-1))) ||| mcb ms p
theorem p_of1 (ms : Nat → Int32) {p : Nat} (h : p < 20) : fX7_of ms (nI p) 1 = some (mcl ms p) := p_of ms (p := p) (w := 1) (by omega)
section PL
variable {n L c : Nat} {reached lost size : Int32} {plots cliffs words needs told rea wread ltold lout sets ms : Nat → Int32}
theorem zV.open_4 (V : zV n L c reached lost size plots cliffs words needs told rea wread ltold lout sets ms) {r : Nat} (hr : r < 6) : ∀ (d j k : Nat) (s : Int32), j + d = n → d < k → fX7_open_4 k ms (nI r) s (nI j) = some (zup (gO ms r) d j s)
  | 0, j, k + 1, s, hj, _ => by
    have hn := V.1.1
    have e : ms (0 : Int32).toNatClampNeg = nI n := V.1.2.2
    unfold fX7_open_4
    rw [e, if_pos (nI_le (by omega) (by omega))]
    rfl
  | d + 1, j, k + 1, s, hj, hk => by
    have hn := V.1.1
    have e : ms (0 : Int32).toNatClampNeg = nI n := V.1.2.2
    have hkn : fX7_known ms (nI r) (nI j) = some (mkn ms r j) := p_known ms (by omega)
    have ih := fun s => V.open_4 hr d (j + 1) k s (by omega) (by omega)
    unfold fX7_open_4
    rw [e, if_neg (nI_ge (by omega) (by omega)), hkn, p_of0 ms (by omega), p_of1 ms (by omega)]
    simp only [Option.bind_some, nI_1]
    unfold zup
    have h3 := V.2.2.2.2.2.2.1 r hr j (by omega)
    by_cases h : mkn ms r j = 0
    · have e2 : gO ms r j s = s := if_pos h
      rw [e2, if_pos (by rw [h]; decide)]
      exact ih s
    · have e2 : gO ms r j s = (s &&& (mpl ms j ^^^ (-1))) ||| mcb ms j := if_neg h
      have h4 : ¬ mkn ms r j ≤ 0 := by
        rcases h3 with h5 | h5 | h5
        · exact absurd h5 h
        · rw [h5]; decide
        · rw [h5]; decide
      rw [e2, if_neg h4]
      unfold mcb
      by_cases h6 : mcl ms j = -1
      · rw [if_pos h6, if_pos h6]
        exact ih _
      · rw [if_neg h6, if_neg h6]
        exact ih _
end PL
