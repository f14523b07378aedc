/-! PURE: how many parts a reader knows so -/
section PH
variable {n L c : Nat} {reached lost size : Int32} {plots cliffs words needs told rea wread ltold lout sets ms : Nat → Int32}
theorem p_manyKnown_5 (ms : Nat → Int32) (m x : Int32) {r n : Nat} (hn : ms 0 = nI n) (hn20 : n ≤ 20) (hr : r < 6) (hb : ∀ q, q < n → zb m q = decide (mkn ms r q = x)) : ∀ (d j k a : Nat), j + d = n → d < k → fX7_manyKnown_5 k ms (nI r) x (nI a) (nI j) = some (nI (a + zcnt m d j))
  | 0, j, k + 1, a, hj, _ => by
    have e : ms (0 : Int32).toNatClampNeg = nI n := hn
    unfold fX7_manyKnown_5
    rw [e, if_pos (nI_le (by omega) (by omega))]
    rfl
  | d + 1, j, k + 1, a, hj, hk => by
    have e : ms (0 : Int32).toNatClampNeg = nI n := hn
    have hkn : fX7_known ms (nI r) (nI j) = some (mkn ms r j) := p_known ms (by omega)
    have ih := fun a => p_manyKnown_5 ms m x hn hn20 hr hb d (j + 1) k a (by omega) (by omega)
    unfold fX7_manyKnown_5
    rw [e, if_neg (nI_ge (by omega) (by omega)), hkn, Option.bind_some, nI_1, nI_1, Int32.add_zero, zcnt_s, hb j (by omega)]
    by_cases h : mkn ms r j = x
    · rw [if_pos h, decide_eq_true h, if_pos rfl, ih, Nat.add_assoc]
    · rw [if_neg h, decide_eq_false h, if_neg (by decide), ih, Nat.zero_add]
theorem zpop_n {m : Int32} {n : Nat} (hn : n ≤ 20) (h : ∀ q, n ≤ q → q < 32 → zb m q = false) : zpop m = zcnt m n 0 := by
  have h1 : zcnt m (n + (20 - n)) 0 = zcnt m n 0 := by
    rw [zcnt_add, zcnt_none m (20 - n) (0 + n) (fun q h2 h3 => h q (by omega) (by omega)), Nat.add_zero]
  rw [zpop_20 (fun q h2 h3 => h q (by omega) h3), ← h1, show n + (20 - n) = 20 by omega]
theorem p_manyKnown (ms : Nat → Int32) (m x : Int32) {r n : Nat} (hn : ms 0 = nI n) (hn20 : n ≤ 20) (hr : r < 6) (hb : ∀ q, q < 32 → zb m q = (decide (q < n) && decide (mkn ms r q = x))) : fX7_manyKnown ms (nI r) x = some (nI (zpop m)) := by
  have h1 := p_manyKnown_5 ms m x hn hn20 hr (fun q hq => by rw [hb q (by omega), decide_eq_true hq, Bool.true_and]) n 0 zfuel 0 (by omega) (Nat.lt_of_le_of_lt hn20 (by decide))
  rw [Nat.zero_add, ← zpop_n hn20 (fun q h2 h3 => by rw [hb q h3, decide_eq_false (by omega), Bool.false_and])] at h1
  exact h1
theorem zV.v_manyRead (V : zV n L c reached lost size plots cliffs words needs told rea wread ltold lout sets ms) {r : Nat} (hr : r < 6) : fX7_manyKnown ms (nI r) 2 = some (nI (zpop (rea r))) :=
  p_manyKnown ms (rea r) 2 V.1.2.2 V.1.1 hr (fun q hq => (V.2.2.2.2.2.1 r hr q hq).2)
theorem zV.v_manyTold (V : zV n L c reached lost size plots cliffs words needs told rea wread ltold lout sets ms) {r : Nat} (hr : r < 6) : fX7_manyKnown ms (nI r) 1 = some (nI (zpop (told r))) :=
  p_manyKnown ms (told r) 1 V.1.2.2 V.1.1 hr (fun q hq => (V.2.2.2.2.2.1 r hr q hq).1)
end PH
