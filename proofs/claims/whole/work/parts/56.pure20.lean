/-! PURE: plots -/
def gP (ms : Nat → Int32) (y : Nat) (i : Nat) (t : Int32 × Int32 × Int32) : Int32 × Int32 × Int32 := ((if zb (mpl ms i) y = true then t.1 + 1 else t.1), (if zb (mpl ms i) y = true then nI i else t.2.1), (if mcl ms i = nI y then t.2.2 + 1 else t.2.2))
theorem p_goesOn (ms : Nat → Int32) {j y : Nat} (hj : j < 20) (hy : y < 32) : fX7_goesOn ms (nI j) (nI y) = some (if zb (mpl ms j) y = true then 1 else 0) := by
  unfold fX7_goesOn
  rw [p_of0 ms hj, Option.bind_some, zb_bit _ hy]
  cases zb (mpl ms j) y <;> rfl
section PO
variable {n L c : Nat} {reached lost size : Int32} {plots cliffs words needs told rea wread ltold lout sets ms : Nat → Int32}
theorem p_ofParts_11 (ms : Nat → Int32) {n y : Nat} (hn0 : ms 0 = nI n) (hn : n ≤ 20) (hy : y < 32) (w : Int32) : ∀ (d j k : Nat) (a b c : Int32), j + d = n → d < k → fX7_ofParts_11 k ms (nI y) w a b c (nI j) = (if w = 0 then some (zup (gP ms y) d j (a, b, c)).1 else if w = 1 then some (zup (gP ms y) d j (a, b, c)).2.1 else some (zup (gP ms y) d j (a, b, c)).2.2)
  | 0, j, k + 1, a, b, c, hj, _ => by
    have e : ms (0 : Int32).toNatClampNeg = nI n := hn0
    unfold fX7_ofParts_11
    rw [e, if_pos (nI_le (by omega) (by omega))]
    rfl
  | d + 1, j, k + 1, a, b, c, hj, hk => by
    have e : ms (0 : Int32).toNatClampNeg = nI n := hn0
    have ih := fun a b c => p_ofParts_11 ms hn0 hn hy w d (j + 1) k a b c (by omega) (by omega)
    unfold fX7_ofParts_11
    rw [e, if_neg (nI_ge (by omega) (by omega)), p_goesOn ms (by omega) hy, p_of1 ms (by omega)]
    simp only [Option.bind_some, nI_1, Int32.add_zero]
    unfold zup
    by_cases hb : zb (mpl ms j) y = true
    · by_cases hc : mcl ms j = nI y
      · have e2 : gP ms y j (a, b, c) = (a + 1, nI j, c + 1) := by unfold gP; rw [if_pos hb, if_pos hb, if_pos hc]
        rw [e2, if_pos hb, if_neg (by decide), if_neg (by decide), if_pos hc]
        exact ih _ _ _
      · have e2 : gP ms y j (a, b, c) = (a + 1, nI j, c) := by unfold gP; rw [if_pos hb, if_pos hb, if_neg hc]
        rw [e2, if_pos hb, if_neg (by decide), if_neg (by decide), if_neg hc]
        exact ih _ _ _
    · by_cases hc : mcl ms j = nI y
      · have e2 : gP ms y j (a, b, c) = (a, b, c + 1) := by unfold gP; rw [if_neg hb, if_neg hb, if_pos hc]
        rw [e2, if_neg hb, if_pos rfl, if_pos rfl, if_pos hc]
        exact ih _ _ _
      · have e2 : gP ms y j (a, b, c) = (a, b, c) := by unfold gP; rw [if_neg hb, if_neg hb, if_neg hc]
        rw [e2, if_neg hb, if_pos rfl, if_pos rfl, if_neg hc]
        exact ih _ _ _
theorem zV.goOn_4 (V : zV n L c reached lost size plots cliffs words needs told rea wread ltold lout sets ms) {y : Nat} (hy : y < 32) : ∀ (d j k : Nat) (a b c : Int32), j + d = n → d < k → fX4_howManyGoOnWith_4 k size plots (nI y) a (nI j) = some (zup (gP ms y) d j (a, b, c)).1
  | 0, j, k + 1, a, b, c, hj, _ => by
    have hn := V.1.1
    unfold fX4_howManyGoOnWith_4
    rw [V.1.2.1, if_pos (nI_le (by omega) (by omega))]
    rfl
  | d + 1, j, k + 1, a, b, c, hj, hk => by
    have hn := V.1.1
    have hs : size = nI n := V.1.2.1
    have ih := fun a b c => V.goOn_4 hy d (j + 1) k a b c (by omega) (by omega)
    unfold fX4_howManyGoOnWith_4
    rw [if_neg (by rw [hs]; exact nI_ge (by omega) (by omega)), if_pos (zin_nI (by omega) (by decide)), nI_clamp (by omega), nI_1, (V.2.2.2.2.1 j (by omega)).1, zb_bit _ hy]
    unfold zup
    rw [ih _ (gP ms y j (a, b, c)).2.1 (gP ms y j (a, b, c)).2.2]
    have e2 : a + (if zb (mpl ms j) y = true then 1 else 0) = (gP ms y j (a, b, c)).1 := by
      unfold gP
      by_cases hb : zb (mpl ms j) y = true
      · rw [if_pos hb, if_pos hb]
      · rw [if_neg hb, if_neg hb, Int32.add_zero]
    rw [e2]
theorem zV.cliffs_4 (V : zV n L c reached lost size plots cliffs words needs told rea wread ltold lout sets ms) {y : Nat} : ∀ (d j k : Nat) (a b c : Int32), j + d = n → d < k → fX4_howManyCliffs_4 k size cliffs (nI y) c (nI j) = some (zup (gP ms y) d j (a, b, c)).2.2
  | 0, j, k + 1, a, b, c, hj, _ => by
    have hn := V.1.1
    unfold fX4_howManyCliffs_4
    rw [V.1.2.1, if_pos (nI_le (by omega) (by omega))]
    rfl
  | d + 1, j, k + 1, a, b, c, hj, hk => by
    have hn := V.1.1
    have hs : size = nI n := V.1.2.1
    have ih := fun a b c => V.cliffs_4 (y := y) d (j + 1) k a b c (by omega) (by omega)
    unfold fX4_howManyCliffs_4
    rw [if_neg (by rw [hs]; exact nI_ge (by omega) (by omega)), if_pos (zin_nI (by omega) (by decide)), nI_clamp (by omega), nI_1, (V.2.2.2.2.1 j (by omega)).2.1]
    unfold zup
    by_cases hc : mcl ms j = nI y
    · have e2 : c + 1 = (gP ms y j (a, b, c)).2.2 := by unfold gP; rw [if_pos hc]
      rw [if_pos hc, ih (gP ms y j (a, b, c)).1 (gP ms y j (a, b, c)).2.1, e2]
    · have e2 : c = (gP ms y j (a, b, c)).2.2 := by unfold gP; rw [if_neg hc]
      rw [if_neg hc, ih (gP ms y j (a, b, c)).1 (gP ms y j (a, b, c)).2.1 c]
      exact congrArg (fun z => some (zup (gP ms y) d (j + 1) ((gP ms y j (a, b, c)).1, (gP ms y j (a, b, c)).2.1, z)).2.2) e2
theorem zV.latest_7 (V : zV n L c reached lost size plots cliffs words needs told rea wread ltold lout sets ms) {y : Nat} (hy : y < 32) (a b : Int32) : ∀ (p k : Nat), p < k → p ≤ n → fX4_latestWith_7 k size plots (nI y) (nI p - 1) = some (zup (gP ms y) p 0 (a, -1, b)).2.1
  | 0, k + 1, _, _ => by
    unfold fX4_latestWith_7
    rw [if_pos nI_neg1']
    rfl
  | p + 1, k + 1, hk, hp => by
    have hn := V.1.1
    have ih := V.latest_7 hy a b p k (by omega) (by omega)
    unfold fX4_latestWith_7
    rw [nI_pred, if_neg (nI_pos (by omega)), if_pos (zin_nI (by omega) (by decide)), nI_clamp (by omega), nI_dn, (V.2.2.2.2.1 p (by omega)).1, zb_isIn _ hy, Option.bind_some, zup_end, Nat.zero_add]
    by_cases hb : zb (mpl ms p) y = true
    · rw [if_pos hb, if_neg (by decide)]
      exact congrArg some (if_pos hb).symm
    · rw [if_neg hb, if_pos rfl, ih]
      exact congrArg some (if_neg hb).symm
theorem zV.hang_4 (V : zV n L c reached lost size plots cliffs words needs told rea wread ltold lout sets ms) (x : Int32) : ∀ (d j k : Nat) (a : Int32), j + d = 6 → d < k → ∃ v, fX3_howManyHang_4 k size plots cliffs told rea x a (nI j) = some v ∧ fX7_openTo_4 k ms x a (nI j) = some v
  | 0, j, k + 1, a, hj, _ => by
    have e6 : (6 : Int32) ≤ nI j := nI_le (a := 6) (by omega) (by omega)
    unfold fX3_howManyHang_4 fX7_openTo_4
    rw [if_pos e6, if_pos e6]
    exact ⟨a, rfl, rfl⟩
  | d + 1, j, k + 1, a, hj, hk => by
    have e6 : ¬ (6 : Int32) ≤ nI j := nI_ge (b := 6) (by omega) (by omega)
    have hkn : fX0_known told rea (nI j) = some (told j ||| rea j) := by
      unfold fX0_known
      rw [if_pos (zin_nI (by omega) (by decide)), if_pos (zin_nI (by omega) (by decide)), nI_clamp (by omega)]
    obtain ⟨o1, o2⟩ := V.v_open (r := j) (by omega)
    unfold fX3_howManyHang_4 fX7_openTo_4
    rw [if_neg e6, if_neg e6, hkn, Option.bind_some, o1, o2, Option.bind_some, Option.bind_some, nI_1]
    exact V.hang_4 x d (j + 1) k _ (by omega) (by omega)
theorem zV.v_plot (V : zV n L c reached lost size plots cliffs words needs told rea wread ltold lout sets ms) {y : Nat} (hy : y < 32) (w : Int32) (hw : w = 0 ∨ w = 1 ∨ w = 2 ∨ w = 3) : ∃ v, fX3_ofPlot size plots cliffs told rea (nI y) w = some v ∧ fX7_plotOf ms (nI y) w = some v := by
  have hn := V.1.1
  have hz : n < zfuel := Nat.lt_of_le_of_lt hn (by decide)
  have r1 : ∀ w, fX7_ofParts ms (nI y) w = _ := fun w => p_ofParts_11 ms V.1.2.2 hn hy w n 0 zfuel 0 (-1) 0 (by omega) hz
  have g1 : fX4_howManyGoOnWith size plots (nI y) = _ := V.goOn_4 hy n 0 zfuel 0 (-1) 0 (by omega) hz
  have g2 : fX4_howManyCliffs size cliffs (nI y) = _ := V.cliffs_4 (y := y) n 0 zfuel 0 (-1) 0 (by omega) hz
  have g3 : fX4_latestWith size plots (nI y) = some (zup (gP ms y) n 0 (0, -1, 0)).2.1 := by
    unfold fX4_latestWith
    rw [V.1.2.1]
    have h := V.latest_7 hy 0 0 n zfuel hz (Nat.le_refl n)
    rw [V.1.2.1] at h
    exact h
  obtain ⟨v4, h4, h4'⟩ := V.hang_4 (nI y) 6 0 zfuel 0 (by omega) (by decide)
  have h5 : fX3_howManyHang size plots cliffs told rea (nI y) = some v4 := h4
  have h6 : fX7_openTo ms (nI y) = some v4 := h4'
  unfold fX3_ofPlot fX7_plotOf
  rcases hw with rfl | rfl | rfl | rfl
  · rw [if_pos rfl, if_neg (by decide), r1, g1]
    exact ⟨_, rfl, rfl⟩
  · rw [if_neg (by decide), if_pos rfl, if_neg (by decide), r1, g3]
    exact ⟨_, rfl, rfl⟩
  · rw [if_neg (by decide), if_neg (by decide), if_pos rfl, if_neg (by decide), r1, g2]
    exact ⟨_, rfl, rfl⟩
  · rw [if_neg (by decide), if_neg (by decide), if_neg (by decide), if_pos rfl, h5, h6]
    exact ⟨_, rfl, rfl⟩
end PO
