/-! PURE: the grammar: the class's automaton, step by step -/
abbrev zGr : Type := Int32 × Int32 × Int32 × Int32
theorem tp_some (pl ps x : Int32) : ∃ r, fX1_takesPlot pl ps x = some r ∧ (r.1 = 0 ∨ r.1 = 1) := by
  unfold fX1_takesPlot
  split
  · exact ⟨_, rfl, Or.inl rfl⟩
  · split
    · exact ⟨_, rfl, Or.inl rfl⟩
    · split
      · exact ⟨_, rfl, Or.inr rfl⟩
      · exact ⟨_, rfl, Or.inl rfl⟩
theorem ts_some (pl x y z : Int32) : ∃ r, fX1_takesSign pl x y z = some r := by
  unfold fX1_takesSign
  split
  · exact ⟨_, rfl⟩
  · exact ⟨_, rfl⟩
theorem te_some (a b c d x : Int32) : ∃ r, fX1_takesEnd a b c d x = some r ∧ (r.1 = 0 ∨ r.1 = 1) := by
  unfold fX1_takesEnd fX1_restart
  split
  · exact ⟨_, rfl, Or.inr rfl⟩
  · exact ⟨_, rfl, Or.inl rfl⟩
theorem tc_some (pl ps cl x : Int32) : ∃ r, fX1_takesCliff pl ps cl x = some r ∧ (r.1 = 0 ∨ r.1 = 1) := by
  have h : ∃ q, fX6_isIn ps (x - 48) = some q := by
    unfold fX6_isIn
    split
    · exact ⟨_, rfl⟩
    · exact ⟨_, rfl⟩
  obtain ⟨q, hq⟩ := h
  unfold fX1_takesCliff
  rw [hq, Option.bind_some]
  split
  · exact ⟨_, rfl, Or.inl rfl⟩
  · split
    · exact ⟨_, rfl, Or.inl rfl⟩
    · split
      · exact ⟨_, rfl, Or.inl rfl⟩
      · exact ⟨_, rfl, Or.inr rfl⟩
theorem td_some (pl wo x y z : Int32) : ∃ r, fX1_takesDigit pl wo x y z = some r := by
  unfold fX1_takesDigit
  split
  · exact ⟨_, rfl⟩
  · split
    · exact ⟨_, rfl⟩
    · exact ⟨_, rfl⟩
theorem tk_ex (a b c d x : Int32) : ∃ r : Int32 × zGr, fX1_takes a b c d x = some r := by
  unfold fX1_takes
  split
  · obtain ⟨r, h, h1⟩ := tp_some a b x
    rw [h, Option.bind_some, if_pos h1]
    exact ⟨_, rfl⟩
  · split
    · obtain ⟨r, h, h1⟩ := tp_some a b x
      rw [h, Option.bind_some]
      split
      · obtain ⟨r2, h2⟩ := ts_some r.2.1 x 33 2
        rw [h2, Option.bind_some]
        split
        · obtain ⟨r3, h3⟩ := ts_some r2.2 x 119 4
          rw [h3, Option.bind_some]
          split
          · obtain ⟨r4, h4, -⟩ := te_some r3.2 r.2.2 c d x
            rw [h4, Option.bind_some]
            split
            · exact ⟨_, rfl⟩
            · exact ⟨_, rfl⟩
          · exact ⟨_, rfl⟩
        · exact ⟨_, rfl⟩
      · exact ⟨_, rfl⟩
    · split
      · obtain ⟨r, h, h1⟩ := tc_some a b c x
        rw [h, Option.bind_some, if_pos h1]
        exact ⟨_, rfl⟩
      · split
        · obtain ⟨r3, h3⟩ := ts_some a x 119 4
          rw [h3, Option.bind_some]
          split
          · obtain ⟨r4, h4, -⟩ := te_some r3.2 b c d x
            rw [h4, Option.bind_some]
            split
            · exact ⟨_, rfl⟩
            · exact ⟨_, rfl⟩
          · exact ⟨_, rfl⟩
        · split
          · split
            · exact ⟨_, rfl⟩
            · obtain ⟨r3, h3⟩ := td_some a d x 0 5
              rw [h3, Option.bind_some]
              split
              · exact ⟨_, rfl⟩
              · exact ⟨_, rfl⟩
          · split
            · obtain ⟨r3, h3⟩ := td_some a d x (d * 10) 6
              rw [h3, Option.bind_some]
              split
              · obtain ⟨r4, h4, -⟩ := te_some r3.2.1 b c r3.2.2 x
                rw [h4, Option.bind_some]
                split
                · exact ⟨_, rfl⟩
                · exact ⟨_, rfl⟩
              · exact ⟨_, rfl⟩
            · obtain ⟨r4, h4, h5⟩ := te_some a b c d x
              rw [h4, Option.bind_some, if_pos h5]
              exact ⟨_, rfl⟩
/-- one step: taken or not, and the state behind it -/
def tk (s : zGr) (c : Int32) : Int32 × zGr := (fX1_takes s.1 s.2.1 s.2.2.1 s.2.2.2 c).getD (0, s)
theorem tk_some (s : zGr) (c : Int32) : fX1_takes s.1 s.2.1 s.2.2.1 s.2.2.2 c = some (tk s c) := by
  obtain ⟨r, h⟩ := tk_ex s.1 s.2.1 s.2.2.1 s.2.2.2 c
  unfold tk
  rw [h]
  rfl
theorem tk_of {a b c d x : Int32} {r : Int32 × zGr} (h : fX1_takes a b c d x = some r) : tk (a, b, c, d) x = r := by
  unfold tk
  rw [show fX1_takes (a, b, c, d).1 (a, b, c, d).2.1 (a, b, c, d).2.2.1 (a, b, c, d).2.2.2 x = some r from h]
  rfl
theorem cx : ∀ x, x < 127 → (x < 48 → nI x - 48 < 0) ∧ (48 ≤ x → nI x - 48 = nI (x - 48)) := by decide +kernel
theorem cxe {x c : Nat} (hx : x < 127) (hc : c < 127) : nI x = nI c ↔ x = c := nI_eq (by omega) (by omega)
/-- which plots have come: the mask a, the least that may still come b -/
def GP (a b : Nat) : Prop := a < 64 ∧ b < 7 ∧ (∀ p, p < 6 → (nI a >>> (nI p &&& 31) = 0 ↔ b ≤ p)) ∧ (a = 0 ↔ b = 0)
theorem GP_0 : GP 0 0 := ⟨by decide, by decide, by decide +kernel, by decide⟩
theorem GP_a : ∀ a, a < 64 → ∀ q, q < 6 → (nI a ||| ((1 : Int32) <<< (nI q &&& 31)) = nI (a ||| 2 ^ q)) ∧ (a ||| 2 ^ q) < 64 ∧ ¬ (a ||| 2 ^ q) = 0 := by decide +kernel
theorem GP_b : ∀ a, a < 64 → ∀ q, q < 6 → ∀ p, p < 6 → nI a >>> (nI q &&& 31) = 0 → (nI (a ||| 2 ^ q) >>> (nI p &&& 31) = 0 ↔ q + 1 ≤ p) := by decide +kernel
theorem GP.next {a b q : Nat} (h : GP a b) (hq : q < 6) (hb : b ≤ q) : (nI a ||| ((1 : Int32) <<< (nI q &&& 31)) = nI (a ||| 2 ^ q)) ∧ GP (a ||| 2 ^ q) (q + 1) ∧ ¬ (a ||| 2 ^ q) = 0 := by
  obtain ⟨h1, h2, h3, h4⟩ := h
  obtain ⟨g1, g2, g3⟩ := GP_a a h1 q hq
  have g4 := fun p hp => GP_b a h1 q hq p hp ((h3 q hq).mpr hb)
  exact ⟨g1, ⟨g2, by omega, g4, ⟨fun h => absurd h g3, fun h => absurd h (by omega)⟩⟩, g3⟩
/-- a plot is taken -/
theorem tp_yes {pl : Int32} {a b x : Nat} (h : GP a b) (h1 : 48 + b ≤ x) (h2 : x ≤ 53) : fX1_takesPlot pl (nI a) (nI x) = some (1, 1, nI (a ||| 2 ^ (x - 48))) := by
  obtain ⟨-, e⟩ := cx x (by omega)
  have e := e (by omega)
  obtain ⟨g1, -, -⟩ := h.next (q := x - 48) (by omega) (by omega)
  unfold fX1_takesPlot
  rw [e, if_neg (nI_pos (by omega)), if_neg (show ¬ (6 : Int32) ≤ nI (x - 48) from nI_ge (b := 6) (by omega) (by omega)), if_pos ((h.2.2.1 (x - 48) (by omega)).mpr (by omega)), g1]
theorem tp_no {pl : Int32} {a b x : Nat} (h : GP a b) (hx : x < 127) (h1 : ¬ (48 + b ≤ x ∧ x ≤ 53)) : fX1_takesPlot pl (nI a) (nI x) = some (0, pl, nI a) := by
  obtain ⟨e1, e2⟩ := cx x hx
  unfold fX1_takesPlot
  by_cases h48 : x < 48
  · rw [if_pos (e1 h48)]
  · rw [e2 (by omega), if_neg (nI_pos (by omega))]
    by_cases h53 : x ≤ 53
    · rw [if_neg (show ¬ (6 : Int32) ≤ nI (x - 48) from nI_ge (b := 6) (by omega) (by omega)), if_neg (fun hz => by
        have := (h.2.2.1 (x - 48) (by omega)).mp hz
        omega)]
    · rw [if_pos (show (6 : Int32) ≤ nI (x - 48) from nI_le (a := 6) (by omega) (by omega))]
theorem tsg_yes (pl z : Int32) {c : Int32} {x : Nat} (h : nI x = c) : fX1_takesSign pl (nI x) c z = some (1, z) := by
  unfold fX1_takesSign
  rw [if_pos h]
theorem tsg_no (pl z : Int32) {c : Int32} {x C : Nat} (hC : c = nI C) (hC2 : C < 127) (hx : x < 127) (h : ¬ x = C) : fX1_takesSign pl (nI x) c z = some (0, pl) := by
  unfold fX1_takesSign
  rw [if_neg (fun e => h ((cxe hx hC2).mp (e.trans hC)))]
theorem te_yes (a b c d : Int32) : fX1_takesEnd a b c d 59 = some (1, 0, 0, -1, 10) := by
  unfold fX1_takesEnd
  rw [if_pos rfl]
  rfl
theorem te_no (a b c d : Int32) {x : Nat} (hx : x < 127) (h : ¬ x = 59) : fX1_takesEnd a b c d (nI x) = some (0, a, b, c, d) := by
  unfold fX1_takesEnd
  rw [if_neg (show ¬ nI x = (59 : Int32) from fun e => h ((cxe (c := 59) hx (by decide)).mp e))]
theorem td_yes (pl wo y z : Int32) {x : Nat} (h1 : 48 ≤ x) (h2 : x ≤ 57) : fX1_takesDigit pl wo (nI x) y z = some (1, z, (y + nI x) - 48) := by
  unfold fX1_takesDigit
  rw [if_neg (show ¬ nI x < (48 : Int32) from nI_nlt (b := 48) h1 (by omega)), if_pos (show nI x ≤ (57 : Int32) from nI_le (b := 57) h2 (by omega))]
theorem td_no (pl wo y z : Int32) {x : Nat} (hx : x < 127) (h : ¬ (48 ≤ x ∧ x ≤ 57)) : fX1_takesDigit pl wo (nI x) y z = some (0, pl, wo) := by
  unfold fX1_takesDigit
  by_cases h48 : x < 48
  · rw [if_pos (show nI x < (48 : Int32) from nI_lt (b := 48) h48 (by omega))]
  · rw [if_neg (show ¬ nI x < (48 : Int32) from nI_nlt (b := 48) (by omega) (by omega)), if_neg (show ¬ nI x ≤ (57 : Int32) from nI_ge (a := 57) (by omega) (by omega))]
theorem tc_yes (pl cl : Int32) {m : Int32} {x : Nat} (h1 : 48 ≤ x) (h2 : x ≤ 53) (hb : zb m (x - 48) = true) : fX1_takesCliff pl m cl (nI x) = some (1, 3, nI (x - 48)) := by
  have e := (cx x (by omega)).2 h1
  unfold fX1_takesCliff
  rw [e, if_neg (nI_pos (by omega)), if_neg (show ¬ (6 : Int32) ≤ nI (x - 48) from nI_ge (b := 6) (by omega) (by omega)), zb_isIn m (by omega), Option.bind_some, if_pos hb, if_neg ne01]
theorem tc_no (pl cl : Int32) {m : Int32} {x : Nat} (hx : x < 127) (h : ¬ (48 ≤ x ∧ x ≤ 53 ∧ zb m (x - 48) = true)) : fX1_takesCliff pl m cl (nI x) = some (0, pl, cl) := by
  obtain ⟨e1, e2⟩ := cx x hx
  unfold fX1_takesCliff
  by_cases h48 : x < 48
  · rw [if_pos (e1 h48)]
  · rw [e2 (by omega), if_neg (nI_pos (by omega))]
    by_cases h53 : x ≤ 53
    · rw [if_neg (show ¬ (6 : Int32) ≤ nI (x - 48) from nI_ge (b := 6) (by omega) (by omega)), zb_isIn m (by omega), Option.bind_some, if_neg (fun hb => h ⟨by omega, h53, hb⟩), if_pos rfl]
    · rw [if_pos (show (6 : Int32) ≤ nI (x - 48) from nI_le (a := 6) (by omega) (by omega))]
def plo (a : Nat) : Int32 := if a = 0 then 0 else 1
theorem k_plot {a b x : Nat} (cl wo : Int32) (h : GP a b) (h1 : 48 + b ≤ x) (h2 : x ≤ 53) : tk (plo a, nI a, cl, wo) (nI x) = (1, 1, nI (a ||| 2 ^ (x - 48)), cl, wo) := by
  refine tk_of ?_
  unfold fX1_takes plo
  by_cases ha : a = 0
  · rw [if_pos ha, if_pos rfl, tp_yes h h1 h2, Option.bind_some, if_pos (Or.inr rfl)]
  · rw [if_neg ha, if_neg ne01, if_pos rfl, tp_yes h h1 h2, Option.bind_some, if_neg ne01]
theorem k_0 {x : Nat} (cl wo : Int32) (hx : x < 127) (h1 : ¬ (48 ≤ x ∧ x ≤ 53)) : (tk (0, 0, cl, wo) (nI x)).1 = 0 := by
  have e : tk (0, 0, cl, wo) (nI x) = (0, 0, 0, cl, wo) := by
    refine tk_of ?_
    unfold fX1_takes
    have h : fX1_takesPlot 0 0 (nI x) = some (0, 0, 0) := tp_no (pl := 0) GP_0 hx h1
    rw [if_pos rfl, h, Option.bind_some, if_pos (Or.inl rfl)]
  rw [e]
theorem k_bang {a b : Nat} (cl wo : Int32) (h : GP a b) : tk (1, nI a, cl, wo) (nI 33) = (1, 2, nI a, cl, wo) := by
  refine tk_of ?_
  unfold fX1_takes
  rw [if_neg ne01, if_pos rfl, tp_no h (by decide) (by omega), Option.bind_some, if_pos rfl, tsg_yes _ _ (c := 33) rfl, Option.bind_some, if_neg ne01]
theorem k_w1 {a b : Nat} (cl wo : Int32) (h : GP a b) : tk (1, nI a, cl, wo) (nI 119) = (1, 4, nI a, cl, wo) := by
  refine tk_of ?_
  unfold fX1_takes
  rw [if_neg ne01, if_pos rfl, tp_no h (by decide) (by omega), Option.bind_some, if_pos rfl, tsg_no _ _ (C := 33) (c := 33) rfl (by decide) (by decide) (by decide), Option.bind_some, if_pos rfl, tsg_yes _ _ (c := 119) rfl, Option.bind_some, if_neg ne01]
theorem k_e1 {a b : Nat} (cl wo : Int32) (h : GP a b) : tk (1, nI a, cl, wo) (nI 59) = (1, 0, 0, -1, 10) := by
  refine tk_of ?_
  unfold fX1_takes
  rw [if_neg ne01, if_pos rfl, tp_no h (by decide) (by omega), Option.bind_some, if_pos rfl, tsg_no _ _ (C := 33) (c := 33) rfl (by decide) (by decide) (by decide), Option.bind_some, if_pos rfl, tsg_no _ _ (C := 119) (c := 119) rfl (by decide) (by decide) (by decide), Option.bind_some, if_pos rfl, show nI 59 = (59 : Int32) from rfl, te_yes, Option.bind_some, if_neg ne01]
theorem k_1 {a b x : Nat} (cl wo : Int32) (h : GP a b) (hx : x < 127) (h1 : ¬ (48 + b ≤ x ∧ x ≤ 53)) (h2 : ¬ x = 33) (h3 : ¬ x = 119) (h4 : ¬ x = 59) : (tk (1, nI a, cl, wo) (nI x)).1 = 0 := by
  have e : tk (1, nI a, cl, wo) (nI x) = (0, 1, nI a, cl, wo) := by
    refine tk_of ?_
    unfold fX1_takes
    rw [if_neg ne01, if_pos rfl, tp_no h hx h1, Option.bind_some, if_pos rfl, tsg_no _ _ (C := 33) (c := 33) rfl (by decide) hx h2, Option.bind_some, if_pos rfl, tsg_no _ _ (C := 119) (c := 119) rfl (by decide) hx h3, Option.bind_some, if_pos rfl, te_no _ _ _ _ hx h4, Option.bind_some, if_pos rfl]
  rw [e]
theorem ne21 : ¬ (2 : Int32) = 1 := by decide
theorem k_cl {m : Int32} {x : Nat} (cl wo : Int32) (h1 : 48 ≤ x) (h2 : x ≤ 53) (hb : zb m (x - 48) = true) : tk (2, m, cl, wo) (nI x) = (1, 3, m, nI (x - 48), wo) := by
  refine tk_of ?_
  unfold fX1_takes
  rw [if_neg ne20, if_neg ne21, if_pos rfl, tc_yes _ _ h1 h2 hb, Option.bind_some, if_pos (Or.inr rfl)]
theorem k_2 {m : Int32} {x : Nat} (cl wo : Int32) (hx : x < 127) (h : ¬ (48 ≤ x ∧ x ≤ 53 ∧ zb m (x - 48) = true)) : (tk (2, m, cl, wo) (nI x)).1 = 0 := by
  have e : tk (2, m, cl, wo) (nI x) = (0, 2, m, cl, wo) := by
    refine tk_of ?_
    unfold fX1_takes
    rw [if_neg ne20, if_neg ne21, if_pos rfl, tc_no _ _ hx h, Option.bind_some, if_pos (Or.inl rfl)]
  rw [e]
theorem ne3 : ¬ (3 : Int32) = 0 ∧ ¬ (3 : Int32) = 1 ∧ ¬ (3 : Int32) = 2 := by decide
theorem ne4 : ¬ (4 : Int32) = 0 ∧ ¬ (4 : Int32) = 1 ∧ ¬ (4 : Int32) = 2 ∧ ¬ (4 : Int32) = 3 := by decide
theorem ne5 : ¬ (5 : Int32) = 0 ∧ ¬ (5 : Int32) = 1 ∧ ¬ (5 : Int32) = 2 ∧ ¬ (5 : Int32) = 3 ∧ ¬ (5 : Int32) = 4 := by decide
theorem ne6 : ¬ (6 : Int32) = 0 ∧ ¬ (6 : Int32) = 1 ∧ ¬ (6 : Int32) = 2 ∧ ¬ (6 : Int32) = 3 ∧ ¬ (6 : Int32) = 4 ∧ ¬ (6 : Int32) = 5 := by decide
theorem k_w3 (m cl wo : Int32) : tk (3, m, cl, wo) (nI 119) = (1, 4, m, cl, wo) := by
  refine tk_of ?_
  unfold fX1_takes
  rw [if_neg ne3.1, if_neg ne3.2.1, if_neg ne3.2.2, if_pos rfl, tsg_yes _ _ (c := 119) rfl, Option.bind_some, if_neg ne01]
theorem k_e3 (m cl wo : Int32) : tk (3, m, cl, wo) (nI 59) = (1, 0, 0, -1, 10) := by
  refine tk_of ?_
  unfold fX1_takes
  rw [if_neg ne3.1, if_neg ne3.2.1, if_neg ne3.2.2, if_pos rfl, tsg_no _ _ (C := 119) (c := 119) rfl (by decide) (by decide) (by decide), Option.bind_some, if_pos rfl, show nI 59 = (59 : Int32) from rfl, te_yes, Option.bind_some, if_neg ne01]
theorem k_3 {x : Nat} (m cl wo : Int32) (hx : x < 127) (h3 : ¬ x = 119) (h4 : ¬ x = 59) : (tk (3, m, cl, wo) (nI x)).1 = 0 := by
  have e : tk (3, m, cl, wo) (nI x) = (0, 3, m, cl, wo) := by
    refine tk_of ?_
    unfold fX1_takes
    rw [if_neg ne3.1, if_neg ne3.2.1, if_neg ne3.2.2, if_pos rfl, tsg_no _ _ (C := 119) (c := 119) rfl (by decide) hx h3, Option.bind_some, if_pos rfl, te_no _ _ _ _ hx h4, Option.bind_some, if_pos rfl]
  rw [e]
theorem k_d1 {x : Nat} (m cl wo : Int32) (h1 : 49 ≤ x) (h2 : x ≤ 57) : tk (4, m, cl, wo) (nI x) = (1, 5, m, cl, nI (x - 48)) := by
  refine tk_of ?_
  have e := (cx x (by omega)).2 (by omega)
  unfold fX1_takes
  rw [if_neg ne4.1, if_neg ne4.2.1, if_neg ne4.2.2.1, if_neg ne4.2.2.2, if_pos rfl, if_neg (show ¬ nI x = (48 : Int32) from fun h => by have := (cxe (c := 48) (by omega) (by decide)).mp h; omega), td_yes _ _ _ _ (by omega) h2, Option.bind_some, if_neg ne01, Int32.zero_add, e]
theorem k_4 {x : Nat} (m cl wo : Int32) (hx : x < 127) (h : ¬ (49 ≤ x ∧ x ≤ 57)) : (tk (4, m, cl, wo) (nI x)).1 = 0 := by
  have e : tk (4, m, cl, wo) (nI x) = (0, 4, m, cl, wo) := by
    refine tk_of ?_
    unfold fX1_takes
    rw [if_neg ne4.1, if_neg ne4.2.1, if_neg ne4.2.2.1, if_neg ne4.2.2.2, if_pos rfl]
    by_cases h48 : x = 48
    · rw [if_pos (by rw [h48]; rfl)]
    · rw [if_neg (show ¬ nI x = (48 : Int32) from fun h => h48 ((cxe (c := 48) hx (by decide)).mp h)), td_no _ _ _ _ hx (by omega), Option.bind_some, if_pos rfl]
  rw [e]
theorem k_d2 {x : Nat} (m cl wo : Int32) (h1 : 48 ≤ x) (h2 : x ≤ 57) : tk (5, m, cl, wo) (nI x) = (1, 6, m, cl, (wo * 10 + nI x) - 48) := by
  refine tk_of ?_
  unfold fX1_takes
  rw [if_neg ne5.1, if_neg ne5.2.1, if_neg ne5.2.2.1, if_neg ne5.2.2.2.1, if_neg ne5.2.2.2.2, if_pos rfl, td_yes _ _ _ _ h1 h2, Option.bind_some, if_neg ne01]
theorem k_e5 (m cl wo : Int32) : tk (5, m, cl, wo) (nI 59) = (1, 0, 0, -1, 10) := by
  refine tk_of ?_
  unfold fX1_takes
  rw [if_neg ne5.1, if_neg ne5.2.1, if_neg ne5.2.2.1, if_neg ne5.2.2.2.1, if_neg ne5.2.2.2.2, if_pos rfl, td_no _ _ _ _ (by decide) (by decide), Option.bind_some, if_pos rfl, show nI 59 = (59 : Int32) from rfl, te_yes, Option.bind_some, if_neg ne01]
theorem k_5 {x : Nat} (m cl wo : Int32) (hx : x < 127) (h : ¬ (48 ≤ x ∧ x ≤ 57)) (h4 : ¬ x = 59) : (tk (5, m, cl, wo) (nI x)).1 = 0 := by
  have e : tk (5, m, cl, wo) (nI x) = (0, 5, m, cl, wo) := by
    refine tk_of ?_
    unfold fX1_takes
    rw [if_neg ne5.1, if_neg ne5.2.1, if_neg ne5.2.2.1, if_neg ne5.2.2.2.1, if_neg ne5.2.2.2.2, if_pos rfl, td_no _ _ _ _ hx h, Option.bind_some, if_pos rfl, te_no _ _ _ _ hx h4, Option.bind_some, if_pos rfl]
  rw [e]
theorem k_e6 (m cl wo : Int32) : tk (6, m, cl, wo) (nI 59) = (1, 0, 0, -1, 10) := by
  refine tk_of ?_
  unfold fX1_takes
  rw [if_neg ne6.1, if_neg ne6.2.1, if_neg ne6.2.2.1, if_neg ne6.2.2.2.1, if_neg ne6.2.2.2.2.1, if_neg ne6.2.2.2.2.2, show nI 59 = (59 : Int32) from rfl, te_yes, Option.bind_some, if_pos (Or.inr rfl)]
theorem k_6 {x : Nat} (m cl wo : Int32) (hx : x < 127) (h4 : ¬ x = 59) : (tk (6, m, cl, wo) (nI x)).1 = 0 := by
  have e : tk (6, m, cl, wo) (nI x) = (0, 6, m, cl, wo) := by
    refine tk_of ?_
    unfold fX1_takes
    rw [if_neg ne6.1, if_neg ne6.2.1, if_neg ne6.2.2.1, if_neg ne6.2.2.2.1, if_neg ne6.2.2.2.2.1, if_neg ne6.2.2.2.2.2, te_no _ _ _ _ hx h4, Option.bind_some, if_pos (Or.inl rfl)]
  rw [e]
