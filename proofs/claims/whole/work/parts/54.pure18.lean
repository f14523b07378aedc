/-! PURE: the class's open cliffs are the reference's -/
theorem zup_end {α : Type} (g : Nat → α → α) : ∀ (d j : Nat) (a : α), zup g (d + 1) j a = g (j + d) (zup g d j a)
  | 0, _, _ => rfl
  | d + 1, j, a => by
    have h := zup_end g d (j + 1) (g j a)
    rw [show j + (d + 1) = j + 1 + d by omega]
    exact h
section PM
variable {n L c : Nat} {reached lost size : Int32} {plots cliffs words needs told rea wread ltold lout sets ms : Nat → Int32}
theorem zV.open_12 (V : zV n L c reached lost size plots cliffs words needs told rea wread ltold lout sets ms) {r : Nat} (hr : r < 6) : ∀ (p k : Nat) (o w : Int32), p < k → p ≤ n → ∃ v, fX4_openCliffs_12 k size plots cliffs (told r ||| rea r) o w (nI p - 1) = some v ∧ ∀ x, x < 32 → zb v x = (zb o x || (zb (zup (gO ms r) p 0 0) x && !zb w x))
  | 0, k + 1, o, w, _, _ => by
    unfold fX4_openCliffs_12
    rw [if_pos nI_neg1']
    refine ⟨o, rfl, fun x _ => ?_⟩
    have e : zup (gO ms r) 0 0 0 = (0 : Int32) := rfl
    rw [e, zb_0, Bool.false_and, Bool.or_false]
  | p + 1, k + 1, o, w, hk, hp => by
    have hn := V.1.1
    obtain ⟨a1, a2, -, -, a5⟩ := V.2.2.2.2.1 p (by omega)
    have hkn := V.kn hr (q := p) (by omega)
    have ih := fun o w => V.open_12 hr p k o w (by omega) (by omega)
    unfold fX4_openCliffs_12
    rw [nI_pred, if_neg (nI_pos (by omega)), zb_isIn _ (by omega), Option.bind_some, nI_clamp (by omega), nI_dn, zup_end, Nat.zero_add, hkn]
    simp only [if_pos (zin_nI (show p < 20 by omega) (by decide))]
    by_cases h0 : mkn ms r p = 0
    · have e : ∀ s, gO ms r p s = s := fun s => if_pos h0
      rw [e, decide_eq_true h0, if_pos (by decide)]
      exact ih o w
    · have e : ∀ s, gO ms r p s = (s &&& (mpl ms p ^^^ (-1))) ||| mcb ms p := fun s => if_neg h0
      rw [e, decide_eq_false h0, if_neg (by decide)]
      rw [a1]
      have key : ∀ o' : Int32, (∀ x, x < 32 → zb o' x = (zb o x || (zb (mcb ms p) x && !zb w x))) → ∃ v, fX4_openCliffs_12 k size plots cliffs (told r ||| rea r) o' (w ||| mpl ms p) (nI p - 1) = some v ∧ ∀ x, x < 32 → zb v x = (zb o x || (zb ((zup (gO ms r) p 0 0 &&& (mpl ms p ^^^ (-1))) ||| mcb ms p) x && !zb w x)) := by
        intro o' ho
        obtain ⟨v, h1, h2⟩ := ih o' (w ||| mpl ms p)
        refine ⟨v, h1, fun x hx => ?_⟩
        rw [h2 x hx, ho x hx, zb_or, zb_or, zb_and, zb_not _ hx]
        cases zb o x <;> cases zb w x <;> cases zb (mcb ms p) x <;> cases zb (mpl ms p) x <;> cases zb (zup (gO ms r) p 0 0) x <;> rfl
      rcases a5 with h5 | ⟨y, hy, h5⟩
      · rw [if_pos h5]
        refine key o (fun x hx => ?_)
        have e3 : mcb ms p = 0 := if_pos (by rw [← a2]; exact h5)
        rw [e3, zb_0, Bool.false_and, Bool.or_false]
      · have h6 : ¬ nI y = -1 := by
          have : y = 0 ∨ y = 1 ∨ y = 2 ∨ y = 3 ∨ y = 4 ∨ y = 5 := by omega
          rcases this with h | h | h | h | h | h <;> rw [h] <;> decide
        have e3 : mcb ms p = zbit y := by
          unfold mcb
          rw [← a2, h5, if_neg h6]
          rfl
        rw [h5, if_neg h6, zb_isIn w (by omega), Option.bind_some]
        by_cases hw : zb w y = true
        · rw [if_pos hw, if_neg (by decide)]
          refine key o (fun x hx => ?_)
          rw [e3, zb_zbit (by omega) hx]
          by_cases hxy : x = y
          · rw [hxy, hw]; simp
          · rw [decide_eq_false hxy, Bool.false_and, Bool.or_false]
        · rw [if_neg hw, if_pos rfl]
          refine key (o ||| zbit y) (fun x hx => ?_)
          rw [e3, zb_or, zb_zbit (by omega) hx]
          by_cases hxy : x = y
          · have hw2 : zb w y = false := by simpa using hw
            rw [hxy, hw2]; simp
          · rw [decide_eq_false hxy, Bool.false_and]
end PM
