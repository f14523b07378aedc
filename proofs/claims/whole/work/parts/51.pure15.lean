/-! PURE: who knows all -/
theorem zb_every : ∀ n, n < 21 → ∀ q, q < 32 → zb (((1 : Int32) <<< (nI n &&& 31)) - 1) q = decide (q < n) := by decide +kernel
section PJ
variable {n L c : Nat} {reached lost size : Int32} {plots cliffs words needs told rea wread ltold lout sets ms : Nat → Int32}
theorem zV.v_all (V : zV n L c reached lost size plots cliffs words needs told rea wread ltold lout sets ms) {r : Nat} (hr : r < 6) : (told r ||| rea r = ((1 : Int32) <<< (nI n &&& 31)) - 1) ↔ sU (mkn ms r) n = 0 := by
  have hn := V.1.1
  have hK : ∀ q, n ≤ q → q < 32 → zb (told r ||| rea r) q = false := fun q h1 h2 => by
    obtain ⟨h3, h4⟩ := V.2.2.2.2.2.1 r hr q h2
    rw [zb_or, h3, h4, decide_eq_false (by omega), Bool.false_and, Bool.false_and]
    rfl
  constructor
  · intro h
    apply zb_ext
    intro q hq
    rw [sU_bit _ (by omega) hq, zb_0]
    by_cases hl : q < n
    · have h1 := V.kn hr hl
      rw [h, zb_every n (by omega) q hq, decide_eq_true hl] at h1
      have h2 : decide (mkn ms r q = 0) = false := by
        cases hd : decide (mkn ms r q = 0)
        · rfl
        · rw [hd] at h1
          cases h1
      rw [h2, Bool.and_false]
    · rw [decide_eq_false hl, Bool.false_and]
  · intro h
    apply zb_ext
    intro q hq
    rw [zb_every n (by omega) q hq]
    by_cases hl : q < n
    · have h1 := sU_bit (mkn ms r) (n := n) (by omega) hq
      rw [h, zb_0, decide_eq_true hl, Bool.true_and] at h1
      rw [V.kn hr hl, ← h1, decide_eq_true hl]
      rfl
    · rw [hK q (by omega) hq, decide_eq_false hl]
end PJ
