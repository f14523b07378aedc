/-! PURE: how many parts a reader does not know -/
theorem zcnt_compl {a b : Int32} : ∀ (d j : Nat), (∀ q, j ≤ q → q < j + d → zb a q = !zb b q) → zcnt a d j + zcnt b d j = d
  | 0, _, _ => rfl
  | d + 1, j, h => by
    have h1 := zcnt_compl (a := a) (b := b) d (j + 1) (fun q h2 h3 => h q (by omega) (by omega))
    have h2 := h j (Nat.le_refl j) (by omega)
    rw [zcnt_s, zcnt_s, h2]
    cases zb b j <;> simp <;> omega
section PI
variable {n L c : Nat} {reached lost size : Int32} {plots cliffs words needs told rea wread ltold lout sets ms : Nat → Int32}
theorem zV.v_manyUnknown (V : zV n L c reached lost size plots cliffs words needs told rea wread ltold lout sets ms) {r : Nat} (hr : r < 6) : fX7_manyKnown ms (nI r) 0 = some (size - nI (zpop (told r ||| rea r))) := by
  have hn := V.1.1
  have hU : ∀ q, q < 32 → zb (sU (mkn ms r) n) q = (decide (q < n) && decide (mkn ms r q = 0)) := fun q hq => sU_bit _ (by omega) hq
  have hK : ∀ q, n ≤ q → q < 32 → zb (told r ||| rea r) q = false := fun q h1 h2 => by
    obtain ⟨h3, h4⟩ := V.2.2.2.2.2.1 r hr q h2
    rw [zb_or, h3, h4, decide_eq_false (by omega), Bool.false_and, Bool.false_and]
    rfl
  rw [p_manyKnown ms (sU (mkn ms r) n) 0 V.1.2.2 hn hr hU, V.1.2.1]
  have h1 := zpop_n hn (m := sU (mkn ms r) n) (fun q h2 h3 => by rw [hU q h3, decide_eq_false (by omega), Bool.false_and])
  have h2 := zpop_n hn hK
  have h3 := zcnt_compl (a := sU (mkn ms r) n) (b := told r ||| rea r) n 0 (fun q _ h4 => by rw [hU q (by omega), V.kn hr (by omega), decide_eq_true (by omega : q < n), Bool.true_and, Bool.not_not])
  have h4 : n = zpop (sU (mkn ms r) n) + zpop (told r ||| rea r) := by omega
  have h5 : nI n = nI (zpop (sU (mkn ms r) n)) + nI (zpop (told r ||| rea r)) := by rw [nI_add, ← h4]
  rw [h5, Int32.add_sub_cancel]
end PI
