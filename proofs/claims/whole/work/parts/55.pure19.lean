/-! PURE: open cliffs, both -/
section PN
variable {n L c : Nat} {reached lost size : Int32} {plots cliffs words needs told rea wread ltold lout sets ms : Nat → Int32}
theorem zV.v_open (V : zV n L c reached lost size plots cliffs words needs told rea wread ltold lout sets ms) {r : Nat} (hr : r < 6) : fX4_openCliffs size plots cliffs (told r ||| rea r) = some (zup (gO ms r) n 0 0) ∧ fX7_open ms (nI r) = some (zup (gO ms r) n 0 0) := by
  have hn := V.1.1
  have hz : n < zfuel := Nat.lt_of_le_of_lt hn (by decide)
  refine ⟨?_, V.open_4 hr n 0 zfuel 0 (by omega) hz⟩
  obtain ⟨v, h1, h2⟩ := V.open_12 hr n zfuel 0 0 hz (Nat.le_refl n)
  unfold fX4_openCliffs
  rw [V.1.2.1] at h1 ⊢
  rw [h1]
  refine congrArg some (zb_ext fun x hx => ?_)
  rw [h2 x hx, zb_0, Bool.false_or, Bool.not_false, Bool.and_true]
end PN
