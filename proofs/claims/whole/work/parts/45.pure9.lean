/-! PURE: the class's state against the reference's row -/
def mcl (ms : Nat → Int32) (q : Nat) : Int32 := ms (5 + 3 * q + 1)
/-- n parts, at most L lines, c words into one: the class's state is what the row ms says -/
def zV (n L c : Nat) (reached lost size : Int32) (plots cliffs words needs told rea wread ltold lout sets ms : Nat → Int32) : Prop :=
  (n ≤ 20 ∧ size = nI n ∧ ms 0 = nI n) ∧ (L ≤ 19 ∧ sets 0 = nI L ∧ ms 1 = nI L) ∧ (1 ≤ c ∧ c ≤ 20 ∧ sets 1 = nI c ∧ ms 2 = nI c) ∧ (reached = ms 3 ∧ lost = ms 4) ∧
  (∀ q, q < n → plots q = mpl ms q ∧ cliffs q = mcl ms q ∧ words q = mwd ms q ∧ needs q = sN (mpl ms) q ∧ (cliffs q = -1 ∨ ∃ x, x < 6 ∧ cliffs q = nI x)) ∧
  (∀ r, r < 6 → ∀ q, q < 32 → zb (told r) q = (decide (q < n) && decide (mkn ms r q = 1)) ∧ zb (rea r) q = (decide (q < n) && decide (mkn ms r q = 2))) ∧
  (∀ r, r < 6 → ∀ q, q < n → mkn ms r q = 0 ∨ mkn ms r q = 1 ∨ mkn ms r q = 2) ∧
  (∀ r, r < 6 → wread r = ms (65 + 3 * r) ∧ ltold r = ms (65 + 3 * r + 1) ∧ lout r = ms (65 + 3 * r + 2))
section PV
variable {n L c : Nat} {reached lost size : Int32} {plots cliffs words needs told rea wread ltold lout sets ms : Nat → Int32}
theorem zV.kn (V : zV n L c reached lost size plots cliffs words needs told rea wread ltold lout sets ms) {r q : Nat} (hr : r < 6) (hq : q < n) : zb (told r ||| rea r) q = !decide (mkn ms r q = 0) := by
  obtain ⟨⟨hn, -, -⟩, -, -, -, -, hm, hk, -⟩ := V
  obtain ⟨h1, h2⟩ := hm r hr q (by omega)
  rw [zb_or, h1, h2, decide_eq_true hq, Bool.true_and, Bool.true_and]
  rcases hk r hr q hq with h | h | h <;> rw [h] <;> decide
theorem zV.nd (V : zV n L c reached lost size plots cliffs words needs told rea wread ltold lout sets ms) {q : Nat} (hq : q < n) : needs q = sN (mpl ms) q := (V.2.2.2.2.1 q hq).2.2.2.1
/-- what the reader r misses with the part p -/
def sM (ms : Nat → Int32) (n r p : Nat) : Int32 := sA (sN (mpl ms)) (sU (mkn ms r) n) p
theorem zV.missed (V : zV n L c reached lost size plots cliffs words needs told rea wread ltold lout sets ms) {r p : Nat} (hr : r < 6) (hp : p < n) : fX3_missedParts needs told rea (nI r) (nI p) = some (sM ms n r p) ∧ fX7_missed ms (nI r) (nI p) = some (sM ms n r p) := by
  have hn := V.1.1
  refine ⟨?_, p_missed ms V.1.2.2 hn hr (by omega)⟩
  rw [p_missedParts needs told rea hr (by omega)]
  exact congrArg some (missed_eq hn hp (fun q hq => V.nd hq) (fun q hq => V.kn hr hq))
theorem sM_20 {r p : Nat} (hp : p < 20) : zl20 (sM ms n r p) := sA_20 (mpl ms) _ hp
theorem zV.v_told (V : zV n L c reached lost size plots cliffs words needs told rea wread ltold lout sets ms) {m : Int32} (hm : zl20 m) : fX3_toldParts sets m = some (sT m L) ∧ fX7_told ms m = some (sT m L) :=
  ⟨p_toldParts sets hm (by have := V.2.1.1; omega) V.2.1.2.1, p_told ms m (by have := V.2.1.1; omega) V.2.1.2.2⟩
theorem zV.v_words (V : zV n L c reached lost size plots cliffs words needs told rea wread ltold lout sets ms) (m : Int32) : fX3_lineWords size words sets m = some (sW (mwd ms) (nI c) m n) ∧ fX7_wordsOf ms m = some (sW (mwd ms) (nI c) m n) := by
  obtain ⟨⟨hn, hs, hn0⟩, -, ⟨hc1, hc2, hc3, hc4⟩, -, hp, -⟩ := V
  refine ⟨?_, p_wordsOf ms m hc1 (by omega) hc4 hn0 hn⟩
  rw [hs, p_lineWords words sets m hc1 (by omega) hc3 hn]
  exact congrArg some (sW_congr _ _ (fun q hq => (hp q hq).2.2.1))
theorem zV.recap (V : zV n L c reached lost size plots cliffs words needs told rea wread ltold lout sets ms) {r p : Nat} (hr : r < 6) (hp : p < n) (x : Int32) : ∃ v, fX3_ofRecap size words needs told rea sets (nI r) (nI p) x = some v ∧ fX7_recapOf ms (nI r) (nI p) x = some v := by
  have hn := V.1.1
  obtain ⟨a1, a2⟩ := V.missed hr hp
  have hM := sM_20 (ms := ms) (n := n) (r := r) (p := p) (by omega)
  obtain ⟨b1, b2⟩ := V.v_told hM
  obtain ⟨d1, d2⟩ := V.v_words (sT (sM ms n r p) L)
  have o1 := p_ones hM
  have o2 := p_ones (sT_20 (sM ms n r p) L)
  have hw : words p = mwd ms p := (V.2.2.2.2.1 p hp).2.2.1
  unfold fX3_ofRecap fX7_recapOf
  rw [a1, a2, Option.bind_some, Option.bind_some, b1, b2, Option.bind_some, Option.bind_some, p_bitCount, p_bitCount, d1, d2, o1, o2, p_of2 ms (by omega), if_pos (zin_nI (by omega) (by decide)), nI_clamp (by omega), hw]
  by_cases h0 : x = 0
  · rw [if_pos h0, if_pos h0]; exact ⟨_, rfl, rfl⟩
  rw [if_neg h0, if_neg h0]
  by_cases h1 : x = 1
  · rw [if_pos h1, if_pos h1]; exact ⟨_, rfl, rfl⟩
  rw [if_neg h1, if_neg h1]
  by_cases h2 : x = 2
  · rw [if_pos h2, if_pos h2]; exact ⟨_, rfl, rfl⟩
  rw [if_neg h2, if_neg h2]
  by_cases h3 : x = 3
  · rw [if_pos h3, if_pos h3]; exact ⟨_, rfl, rfl⟩
  rw [if_neg h3, if_neg h3]
  exact ⟨_, rfl, rfl⟩
end PV
