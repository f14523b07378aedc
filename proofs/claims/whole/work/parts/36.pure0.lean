/-! PURE: masks by their bits, loops by numbers -/
/-- the bit p of a mask -/
def zb (m : Int32) (p : Nat) : Bool := m.toBitVec.getLsbD p
theorem zb_ext {a b : Int32} (h : ∀ p, p < 32 → zb a p = zb b p) : a = b := by
  apply Int32.toBitVec_inj.mp
  apply BitVec.eq_of_getLsbD_eq
  intro i hi
  exact h i hi
theorem zb_and (a b : Int32) (p : Nat) : zb (a &&& b) p = (zb a p && zb b p) := by
  unfold zb
  rw [Int32.toBitVec_and, BitVec.getLsbD_and]
theorem zb_or (a b : Int32) (p : Nat) : zb (a ||| b) p = (zb a p || zb b p) := by
  unfold zb
  rw [Int32.toBitVec_or, BitVec.getLsbD_or]
theorem zb_m1 : ∀ p, p < 32 → zb (-1) p = true := by decide +kernel
theorem zb_not (a : Int32) {p : Nat} (h : p < 32) : zb (a ^^^ (-1)) p = !zb a p := by
  have h1 : zb (a ^^^ (-1)) p = (zb a p ^^ zb (-1) p) := by
    unfold zb
    rw [Int32.toBitVec_xor, BitVec.getLsbD_xor]
  rw [h1, zb_m1 p h]
  cases zb a p <;> rfl
theorem zb_0 (p : Nat) : zb 0 p = false := by
  unfold zb
  rw [show (0 : Int32).toBitVec = 0#32 from rfl, BitVec.getLsbD_zero]
theorem zb_sh : ∀ p, p < 32 → ((nI p &&& 31).toBitVec.smod 32).toNat = p := by decide +kernel
theorem zb_one : ∀ p, p < 32 → ∀ q, q < 32 → zb ((1 : Int32) <<< (nI p &&& 31)) q = decide (q = p) := by decide +kernel
theorem zb_1 : ∀ q, q < 32 → zb 1 q = decide (q = 0) := by decide +kernel
theorem zb_shr (m : Int32) {p : Nat} (h : p < 32) : zb (m >>> (nI p &&& 31)) 0 = zb m p := by
  unfold zb
  rw [Int32.toBitVec_shiftRight, BitVec.sshiftRight', zb_sh p h, BitVec.getLsbD_sshiftRight]
  simp [h]
theorem zb_bit (m : Int32) {p : Nat} (h : p < 32) : (m >>> (nI p &&& 31)) &&& 1 = if zb m p = true then 1 else 0 := by
  apply zb_ext
  intro q hq
  rw [zb_and, zb_1 q hq]
  by_cases h0 : q = 0
  · subst h0
    rw [zb_shr m h]
    cases zb m p <;> decide
  · rw [decide_eq_false h0, Bool.and_false]
    cases zb m p
    · rw [if_neg (by decide), zb_0]
    · rw [if_pos rfl, zb_1 q hq, decide_eq_false h0]
theorem zb_isIn (m : Int32) {p : Nat} (h : p < 32) : fX6_isIn m (nI p) = some (if zb m p = true then 1 else 0) := by
  unfold fX6_isIn
  rw [zb_bit m h]
  cases zb m p <;> rfl
theorem zin_nI {a n : Nat} (h : a < n) (hn : n < 2 ^ 31) : zin (nI a) n = true := decide_eq_true (nI_in h hn)
theorem nI_p1 (a : Nat) : nI a + 1 = nI (a + 1) := nI_1 a
theorem nI_m1 (a : Nat) : nI (a + 1) + (-1) = nI a := by
  have h : nI (a + 1) - 1 = nI a := nI_pred a
  rw [← h, Int32.sub_eq_add_neg]
theorem nI_neg1 : nI 0 + (-1) < 0 := by decide
theorem nI_neg1' : nI 0 - 1 < 0 := by decide
