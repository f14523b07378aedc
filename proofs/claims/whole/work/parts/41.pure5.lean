/-! PURE: how many bits, and the greatest of them -/
/-- the bits from j on, d places -/
def zcnt (m : Int32) : Nat → Nat → Nat
  | 0, _ => 0
  | d + 1, j => (if zb m j = true then 1 else 0) + zcnt m d (j + 1)
theorem zcnt_s (m : Int32) (d j : Nat) : zcnt m (d + 1) j = (if zb m j = true then 1 else 0) + zcnt m d (j + 1) := rfl
theorem popN_s (d n : Nat) : popN (d + 1) n = n % 2 + popN d (n / 2) := rfl
theorem zb_zu (m : Int32) (i : Nat) : zb m i = (zu m).testBit i := rfl
theorem popN_zcnt (m : Int32) : ∀ (d j : Nat), popN d (zu m / 2 ^ j) = zcnt m d j
  | 0, _ => rfl
  | d + 1, j => by
    have h := popN_zcnt m d (j + 1)
    rw [popN_s, zcnt_s, ← h, Nat.div_div_eq_div_mul, ← Nat.pow_succ, zb_zu, Nat.testBit_eq_decide_div_mod_eq]
    by_cases h2 : zu m / 2 ^ j % 2 = 1
    · rw [decide_eq_true h2, if_pos rfl, h2]
    · rw [decide_eq_false h2, if_neg (by decide), show zu m / 2 ^ j % 2 = 0 by omega]
theorem zpop_cnt (m : Int32) : zpop m = zcnt m 32 0 := by
  have h := popN_zcnt m 32 0
  rw [Nat.pow_zero, Nat.div_one] at h
  exact h
theorem zcnt_add (m : Int32) : ∀ (a b j : Nat), zcnt m (a + b) j = zcnt m a j + zcnt m b (j + a)
  | 0, b, j => by rw [Nat.zero_add, Nat.add_zero]; exact (Nat.zero_add _).symm
  | a + 1, b, j => by
    have h := zcnt_add m a b (j + 1)
    rw [show a + 1 + b = (a + b) + 1 by omega]
    rw [zcnt_s, zcnt_s, h, show j + 1 + a = j + (a + 1) by omega, Nat.add_assoc]
theorem zcnt_none (m : Int32) : ∀ (d j : Nat), (∀ q, j ≤ q → q < j + d → zb m q = false) → zcnt m d j = 0
  | 0, _, _ => rfl
  | d + 1, j, h => by
    have h1 := zcnt_none m d (j + 1) (fun q h2 h3 => h q (by omega) (by omega))
    rw [zcnt_s, h1, h j (Nat.le_refl j) (by omega)]
    rfl
theorem zcnt_le (m : Int32) : ∀ (d j : Nat), zcnt m d j ≤ d
  | 0, _ => Nat.le_refl 0
  | d + 1, j => by
    have h := zcnt_le m d (j + 1)
    rw [zcnt_s]
    split <;> omega
theorem zcnt_congr {a b : Int32} : ∀ (d j : Nat), (∀ q, j ≤ q → q < j + d → zb a q = zb b q) → zcnt a d j = zcnt b d j
  | 0, _, _ => rfl
  | d + 1, j, h => by
    have h1 := zcnt_congr (a := a) (b := b) d (j + 1) (fun q h2 h3 => h q (by omega) (by omega))
    rw [zcnt_s, zcnt_s, h1, h j (Nat.le_refl j) (by omega)]
/-- no bit at 20 or above -/
def zl20 (m : Int32) : Prop := ∀ q, 20 ≤ q → q < 32 → zb m q = false
theorem zpop_20 {m : Int32} (h : zl20 m) : zpop m = zcnt m 20 0 := by
  rw [zpop_cnt, show 32 = 20 + 12 from rfl, zcnt_add, zcnt_none m 12 (0 + 20) (fun q h2 h3 => h q (by omega) (by omega)), Nat.add_zero]
theorem p_ones_4 (m : Int32) : ∀ (d j k c : Nat), j + d = 20 → d < k → fX7_ones_4 k m (nI c) (nI j) = some (nI (c + zcnt m d j))
  | 0, j, k + 1, c, hj, _ => by
    unfold fX7_ones_4
    rw [show (20 : Int32) = nI 20 from by decide, if_pos (nI_le (by omega) (by omega))]
    rfl
  | d + 1, j, k + 1, c, hj, hk => by
    unfold fX7_ones_4
    rw [show (20 : Int32) = nI 20 from by decide, if_neg (nI_ge (by omega) (by omega)), zb_bit m (by omega), nI_1]
    have e : nI c + (if zb m j = true then 1 else 0) = nI (c + if zb m j = true then 1 else 0) := by
      split
      · exact nI_1 c
      · exact nI_add c 0
    rw [e, p_ones_4 m d (j + 1) k _ (by omega) (by omega)]
    rw [zcnt_s, Nat.add_assoc]
theorem p_ones {m : Int32} (h : zl20 m) : fX7_ones m = some (nI (zpop m)) := by
  have h1 := p_ones_4 m 20 0 zfuel 0 rfl (by decide)
  rw [Nat.zero_add, ← zpop_20 h] at h1
  exact h1
/-- the lowest bit goes -/
theorem zu_pred {x : Int32} (h : 0 < zu x) : zu (x - 1) = zu x - 1 := by
  rw [zu_sub (by rw [show zu 1 = 1 from by decide]; exact h)]
  rfl
theorem zb_clr {x : Int32} {t q : Nat} (h0 : ∀ q, q < t → zb x q = false) (h1 : zb x t = true) : zb (x &&& (x - 1)) q = (zb x q && !decide (q = t)) := by
  rw [zb_zu, zu_and]
  have hlow : zu x % 2 ^ t = 0 := by
    apply Nat.eq_of_testBit_eq
    intro i
    rw [Nat.testBit_mod_two_pow, Nat.zero_testBit]
    by_cases hi : i < t
    · have h2 := h0 i hi
      rw [zb_zu] at h2
      rw [h2, Bool.and_false]
    · rw [decide_eq_false hi, Bool.false_and]
  have hbit : zu x / 2 ^ t % 2 = 1 := by
    rw [zb_zu, Nat.testBit_eq_decide_div_mod_eq] at h1
    exact of_decide_eq_true h1
  have hx : zu x = 2 ^ t * (2 * (zu x / 2 ^ t / 2) + 1) + 0 := by
    have h2 := Nat.div_add_mod (zu x) (2 ^ t)
    have h3 : zu x / 2 ^ t = 2 * (zu x / 2 ^ t / 2) + 1 := by omega
    rw [← h3]
    omega
  generalize zu x / 2 ^ t / 2 = a at hx
  have ht : 0 < 2 ^ t := Nat.two_pow_pos t
  have hpos : 0 < zu x := by
    rw [hx]
    exact Nat.lt_of_lt_of_le ht (by rw [Nat.add_zero]; exact Nat.le_mul_of_pos_right _ (by omega))
  have hp : zu (x - 1) = 2 ^ t * (2 * a) + (2 ^ t - 1) := by
    rw [zu_pred hpos, hx, Nat.mul_add]
    omega
  have e1 : (2 * a + 1) &&& (2 * a) = 2 * a := by
    have h2 := nand_cat 1 (a := a) (b := 1) (c := a) (d := 0) (by decide) (by decide)
    simpa [Nat.and_self] using h2
  rw [hp, zb_zu, hx, nand_cat t ht (by omega), e1, Nat.zero_and, Nat.testBit_two_pow_mul_add _ ht, Nat.testBit_two_pow_mul_add _ ht]
  by_cases hq : q < t
  · simp [hq]
  · rw [if_neg hq, if_neg hq]
    by_cases he : q = t
    · subst he
      simp
    · obtain ⟨i, hi⟩ : ∃ i, q - t = i + 1 := ⟨q - t - 1, by omega⟩
      rw [hi, Nat.testBit_succ, Nat.testBit_succ, decide_eq_false he, show (2 * a + 1) / 2 = 2 * a / 2 by omega]
      simp
