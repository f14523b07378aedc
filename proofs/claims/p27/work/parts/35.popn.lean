/-! PURE: bitCount counts bits -/
theorem nand_cat (k : Nat) {a b c d : Nat} (hb : b < 2 ^ k) (hd : d < 2 ^ k) : (2 ^ k * a + b) &&& (2 ^ k * c + d) = 2 ^ k * (a &&& c) + (b &&& d) := by
  apply Nat.eq_of_testBit_eq
  intro i
  have h1 : b &&& d < 2 ^ k := Nat.and_lt_two_pow _ hd
  rw [Nat.testBit_and, Nat.testBit_two_pow_mul_add a hb, Nat.testBit_two_pow_mul_add c hd, Nat.testBit_two_pow_mul_add (a &&& c) h1]
  by_cases hi : i < k
  · simp only [hi, if_true, Nat.testBit_and]
  · simp only [hi, if_false, Nat.testBit_and]
def popN : Nat → Nat → Nat
  | 0, _ => 0
  | k + 1, n => n % 2 + popN k (n / 2)
theorem popN_cat (k a v : Nat) : popN (k + 4) (16 * a + v) = if v < 16 then popN 4 v + popN k a else popN (k + 4) (16 * a + v) := by
  by_cases h : v < 16
  · rw [if_pos h]
    have h1 : (16 * a + v) / 2 / 2 / 2 / 2 = a := by omega
    simp only [popN, h1]
    omega
  · rw [if_neg h]
def sw1 (n M : Nat) : Nat := n - (n / 2 &&& M)
def sw2 (t M : Nat) : Nat := (t &&& M) + (t / 4 &&& M)
theorem sw_small : ∀ v, v < 16 → ∀ b, b < 2 → ((8 * b + v / 2) &&& 5 = v / 2 &&& 5 ∧ v / 2 &&& 5 ≤ v ∧ v - (v / 2 &&& 5) < 16) := by decide +kernel
theorem sw_small2 : ∀ v, v < 16 → ∀ b, b < 4 → ((v - (v / 2 &&& 5)) &&& 3) + ((4 * b + (v - (v / 2 &&& 5)) / 4) &&& 3) = popN 4 v := by decide +kernel
theorem sw1_cat {a v M : Nat} (hv : v < 16) : sw1 (16 * a + v) (16 * M + 5) = 16 * sw1 a M + (v - (v / 2 &&& 5)) ∧ a / 2 &&& M ≤ a := by
  have h0 : a / 2 &&& M ≤ a := Nat.le_trans Nat.and_le_left (Nat.div_le_self a 2)
  have h1 : (16 * a + v) / 2 = 2 ^ 4 * (a / 2) + (8 * (a % 2) + v / 2) := by omega
  have h2 := nand_cat 4 (a := a / 2) (b := 8 * (a % 2) + v / 2) (c := M) (d := 5) (by omega) (by omega)
  obtain ⟨e1, e2, e3⟩ := sw_small v hv (a % 2) (by omega)
  rw [e1] at h2
  refine ⟨?_, h0⟩
  unfold sw1
  rw [h1, show 16 * M + 5 = 2 ^ 4 * M + 5 from rfl, h2]
  omega
theorem sw2_cat {t v M : Nat} (hv : v < 16) : sw2 (16 * t + (v - (v / 2 &&& 5))) (16 * M + 3) = 16 * sw2 t M + popN 4 v := by
  obtain ⟨e1, e2, e3⟩ := sw_small v hv 0 (by omega)
  have h1 : (16 * t + (v - (v / 2 &&& 5))) / 4 = 2 ^ 4 * (t / 4) + (4 * (t % 4) + (v - (v / 2 &&& 5)) / 4) := by omega
  have h2 := nand_cat 4 (a := t / 4) (b := 4 * (t % 4) + (v - (v / 2 &&& 5)) / 4) (c := M) (d := 3) (by omega) (by omega)
  have h3 := nand_cat 4 (a := t) (b := v - (v / 2 &&& 5)) (c := M) (d := 3) (by omega) (by omega)
  have h4 := sw_small2 v hv (t % 4) (by omega)
  unfold sw2
  rw [h1, show 16 * M + 3 = 2 ^ 4 * M + 3 from rfl, h2, show 16 * t + (v - (v / 2 &&& 5)) = 2 ^ 4 * t + (v - (v / 2 &&& 5)) from rfl, h3]
  omega
def sw5 : Nat → Nat
  | 0 => 0
  | k + 1 => 16 * sw5 k + 5
def sw3 : Nat → Nat
  | 0 => 0
  | k + 1 => 16 * sw3 k + 3
/-- the sum of the nibbles' counts, in their places -/
def swD : Nat → Nat → Nat
  | 0, _ => 0
  | k + 1, n => 16 * swD k (n / 16) + popN 4 (n % 16)
theorem sw_all : ∀ (k n : Nat), n < 16 ^ k → sw2 (sw1 n (sw5 k)) (sw3 k) = swD k n
  | 0, n, h => by
    have : n = 0 := by simpa using h
    subst this
    rfl
  | k + 1, n, h => by
    have hn : n = 16 * (n / 16) + n % 16 := by omega
    have h1 := (sw1_cat (a := n / 16) (v := n % 16) (M := sw5 k) (by omega)).1
    have h2 := sw2_cat (t := sw1 (n / 16) (sw5 k)) (v := n % 16) (M := sw3 k) (by omega)
    have h3 := sw_all k (n / 16) (by rw [Nat.pow_succ] at h; omega)
    rw [← hn] at h1
    unfold swD sw5 sw3
    rw [h1, h2, h3]
theorem popN_all : ∀ (k n : Nat), popN (4 * (k + 1)) n = popN 4 (n % 16) + popN (4 * k) (n / 16) := by
  intro k n
  have h := popN_cat (4 * k) (n / 16) (n % 16)
  rw [if_pos (by omega)] at h
  have hn : 16 * (n / 16) + n % 16 = n := by omega
  rw [hn] at h
  exact h
theorem popN_4 : ∀ v, v < 16 → popN 4 v ≤ 4 := by decide
theorem popN_4' (n : Nat) : popN 4 (n % 16) ≤ 4 := popN_4 _ (by omega)
theorem sw_5 : sw5 8 = 1431655765 := by decide
theorem sw_3 : sw3 8 = 858993459 := by decide
/-- the last steps -/
theorem sw_end {p0 p1 p2 p3 p4 p5 p6 p7 y : Nat} (h0 : p0 ≤ 4) (h1 : p1 ≤ 4) (h2 : p2 ≤ 4) (h3 : p3 ≤ 4) (h4 : p4 ≤ 4) (h5 : p5 ≤ 4) (h6 : p6 ≤ 4) (h7 : p7 ≤ 4) (hy : y = 16 * (16 * (16 * (16 * (16 * (16 * (16 * (16 * 0 + p7) + p6) + p5) + p4) + p3) + p2) + p1) + p0) :
    y + y / 16 &&& 252645135 = 256 * (256 * (256 * (p6 + p7) + (p4 + p5)) + (p2 + p3)) + (p0 + p1) := by
  have a15 : ∀ a b : Nat, a ≤ 8 → b ≤ 8 → (16 * a + b) &&& 15 = b := by
    intro a b ha hb
    rw [show 15 = 2 ^ 4 - 1 from rfl, Nat.and_two_pow_sub_one_eq_mod]
    omega
  have hs : y + y / 16 = 2 ^ 8 * (2 ^ 8 * (2 ^ 8 * (16 * p7 + (p6 + p7)) + (16 * (p5 + p6) + (p4 + p5))) + (16 * (p3 + p4) + (p2 + p3))) + (16 * (p1 + p2) + (p0 + p1)) := by omega
  rw [hs, show 252645135 = 2 ^ 8 * (2 ^ 8 * (2 ^ 8 * 15 + 15) + 15) + 15 from rfl, nand_cat 8 (by omega) (by omega), nand_cat 8 (by omega) (by omega), nand_cat 8 (by omega) (by omega), a15 _ _ (by omega) (by omega), a15 _ _ (by omega) (by omega), a15 _ _ (by omega) (by omega), a15 _ _ (by omega) (by omega)]
