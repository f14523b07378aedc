/-! PURE: bitCount on int -/
def zu (m : Int32) : Nat := m.toBitVec.toNat
theorem zu_lt (m : Int32) : zu m < 4294967296 := m.toBitVec.isLt
theorem zu_and (a b : Int32) : zu (a &&& b) = zu a &&& zu b := by
  unfold zu
  rw [Int32.toBitVec_and, BitVec.toNat_and]
theorem zu_add {a b : Int32} (h : zu a + zu b < 4294967296) : zu (a + b) = zu a + zu b := by
  unfold zu at *
  rw [Int32.toBitVec_add, BitVec.toNat_add]
  exact Nat.mod_eq_of_lt h
theorem zu_sub {a b : Int32} (h : zu b ≤ zu a) : zu (a - b) = zu a - zu b := by
  unfold zu at *
  rw [Int32.toBitVec_sub]
  exact BitVec.toNat_sub_of_le h
theorem zu_zus (x y : Int32) (c : Nat) (h : (y.toUInt32 &&& Int32.toUInt32 31).toNat % 32 = c) : zu (zus x y) = zu x / 2 ^ c := by
  have h1 : zu (zus x y) = (x.toUInt32 >>> (y.toUInt32 &&& Int32.toUInt32 31)).toNat := rfl
  have h2 : x.toUInt32.toNat = zu x := rfl
  rw [h1, UInt32.toNat_shiftRight, h, h2, Nat.shiftRight_eq_div_pow]
theorem zu_nI {n : Nat} (h : n < 4294967296) : zu (nI n) = n := by
  have h1 : zu (nI n) = n % 4294967296 := rfl
  rw [h1, Nat.mod_eq_of_lt h]
theorem zu_inj {a b : Int32} (h : zu a = zu b) : a = b := Int32.toBitVec_inj.mp (BitVec.eq_of_toNat_eq h)
/-- how many bits a mask has -/
def zpop (m : Int32) : Nat := popN 32 (zu m)
theorem popN_le : ∀ (k n : Nat), popN k n ≤ k
  | 0, _ => Nat.le_refl 0
  | k + 1, n => by
    have := popN_le k (n / 2)
    unfold popN
    omega
theorem zpop_le (m : Int32) : zpop m ≤ 32 := popN_le 32 _
theorem sw_fin {q0 q1 q2 q3 : Nat} (h0 : q0 ≤ 8) (h1 : q1 ≤ 8) (h2 : q2 ≤ 8) (h3 : q3 ≤ 8) : ((256 * (256 * (256 * q3 + q2) + q1) + q0) + (256 * (256 * (256 * q3 + q2) + q1) + q0) / 256 + ((256 * (256 * (256 * q3 + q2) + q1) + q0) + (256 * (256 * (256 * q3 + q2) + q1) + q0) / 256) / 65536) % 2 ^ 6 = q0 + q1 + q2 + q3 := by
  have e1 : (256 * (256 * (256 * q3 + q2) + q1) + q0) / 256 = 256 * (256 * q3 + q2) + q1 := by omega
  have e2 : ((256 * (256 * (256 * q3 + q2) + q1) + q0) + (256 * (256 * q3 + q2) + q1)) / 65536 = 256 * q3 + (q3 + q2) := by omega
  rw [e1, e2]
  omega
theorem p_bitCount (m : Int32) : fJ6_bitCount_0f7a4 m = some (nI (zpop m)) := by
  unfold fJ6_bitCount_0f7a4
  generalize ea : m - ((zus m 1) &&& 1431655765) = a
  generalize eb : (a &&& 858993459) + ((zus a 2) &&& 858993459) = b
  generalize ec : (b + zus b 4) &&& 252645135 = c
  generalize ed : c + zus c 8 = d
  refine congrArg some (zu_inj ?_)
  have hm := zu_lt m
  have ua : zu a = sw1 (zu m) 1431655765 := by
    rw [← ea]
    have e1 : zu (zus m 1 &&& 1431655765) = zu m / 2 &&& 1431655765 := by
      rw [zu_and, zu_zus m 1 1 (by decide)]
      rfl
    have e2 : zu m / 2 &&& 1431655765 ≤ zu m := Nat.le_trans Nat.and_le_left (Nat.div_le_self _ 2)
    rw [zu_sub (by rw [e1]; exact e2), e1]
    rfl
  have ub : zu b = sw2 (zu a) 858993459 := by
    rw [← eb]
    have e1 : zu (zus a 2 &&& 858993459) = zu a / 4 &&& 858993459 := by
      rw [zu_and, zu_zus a 2 2 (by decide)]
      rfl
    have e2 : zu (a &&& 858993459) = zu a &&& 858993459 := by
      rw [zu_and]
      rfl
    have l1 : zu a &&& 858993459 ≤ 858993459 := Nat.and_le_right
    have l2 : zu a / 4 &&& 858993459 ≤ 858993459 := Nat.and_le_right
    rw [zu_add (by rw [e1, e2]; omega), e1, e2]
    rfl
  have hb : zu b = swD 8 (zu m) := by
    rw [ub, ua, ← sw_5, ← sw_3]
    exact sw_all 8 (zu m) (by rw [show 16 ^ 8 = 4294967296 from by decide]; exact hm)
  have hpop : zpop m = popN 4 (zu m % 16) + (popN 4 (zu m / 16 % 16) + (popN 4 (zu m / 16 / 16 % 16) + (popN 4 (zu m / 16 / 16 / 16 % 16) + (popN 4 (zu m / 16 / 16 / 16 / 16 % 16) + (popN 4 (zu m / 16 / 16 / 16 / 16 / 16 % 16) + (popN 4 (zu m / 16 / 16 / 16 / 16 / 16 / 16 % 16) + (popN 4 (zu m / 16 / 16 / 16 / 16 / 16 / 16 / 16 % 16) + 0))))))) := by
    unfold zpop
    rw [show 32 = 4 * (7 + 1) from rfl, popN_all, show 4 * 7 = 4 * (6 + 1) from rfl, popN_all, show 4 * 6 = 4 * (5 + 1) from rfl, popN_all, show 4 * 5 = 4 * (4 + 1) from rfl, popN_all, show 4 * 4 = 4 * (3 + 1) from rfl, popN_all, show 4 * 3 = 4 * (2 + 1) from rfl, popN_all, show 4 * 2 = 4 * (1 + 1) from rfl, popN_all, show 4 * 1 = 4 * (0 + 1) from rfl, popN_all]
    rfl
  have hD : swD 8 (zu m) = 16 * (16 * (16 * (16 * (16 * (16 * (16 * (16 * 0 + popN 4 (zu m / 16 / 16 / 16 / 16 / 16 / 16 / 16 % 16)) + popN 4 (zu m / 16 / 16 / 16 / 16 / 16 / 16 % 16)) + popN 4 (zu m / 16 / 16 / 16 / 16 / 16 % 16)) + popN 4 (zu m / 16 / 16 / 16 / 16 % 16)) + popN 4 (zu m / 16 / 16 / 16 % 16)) + popN 4 (zu m / 16 / 16 % 16)) + popN 4 (zu m / 16 % 16)) + popN 4 (zu m % 16) := rfl
  have q0 := popN_4' (zu m)
  have q1 := popN_4' (zu m / 16)
  have q2 := popN_4' (zu m / 16 / 16)
  have q3 := popN_4' (zu m / 16 / 16 / 16)
  have q4 := popN_4' (zu m / 16 / 16 / 16 / 16)
  have q5 := popN_4' (zu m / 16 / 16 / 16 / 16 / 16)
  have q6 := popN_4' (zu m / 16 / 16 / 16 / 16 / 16 / 16)
  have q7 := popN_4' (zu m / 16 / 16 / 16 / 16 / 16 / 16 / 16)
  generalize popN 4 (zu m % 16) = p0 at *
  generalize popN 4 (zu m / 16 % 16) = p1 at *
  generalize popN 4 (zu m / 16 / 16 % 16) = p2 at *
  generalize popN 4 (zu m / 16 / 16 / 16 % 16) = p3 at *
  generalize popN 4 (zu m / 16 / 16 / 16 / 16 % 16) = p4 at *
  generalize popN 4 (zu m / 16 / 16 / 16 / 16 / 16 % 16) = p5 at *
  generalize popN 4 (zu m / 16 / 16 / 16 / 16 / 16 / 16 % 16) = p6 at *
  generalize popN 4 (zu m / 16 / 16 / 16 / 16 / 16 / 16 / 16 % 16) = p7 at *
  have hy := hb.trans hD
  have hc : zu c = 256 * (256 * (256 * (p6 + p7) + (p4 + p5)) + (p2 + p3)) + (p0 + p1) := by
    rw [← ec, zu_and]
    have e1 : zu (zus b 4) = zu b / 16 := zu_zus b 4 4 (by decide)
    rw [zu_add (by rw [e1]; omega), e1]
    exact sw_end q0 q1 q2 q3 q4 q5 q6 q7 hy
  have hd : zu d = zu c + zu c / 256 := by
    rw [← ed]
    have e1 : zu (zus c 8) = zu c / 256 := zu_zus c 8 8 (by decide)
    rw [zu_add (by rw [e1]; omega), e1]
  have e1 : zu (zus d 16) = zu d / 65536 := zu_zus d 16 16 (by decide)
  rw [zu_and, zu_add (by rw [e1]; omega), e1, show zu 63 = 2 ^ 6 - 1 from by decide, Nat.and_two_pow_sub_one_eq_mod, zu_nI (by rw [hpop]; omega), hpop, hd, hc, sw_fin (by omega) (by omega) (by omega) (by omega)]
  omega
