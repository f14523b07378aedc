/-! PURE: the share of what is read -/
def shV (t n : Nat) : UInt64 := FP.ddiv (FP.i2d (nI t)) (FP.i2d (6 * nI n))
def shOk (t n : Nat) : Bool := zn64 (shV t n) && decide (fX6_bitsOfShare (shV t n) = some (shV t n).toInt64) && decide (fJxe99ae_doubleToLongBits_ccdee (shV t n) = some (shV t n).toInt64)
theorem shOk_all : ∀ n, n < 20 → ∀ t, t < 6 * (n + 1) + 1 → shOk t (n + 1) = true := by decide +kernel
section PR
variable {n L c : Nat} {reached lost size : Int32} {plots cliffs words needs told rea wread ltold lout sets ms : Nat → Int32}
theorem zV.read_le (V : zV n L c reached lost size plots cliffs words needs told rea wread ltold lout sets ms) {r : Nat} (hr : r < 6) : zpop (rea r) ≤ n := by
  have hn := V.1.1
  rw [zpop_n hn (fun q h1 h2 => by rw [(V.2.2.2.2.2.1 r hr q h2).2, decide_eq_false (by omega), Bool.false_and])]
  exact zcnt_le _ _ _
/-- how many parts are read, of the readers from j on -/
def sRd (rea : Nat → Int32) : Nat → Nat → Nat
  | 0, _ => 0
  | d + 1, j => zpop (rea j) + sRd rea d (j + 1)
theorem zV.sRd_le (V : zV n L c reached lost size plots cliffs words needs told rea wread ltold lout sets ms) : ∀ (d j : Nat), j + d = 6 → sRd rea d j ≤ d * n
  | 0, _, _ => Nat.zero_le _
  | d + 1, j, h => by
    have h1 := V.sRd_le d (j + 1) (by omega)
    have h2 := V.read_le (r := j) (by omega)
    rw [Nat.succ_mul]
    show zpop (rea j) + sRd rea d (j + 1) ≤ _
    omega
theorem p_sumRead (rea : Nat → Int32) : ∀ (d j k a : Nat), j + d = 6 → d < k → fX0_sumOfRead_4 k rea (nI a) (nI j) = some (nI (a + sRd rea d j))
  | 0, j, k + 1, a, hj, _ => by
    have e6 : (6 : Int32) ≤ nI j := nI_le (a := 6) (by omega) (by omega)
    unfold fX0_sumOfRead_4
    rw [if_pos e6]
    rfl
  | d + 1, j, k + 1, a, hj, hk => by
    have e6 : ¬ (6 : Int32) ≤ nI j := nI_ge (b := 6) (by omega) (by omega)
    unfold fX0_sumOfRead_4
    rw [if_neg e6, if_pos (zin_nI (by omega) (by decide)), nI_clamp (by omega), p_bitCount, Option.bind_some, nI_1, nI_add, p_sumRead rea d (j + 1) k _ (by omega) (by omega), Nat.add_assoc]
    rfl
theorem zV.share_4 (V : zV n L c reached lost size plots cliffs words needs told rea wread ltold lout sets ms) : ∀ (d j k a : Nat), j + d = 6 → d < k → fX7_share_4 k ms (nI a) (nI j) = fX7_share_4 (k - d) ms (nI (a + sRd rea d j)) (nI 6)
  | 0, j, k + 1, a, hj, _ => by
    have : j = 6 := by omega
    subst this
    rfl
  | d + 1, j, k + 1, a, hj, hk => by
    have e6 : ¬ (6 : Int32) ≤ nI j := nI_ge (b := 6) (by omega) (by omega)
    have e1 : sRd rea (d + 1) j = zpop (rea j) + sRd rea d (j + 1) := rfl
    have e2 : fX7_share_4 (k + 1) ms (nI a) (nI j) = fX7_share_4 k ms (nI (a + zpop (rea j))) (nI (j + 1)) := by
      rw [fX7_share_4, if_neg e6, V.v_manyRead (by omega), Option.bind_some, nI_1, nI_add]
    rw [e2, V.share_4 d (j + 1) k _ (by omega) (by omega), e1, Nat.add_assoc, show k + 1 - (d + 1) = k - d by omega]
theorem zV.v_share (V : zV n L c reached lost size plots cliffs words needs told rea wread ltold lout sets ms) : ∃ x : UInt64, fX3_shareRead size rea = some x ∧ fX7_share ms = some x ∧ fX6_bitsOfShare x = some x.toInt64 ∧ fJxe99ae_doubleToLongBits_ccdee x = some x.toInt64 ∧ zn64 x = true := by
  have hn := V.1.1
  have hs : size = nI n := V.1.2.1
  have e0 : ms (0 : Int32).toNatClampNeg = nI n := V.1.2.2
  have r1 : fX0_sumOfRead rea = some (nI (0 + sRd rea 6 0)) := p_sumRead rea 6 0 zfuel 0 rfl (by decide)
  have r2 : fX7_share ms = fX7_share_4 (4993 + 1) ms (nI (0 + sRd rea 6 0)) (nI 6) := V.share_4 6 0 zfuel 0 rfl (by decide)
  have hle := V.sRd_le 6 0 rfl
  rw [Nat.zero_add] at r1 r2
  unfold fX7_share_4 at r2
  rw [if_pos (by decide), e0] at r2
  unfold fX3_shareRead
  rw [r1, r2, Option.bind_some]
  by_cases h0 : n = 0
  · subst h0
    have h1 : ¬ (1 : Int32) ≤ size := by rw [hs]; decide
    rw [if_neg h1, if_pos (by decide)]
    exact ⟨_, rfl, rfl, by decide +kernel, by decide +kernel, by decide +kernel⟩
  · have h1 : (1 : Int32) ≤ size := by rw [hs]; exact nI_le (a := 1) (by omega) (by omega)
    rw [if_pos h1, if_neg (nI_ne0 (by omega) (by omega)), hs]
    obtain ⟨N, rfl⟩ : ∃ N, n = N + 1 := ⟨n - 1, by omega⟩
    have hk := shOk_all N (by omega) (sRd rea 6 0) (by omega)
    unfold shOk at hk
    rw [Bool.and_eq_true, Bool.and_eq_true, decide_eq_true_eq, decide_eq_true_eq] at hk
    obtain ⟨⟨k1, k2⟩, k3⟩ := hk
    unfold shV at k1 k2 k3
    rw [if_pos k1]
    exact ⟨_, rfl, rfl, k2, k3, k1⟩
end PR
