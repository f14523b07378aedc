/-! PURE: parts come and change -/
def zOut1 (N : Nat) (x : Int32) : Prop := x < 1 ∨ ∃ j, N ≤ j ∧ j < 2 ^ 31 ∧ x = nI j
theorem z_rng1 (x : Int32) (N : Nat) : zOut1 N x ∨ ∃ r, 1 ≤ r ∧ r < N ∧ x = nI r := by
  by_cases h : x < 0
  · exact Or.inl (Or.inl (Int32.lt_trans h (by decide)))
  · obtain ⟨j, hj, rfl⟩ := nI_of h
    by_cases h2 : j < N
    · by_cases h3 : j = 0
      · exact Or.inl (Or.inl (by rw [h3]; decide))
      · exact Or.inr ⟨j, by omega, h2, rfl⟩
    · exact Or.inl (Or.inr ⟨j, by omega, hj, rfl⟩)
theorem nlt1 {r : Nat} (h1 : 1 ≤ r) (h : r < 2 ^ 31) : ¬ nI r < 1 := nI_nlt (b := 1) h1 h
theorem in1_out {W : Nat} {x w : Int32} (hw : w = nI W) (hW : W < 1000) (h : zOut1 (W + 1) x) : fX7_in x 1 w = some 0 := by
  unfold fX7_in
  rcases h with h | ⟨j, h1, h2, rfl⟩
  · rw [if_pos h]
  · rw [if_neg (nlt1 (by omega) h2), hw, if_pos (nI_lt (by omega) h2)]
theorem in1_in {W r : Nat} {w : Int32} (hw : w = nI W) (hW : W < 1000) (h1 : 1 ≤ r) (h : r < W + 1) : fX7_in (nI r) 1 w = some 1 := by
  unfold fX7_in
  rw [if_neg (nlt1 h1 (by omega)), hw, if_neg (nI_nlt (by omega) (by omega))]
theorem p_adds_53 {n : Nat} (hn : n < 20) : ∀ (d j k : Nat) (m : Nat → Int32), j + d = 6 → d < k → ∃ m' : Nat → Int32, fX7_adds_53 k m (nI n) (nI j) = some (upd m' 0 (m 0 + 1)) ∧ (∀ i, i < 83 → m' i = m i) ∧ ∀ r q, r < 6 → q < 20 → mkn m' r q = if q = n ∧ j ≤ r then 0 else mkn m r q
  | 0, j, k + 1, m, hj, _ => by
    have e6 : (6 : Int32) ≤ nI j := nI_le (a := 6) (by omega) (by omega)
    have e0 : (0 : Int32).toNatClampNeg = 0 := rfl
    unfold fX7_adds_53
    rw [if_pos e6, e0]
    exact ⟨m, rfl, fun _ _ => rfl, fun r q h1 h2 => (if_neg (by omega)).symm⟩
  | d + 1, j, k + 1, m, hj, hk => by
    have e6 : ¬ (6 : Int32) ≤ nI j := nI_ge (b := 6) (by omega) (by omega)
    obtain ⟨m', g1, g2, g3⟩ := p_adds_53 hn d (j + 1) k (upd m (83 + 20 * j + n) 0) (by omega) (by omega)
    unfold fX7_adds_53
    rw [if_neg e6, p_learns m 0 (by omega), Option.bind_some, nI_1, g1, upd_ne (by omega)]
    refine ⟨m', rfl, fun i hi => by rw [g2 i hi, upd_ne (by omega)], fun r q h1 h2 => ?_⟩
    rw [g3 r q h1 h2]
    by_cases he : q = n ∧ r = j
    · obtain ⟨rfl, rfl⟩ := he
      rw [if_neg (by omega), if_pos ⟨rfl, Nat.le_refl _⟩]
      exact upd_eq _ _ _
    · have e9 : mkn (upd m (83 + 20 * j + n) 0) r q = mkn m r q := upd_ne (by omega)
      rw [e9]
      by_cases hl : q = n ∧ j ≤ r
      · rw [if_pos hl, if_pos (by omega)]
      · rw [if_neg hl, if_neg (by omega)]
theorem p_adds (ms : Nat → Int32) (x1 x2 x3 : Int32) {n : Nat} (h0 : ms 0 = nI n) (hn : n < 20) : ∃ m : Nat → Int32, fX7_adds ms x1 x2 x3 = some m ∧ m 0 = nI (n + 1) ∧ (∀ i, 1 ≤ i → i < 83 → i ≠ 5 + 3 * n → i ≠ 5 + 3 * n + 1 → i ≠ 5 + 3 * n + 2 → m i = ms i) ∧ m (5 + 3 * n) = x1 ∧ m (5 + 3 * n + 1) = x2 ∧ m (5 + 3 * n + 2) = x3 ∧ ∀ r q, r < 6 → q < 20 → mkn m r q = if q = n then 0 else mkn ms r q := by
  have e : ms (0 : Int32).toNatClampNeg = nI n := h0
  have e5 : ∀ w W, w = nI W → 5 + 3 * nI n + w = nI (5 + 3 * n + W) := fun w W hw => by
    rw [hw, show (5 : Int32) = nI 5 from rfl, show (3 : Int32) = nI 3 from rfl, nI_mul, nI_add, nI_add]
  obtain ⟨m', g1, g2, g3⟩ := p_adds_53 hn 6 0 zfuel (upd (upd (upd ms (5 + 3 * n) x1) (5 + 3 * n + 1) x2) (5 + 3 * n + 2) x3) rfl (by decide)
  have g1 : fX7_adds_53 zfuel (upd (upd (upd ms (5 + 3 * n) x1) (5 + 3 * n + 1) x2) (5 + 3 * n + 2) x3) (nI n) 0 = _ := g1
  unfold fX7_adds
  rw [e, e5 0 0 rfl, e5 1 1 rfl, e5 2 2 rfl, if_pos (zin_nI (by omega) (by decide)), if_pos (zin_nI (by omega) (by decide)), if_pos (zin_nI (by omega) (by decide)), nI_clamp (by omega), nI_clamp (by omega), nI_clamp (by omega), Nat.add_zero, g1]
  refine ⟨_, rfl, ?_, fun i h1 h2 h3 h4 h5 => ?_, ?_, ?_, ?_, fun r q hr hq => ?_⟩
  · rw [upd_eq, upd_ne (by omega), upd_ne (by omega), upd_ne (by omega), h0, nI_1]
  · rw [upd_ne (by omega), g2 i h2, upd_ne h5, upd_ne h4, upd_ne h3]
  · rw [upd_ne (by omega), g2 _ (by omega), upd_ne (by omega), upd_ne (by omega), upd_eq]
  · rw [upd_ne (by omega), g2 _ (by omega), upd_ne (by omega), upd_eq]
  · rw [upd_ne (by omega), g2 _ (by omega), upd_eq]
  · rw [mkn_upd (by decide), g3 r q hr hq, mkn_upd (by omega), mkn_upd (by omega), mkn_upd (by omega)]
    by_cases he : q = n
    · rw [if_pos ⟨he, Nat.zero_le r⟩, if_pos he]
    · rw [if_neg (fun h => he h.1), if_neg he]
theorem p_rewrite_25 {n : Nat} (hn : n ≤ 20) {size : Int32} (hs : size = nI n) (pl cl : Nat → Int32) (v4 : Int32) : ∀ (d j k : Nat) (nd : Nat → Int32), j + d = n → d < k → ∃ nd' : Nat → Int32, fX4_rewrite_25 k size pl cl nd v4 (nI j) = some (v4, pl, cl, nd') ∧ ∀ q, nd' q = if j ≤ q ∧ q < n then sN pl q else nd q
  | 0, j, k + 1, nd, hj, _ => by
    have e1 : size ≤ nI j := by rw [hs]; exact nI_le (by omega) (by omega)
    unfold fX4_rewrite_25
    rw [if_pos e1]
    exact ⟨nd, rfl, fun q => (if_neg (by omega)).symm⟩
  | d + 1, j, k + 1, nd, hj, hk => by
    have e1 : ¬ size ≤ nI j := by rw [hs]; exact nI_ge (by omega) (by omega)
    obtain ⟨nd', g1, g2⟩ := p_rewrite_25 hn hs pl cl v4 d (j + 1) k (upd nd j (sN pl j)) (by omega) (by omega)
    unfold fX4_rewrite_25
    rw [if_neg e1, p_findNeeds pl (by omega), Option.bind_some, if_pos (zin_nI (by omega) (by decide)), nI_clamp (by omega), nI_1, g1]
    refine ⟨nd', rfl, fun q => ?_⟩
    rw [g2 q]
    by_cases he : q = j
    · subst he
      rw [if_neg (by omega), upd_eq, if_pos (by omega)]
    · rw [upd_ne he]
      by_cases hl : j ≤ q ∧ q < n
      · rw [if_pos hl, if_pos (by omega)]
      · rw [if_neg hl, if_neg (by omega)]
section PW
variable {n L c : Nat} {reached lost size : Int32} {plots cliffs words needs told rea wread ltold lout sets ms : Nat → Int32}
theorem zV.v_put (V : zV n L c reached lost size plots cliffs words needs told rea wread ltold lout sets ms) (hn20 : n < 20) (x1 x2 x3 : Int32) (hcl : x2 = -1 ∨ ∃ x, x < 6 ∧ x2 = nI x) : ∃ (v : Int32 × (Nat → Int32) × (Nat → Int32) × (Nat → Int32) × (Nat → Int32)) (m : Nat → Int32), fX4_put size plots cliffs words needs x1 x2 x3 = some v ∧ fX7_adds ms x1 x2 x3 = some m ∧ v.1 = nI (n + 1) ∧ m 0 = nI (n + 1) ∧ zV (n + 1) L c reached lost v.1 v.2.1 v.2.2.1 v.2.2.2.1 v.2.2.2.2 told rea wread ltold lout sets m := by
  obtain ⟨⟨v1, v2, v3⟩, ⟨v4, v5, v6⟩, ⟨v7, v8, v9, v10⟩, ⟨vr, vl⟩, v11, vb, vk, vc⟩ := V
  obtain ⟨m, g1, g2, g3, g4, g5, g6, g7⟩ := p_adds ms x1 x2 x3 v3 hn20
  have hz := zin_nI (a := n) (n := 20) hn20 (by decide)
  have hpl : ∀ q, q < n + 1 → upd plots n x1 q = mpl m q := fun q hq => by
    by_cases he : q = n
    · subst he
      rw [upd_eq]
      exact g4.symm
    · rw [upd_ne he, (v11 q (by omega)).1]
      exact (g3 (5 + 3 * q) (by omega) (by omega) (by omega) (by omega) (by omega)).symm
  refine ⟨(nI (n + 1), upd plots n x1, upd cliffs n x2, upd words n x3, upd needs n (sN (upd plots n x1) n)), m, ?_, g1, rfl, g2, ?_⟩
  · unfold fX4_put
    rw [v2, if_pos hz, if_pos hz, if_pos hz, nI_clamp (by omega), p_findNeeds _ hn20, Option.bind_some, if_pos hz, nI_1]
  · refine ⟨⟨by omega, rfl, g2⟩, ⟨v4, v5, (g3 1 (by omega) (by omega) (by omega) (by omega) (by omega)).trans v6⟩, ⟨v7, v8, v9, (g3 2 (by omega) (by omega) (by omega) (by omega) (by omega)).trans v10⟩, ⟨vr.trans (g3 3 (by omega) (by omega) (by omega) (by omega) (by omega)).symm, vl.trans (g3 4 (by omega) (by omega) (by omega) (by omega) (by omega)).symm⟩, fun q hq => ?_, fun r hr q hq => ?_, fun r hr q hq => ?_, fun r hr => ?_⟩
    · refine ⟨hpl q hq, ?_⟩
      by_cases he : q = n
      · subst he
        refine ⟨(upd_eq _ _ _).trans g5.symm, (upd_eq _ _ _).trans g6.symm, ?_, ?_⟩
        · show upd needs q (sN (upd plots q x1) q) q = _
          rw [upd_eq]
          exact sN_congr (fun i hi => hpl i (by omega))
        · show upd cliffs q x2 q = -1 ∨ ∃ x, x < 6 ∧ upd cliffs q x2 q = nI x
          rw [upd_eq]
          exact hcl
      · obtain ⟨a1, a2, a3, a4, a5⟩ := v11 q (by omega)
        refine ⟨?_, ?_, ?_, ?_⟩
        · show upd cliffs n x2 q = _
          rw [upd_ne he, a2]
          exact (g3 (5 + 3 * q + 1) (by omega) (by omega) (by omega) (by omega) (by omega)).symm
        · show upd words n x3 q = _
          rw [upd_ne he, a3]
          exact (g3 (5 + 3 * q + 2) (by omega) (by omega) (by omega) (by omega) (by omega)).symm
        · show upd needs n (sN (upd plots n x1) n) q = _
          rw [upd_ne he, a4]
          exact sN_congr (fun i hi => by
            have h1 := hpl i (by omega)
            rw [upd_ne (by omega), (v11 i (by omega)).1] at h1
            exact h1)
        · show upd cliffs n x2 q = -1 ∨ ∃ x, x < 6 ∧ upd cliffs n x2 q = nI x
          rw [upd_ne he]
          exact a5
    · obtain ⟨b1, b2⟩ := vb r hr q hq
      by_cases hl : q < n
      · rw [decide_eq_true hl, Bool.true_and] at b1 b2
        rw [decide_eq_true (by omega), Bool.true_and, Bool.true_and, g7 r q hr (by omega), if_neg (by omega)]
        exact ⟨b1, b2⟩
      · rw [decide_eq_false hl, Bool.false_and] at b1 b2
        by_cases he : q = n
        · rw [g7 r q hr (by omega), if_pos he, b1, b2, decide_eq_true (by omega)]
          exact ⟨rfl, rfl⟩
        · rw [decide_eq_false (by omega), Bool.false_and, Bool.false_and]
          exact ⟨b1, b2⟩
    · rw [g7 r q hr (by omega)]
      by_cases he : q = n
      · rw [if_pos he]
        exact Or.inl rfl
      · rw [if_neg he]
        exact vk r hr q (by omega)
    · obtain ⟨c1, c2, c3⟩ := vc r hr
      exact ⟨c1.trans (g3 _ (by omega) (by omega) (by omega) (by omega) (by omega)).symm, c2.trans (g3 _ (by omega) (by omega) (by omega) (by omega) (by omega)).symm, c3.trans (g3 _ (by omega) (by omega) (by omega) (by omega) (by omega)).symm⟩
theorem zV.v_rewrite (V : zV n L c reached lost size plots cliffs words needs told rea wread ltold lout sets ms) {p : Nat} (hp : p < n) (x2 x3 : Int32) (hcl : x3 = -1 ∨ ∃ x, x < 6 ∧ x3 = nI x) : ∃ nd' : Nat → Int32, fX4_rewrite size plots cliffs needs (nI p) x2 x3 = some (plots p, upd plots p x2, upd cliffs p x3, nd') ∧ zV n L c reached lost size (upd plots p x2) (upd cliffs p x3) words nd' told rea wread ltold lout sets (upd (upd ms (5 + 3 * p) x2) (5 + 3 * p + 1) x3) := by
  obtain ⟨⟨v1, v2, v3⟩, ⟨v4, v5, v6⟩, ⟨v7, v8, v9, v10⟩, ⟨vr, vl⟩, v11, vb, vk, vc⟩ := V
  have hz := zin_nI (a := p) (n := 20) (by omega) (by decide)
  obtain ⟨nd', g1, g2⟩ := p_rewrite_25 v1 v2 (upd plots p x2) (upd cliffs p x3) (plots p) (n - p) p zfuel needs (by omega) (by have : zfuel = 5000 := rfl; omega)
  refine ⟨nd', ?_, ?_⟩
  · unfold fX4_rewrite
    rw [if_pos hz, if_pos hz, if_pos hz, nI_clamp (by omega), g1]
  have hm : ∀ i, i ≠ 5 + 3 * p → i ≠ 5 + 3 * p + 1 → upd (upd ms (5 + 3 * p) x2) (5 + 3 * p + 1) x3 i = ms i := fun i h1 h2 => by rw [upd_ne h2, upd_ne h1]
  have hpl : ∀ q, q < n → upd plots p x2 q = mpl (upd (upd ms (5 + 3 * p) x2) (5 + 3 * p + 1) x3) q := fun q hq => by
    unfold mpl
    by_cases he : q = p
    · subst he
      rw [upd_eq, upd_ne (by omega), upd_eq]
    · rw [upd_ne he, hm _ (by omega) (by omega), (v11 q hq).1]
      rfl
  have hkn : ∀ r q, mkn (upd (upd ms (5 + 3 * p) x2) (5 + 3 * p + 1) x3) r q = mkn ms r q := fun r q => by rw [mkn_upd (by omega), mkn_upd (by omega)]
  refine ⟨⟨v1, v2, (hm 0 (by omega) (by omega)).trans v3⟩, ⟨v4, v5, (hm 1 (by omega) (by omega)).trans v6⟩, ⟨v7, v8, v9, (hm 2 (by omega) (by omega)).trans v10⟩, ⟨vr.trans (hm 3 (by omega) (by omega)).symm, vl.trans (hm 4 (by omega) (by omega)).symm⟩, fun q hq => ?_, fun r hr q hq => ?_, fun r hr q hq => ?_, fun r hr => ?_⟩
  · obtain ⟨a1, a2, a3, a4, a5⟩ := v11 q hq
    refine ⟨hpl q hq, ?_, ?_, ?_, ?_⟩
    · unfold mcl
      by_cases he : q = p
      · subst he
        rw [upd_eq, upd_eq]
      · rw [upd_ne he, hm _ (by omega) (by omega), a2]
        rfl
    · rw [a3]
      exact (hm (5 + 3 * q + 2) (by omega) (by omega)).symm
    · rw [g2 q]
      by_cases hl : p ≤ q
      · rw [if_pos ⟨hl, hq⟩]
        exact sN_congr (fun i hi => hpl i (by omega))
      · rw [if_neg (by omega), a4]
        exact sN_congr (fun i hi => (hm (5 + 3 * i) (by omega) (by omega)).symm)
    · by_cases he : q = p
      · subst he
        rw [upd_eq]
        exact hcl
      · rw [upd_ne he]
        exact a5
  · rw [hkn]
    exact vb r hr q hq
  · rw [hkn]
    exact vk r hr q hq
  · rw [hm _ (by omega) (by omega), hm _ (by omega) (by omega), hm _ (by omega) (by omega)]
    exact vc r hr
end PW
