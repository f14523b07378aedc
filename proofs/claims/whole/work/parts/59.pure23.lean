/-! PURE: the digest -/
theorem p_mix6 (a b : Int64) : fX6_mix a b = some (31 * a + b) := rfl
theorem p_mix7 (a b : Int64) : fX7_mixes a b = some (31 * a + b) := rfl
theorem dv7 : ∀ a, a < 140 → nI a / 7 = nI (a / 7) ∧ nI a - nI a / 7 * 7 = nI (a % 7) := by decide +kernel
theorem dv4 : ∀ a, a < 24 → nI a / 4 = nI (a / 4) ∧ nI a - nI a / 4 * 4 = nI (a % 4) := by decide +kernel
section PS
variable {n L c : Nat} {reached lost size : Int32} {plots cliffs words needs told rea wread ltold lout sets ms : Nat → Int32}
theorem zV.dg_130 (V : zV n L c reached lost size plots cliffs words needs told rea wread ltold lout sets ms) {r : Nat} (hr : r < 6) (h0 : 0 < n) : ∀ (d j k k' : Nat) (h : Int64), j + d = 5 → d < k → d < k' → ∃ v, fX6_mixReader_130 k size plots cliffs words needs told rea wread ltold lout sets (nI r) h (nI j) = some v ∧ fX7_mixesReader_76 k' h ms (nI r) (nI j) = some v
  | 0, j, k + 1, k' + 1, h, hj, _, _ => by
    have e6 : (4 : Int32) < nI j := nI_lt (a := 4) (by omega) (by omega)
    have e7 : (5 : Int32) ≤ nI j := nI_le (a := 5) (by omega) (by omega)
    unfold fX6_mixReader_130 fX7_mixesReader_76
    rw [if_pos e6, if_pos e7]
    exact ⟨h, rfl, rfl⟩
  | d + 1, j, k + 1, k' + 1, h, hj, hk, hk' => by
    have hn := V.1.1
    have e6 : ¬ (4 : Int32) < nI j := nI_nlt (a := 4) (by omega) (by omega)
    have e7 : ¬ (5 : Int32) ≤ nI j := nI_ge (b := 5) (by omega) (by omega)
    have e : ms (0 : Int32).toNatClampNeg = nI n := V.1.2.2
    obtain ⟨N, hN⟩ : ∃ N, n = N + 1 := ⟨n - 1, by omega⟩
    have es : size - 1 = nI N := by rw [V.1.2.1, hN, nI_pred]
    have em : nI n - 1 = nI N := by rw [hN, nI_pred]
    have e8 : ¬ nI n ≤ 0 := nI_nle h0 (by omega)
    obtain ⟨v, h1, h2⟩ := V.recap hr (p := N) (by omega) (nI j)
    unfold fX6_mixReader_130 fX7_mixesReader_76
    rw [if_neg e6, if_neg e7, e, if_neg e8, es, em, h1, h2]
    simp only [Option.bind_some, p_mix6, p_mix7, nI_1]
    exact V.dg_130 hr h0 d (j + 1) k k' _ (by omega) (by omega) (by omega)
theorem zV.dg_51 (V : zV n L c reached lost size plots cliffs words needs told rea wread ltold lout sets ms) {r : Nat} (hr : r < 6) : ∀ (d j k k' : Nat) (h : Int64), j + d = 7 → d < k → d < k' → ∃ v, fX6_mixReader_51 k size plots cliffs words needs told rea wread ltold lout sets (nI r) h (nI j) = some v ∧ fX7_mixesReader_31 k' h ms (nI r) (nI j) = some v
  | 0, j, k + 1, k' + 1, h, hj, _, _ => by
    have hn := V.1.1
    have e6 : (6 : Int32) < nI j := nI_lt (a := 6) (by omega) (by omega)
    have e7 : (7 : Int32) ≤ nI j := nI_le (a := 7) (by omega) (by omega)
    have e : ms (0 : Int32).toNatClampNeg = nI n := V.1.2.2
    obtain ⟨b, b1, b2⟩ := V.v_easiest hr
    obtain ⟨g, -, g1, g2⟩ := V.v_enough hr
    unfold fX6_mixReader_51 fX7_mixesReader_31
    rw [if_pos e6, if_pos e7, b1, b2]
    simp only [Option.bind_some, p_mix6, p_mix7]
    rw [g1, g2]
    simp only [Option.bind_some]
    by_cases h0 : n = 0
    · have h1 : size ≤ 0 := by rw [V.1.2.1, h0]; decide
      have h2 : nI n ≤ 0 := by rw [h0]; decide
      have h3 : ∀ x, fX7_mixesReader_76 zfuel x ms (nI r) 0 = some x := fun x => by
        rw [show zfuel = 4999 + 1 from rfl]
        unfold fX7_mixesReader_76
        rw [if_neg (by decide), e, if_pos h2]
      rw [if_pos h1, h3]
      exact ⟨_, rfl, rfl⟩
    · have h1 : ¬ size ≤ 0 := by rw [V.1.2.1]; exact nI_nle (by omega) (by omega)
      rw [if_neg h1]
      exact V.dg_130 hr (by omega) 5 0 zfuel zfuel _ rfl (by decide) (by decide)
  | d + 1, j, k + 1, k' + 1, h, hj, hk, hk' => by
    have e6 : ¬ (6 : Int32) < nI j := nI_nlt (a := 6) (by omega) (by omega)
    have e7 : ¬ (7 : Int32) ≤ nI j := nI_ge (b := 7) (by omega) (by omega)
    obtain ⟨v, h1, h2⟩ := V.v_reader hr (w := j) (by omega)
    unfold fX6_mixReader_51 fX7_mixesReader_31
    rw [if_neg e6, if_neg e7, h1, h2]
    simp only [Option.bind_some, p_mix6, p_mix7, nI_1]
    exact V.dg_51 hr d (j + 1) k k' _ (by omega) (by omega) (by omega)
theorem zV.dg_r (V : zV n L c reached lost size plots cliffs words needs told rea wread ltold lout sets ms) {r : Nat} (hr : r < 6) : ∀ (d j k k' : Nat) (h : Int64), j + d = n → d < k → d < k' → ∃ v, fX6_mixReader_6 k size plots cliffs words needs told rea wread ltold lout sets (nI r) h (nI j) = some v ∧ fX7_mixesReader_2 k' h ms (nI r) (nI j) = some v
  | 0, j, k + 1, k' + 1, h, hj, _, _ => by
    have hn := V.1.1
    have e : ms (0 : Int32).toNatClampNeg = nI n := V.1.2.2
    unfold fX6_mixReader_6 fX7_mixesReader_2
    rw [e, V.1.2.1, if_pos (nI_le (by omega) (by omega)), if_pos (nI_le (by omega) (by omega)), ← V.1.2.1]
    exact V.dg_51 hr 7 0 zfuel zfuel _ rfl (by decide) (by decide)
  | d + 1, j, k + 1, k' + 1, h, hj, hk, hk' => by
    have hn := V.1.1
    have hs : size = nI n := V.1.2.1
    have e : ms (0 : Int32).toNatClampNeg = nI n := V.1.2.2
    have hkn : fX7_known ms (nI r) (nI j) = some (mkn ms r j) := p_known ms (by omega)
    unfold fX6_mixReader_6 fX7_mixesReader_2
    rw [e, if_neg (by rw [hs]; exact nI_ge (by omega) (by omega)), if_neg (nI_ge (by omega) (by omega)), V.v_knowledge hr (by omega), hkn]
    simp only [Option.bind_some, p_mix6, p_mix7, nI_1]
    exact V.dg_r hr d (j + 1) k k' _ (by omega) (by omega) (by omega)
theorem zV.dg_reader (V : zV n L c reached lost size plots cliffs words needs told rea wread ltold lout sets ms) {r : Nat} (hr : r < 6) (h : Int64) : ∃ v, fX6_mixReader size plots cliffs words needs told rea wread ltold lout sets h (nI r) = some v ∧ fX7_mixesReader h ms (nI r) = some v :=
  V.dg_r hr n 0 zfuel zfuel h (by omega) (Nat.lt_of_le_of_lt V.1.1 (by decide)) (Nat.lt_of_le_of_lt V.1.1 (by decide))
theorem zV.dg_pl (V : zV n L c reached lost size plots cliffs words needs told rea wread ltold lout sets ms) (thr saved mlen : Int32) (mtext : Nat → Int32) (kont : Int32 → (Nat → Int32) → (Nat → Int32) → (Nat → Int32) → (Nat → Int32) → Int64 → Int32 → Option Int64) {p : Nat} (hp : p < 6) : ∀ (d w k : Nat) (h : Int64), w + d = 4 → d < k → ∃ h', fX6_mixPlots_15 kont k size plots cliffs told rea h (nI p) (nI w) = kont size plots cliffs told rea h' (nI (p + 1)) ∧ ∀ k', fX7_digest_117 (k' + d) thr saved mlen h ms mtext (nI (4 * p + w)) = fX7_digest_117 k' thr saved mlen h' ms mtext (nI (4 * (p + 1)))
  | 0, w, k + 1, h, hw, _ => by
    have e6 : (3 : Int32) < nI w := nI_lt (a := 3) (by omega) (by omega)
    unfold fX6_mixPlots_15
    rw [if_pos e6, nI_1]
    refine ⟨h, rfl, fun k' => ?_⟩
    rw [show 4 * p + w = 4 * (p + 1) by omega]
    rfl
  | d + 1, w, k + 1, h, hw, hk => by
    have e6 : ¬ (3 : Int32) < nI w := nI_nlt (a := 3) (by omega) (by omega)
    have e7 : ¬ (24 : Int32) ≤ nI (4 * p + w) := nI_ge (b := 24) (by omega) (by omega)
    obtain ⟨d1, d2⟩ := dv4 (4 * p + w) (by omega)
    have hw' : nI w = 0 ∨ nI w = 1 ∨ nI w = 2 ∨ nI w = 3 := by
      have : w = 0 ∨ w = 1 ∨ w = 2 ∨ w = 3 := by omega
      rcases this with h | h | h | h <;> rw [h] <;> decide
    obtain ⟨v, h1, h2⟩ := V.v_plot (y := p) (by omega) (nI w) hw'
    unfold fX6_mixPlots_15
    rw [if_neg e6, h1]
    simp only [Option.bind_some, p_mix6, nI_1]
    obtain ⟨h', a1, a2⟩ := V.dg_pl thr saved mlen mtext kont hp d (w + 1) k (31 * h + v.toInt64) (by omega) (by omega)
    refine ⟨h', a1, fun k' => ?_⟩
    rw [← a2 k', show k' + (d + 1) = (k' + d) + 1 by omega, fX7_digest_117, if_neg e7, d2, d1, show (4 * p + w) / 4 = p by omega, show (4 * p + w) % 4 = w by omega, h2]
    simp only [Option.bind_some, p_mix7, nI_1]
    rfl
theorem zV.dg_plots (V : zV n L c reached lost size plots cliffs words needs told rea wread ltold lout sets ms) (thr saved mlen : Int32) (mtext : Nat → Int32) : ∀ (d p k : Nat) (h : Int64), p + d = 6 → d < k → ∃ h', fX6_mixPlots_5 k size plots cliffs told rea h (nI p) = some h' ∧ ∀ k', fX7_digest_117 (k' + 4 * d) thr saved mlen h ms mtext (nI (4 * p)) = fX7_digest_117 k' thr saved mlen h' ms mtext (nI 24)
  | 0, p, k + 1, h, hp, _ => by
    have e6 : (6 : Int32) ≤ nI p := nI_le (a := 6) (by omega) (by omega)
    unfold fX6_mixPlots_5
    rw [if_pos e6]
    refine ⟨h, rfl, fun k' => ?_⟩
    rw [show 4 * p = 24 by omega]
    rfl
  | d + 1, p, k + 1, h, hp, hk => by
    have e6 : ¬ (6 : Int32) ≤ nI p := nI_ge (b := 6) (by omega) (by omega)
    obtain ⟨h1, a1, a2⟩ := V.dg_pl thr saved mlen mtext (fX6_mixPlots_5 k) (p := p) (by omega) 4 0 zfuel h rfl (by decide)
    obtain ⟨h2, b1, b2⟩ := V.dg_plots thr saved mlen mtext d (p + 1) k h1 (by omega) (by omega)
    unfold fX6_mixPlots_5
    rw [if_neg e6]
    refine ⟨h2, a1.trans b1, fun k' => ?_⟩
    rw [← b2 k', show k' + 4 * (d + 1) = (k' + 4 * d) + 4 by omega]
    exact a2 (k' + 4 * d)
theorem zV.dg_pa (V : zV n L c reached lost size plots cliffs words needs told rea wread ltold lout sets ms) (thr saved mlen : Int32) (mtext : Nat → Int32) (kont : Int32 → (Nat → Int32) → (Nat → Int32) → (Nat → Int32) → (Nat → Int32) → (Nat → Int32) → Int64 → Int32 → Option Int64) {p : Nat} (hp : p < n) : ∀ (d w k : Nat) (h : Int64), w + d = 7 → d < k → ∃ h', fX6_mixParts_23 kont k size plots cliffs words needs rea h (nI p) (nI w) = kont size plots cliffs words needs rea h' (nI (p + 1)) ∧ ∀ k', fX7_digest_60 (k' + d) thr saved mlen h ms mtext (nI (7 * p + w)) = fX7_digest_60 k' thr saved mlen h' ms mtext (nI (7 * (p + 1)))
  | 0, w, k + 1, h, hw, _ => by
    have e6 : (6 : Int32) < nI w := nI_lt (a := 6) (by omega) (by omega)
    unfold fX6_mixParts_23
    rw [if_pos e6, nI_1]
    refine ⟨h, rfl, fun k' => ?_⟩
    rw [show 7 * p + w = 7 * (p + 1) by omega]
    rfl
  | d + 1, w, k + 1, h, hw, hk => by
    have hn := V.1.1
    have e : ms (0 : Int32).toNatClampNeg = nI n := V.1.2.2
    have em : (7 : Int32) * nI n = nI (7 * n) := by rw [show (7 : Int32) = nI 7 from rfl, nI_mul]
    have e6 : ¬ (6 : Int32) < nI w := nI_nlt (a := 6) (by omega) (by omega)
    have e7 : ¬ nI (7 * n) ≤ nI (7 * p + w) := nI_ge (by omega) (by omega)
    obtain ⟨d1, d2⟩ := dv7 (7 * p + w) (by omega)
    obtain ⟨v, h1, h2⟩ := V.v_part hp (w := w) (by omega)
    unfold fX6_mixParts_23
    rw [if_neg e6, h1]
    simp only [Option.bind_some, p_mix6, nI_1]
    obtain ⟨h', a1, a2⟩ := V.dg_pa thr saved mlen mtext kont hp d (w + 1) k (31 * h + v.toInt64) (by omega) (by omega)
    refine ⟨h', a1, fun k' => ?_⟩
    rw [← a2 k', show k' + (d + 1) = (k' + d) + 1 by omega, fX7_digest_60, e, em, if_neg e7, d2, d1, show (7 * p + w) / 7 = p by omega, show (7 * p + w) % 7 = w by omega, h2]
    simp only [Option.bind_some, p_mix7, nI_1]
    rfl
theorem zV.dg_parts (V : zV n L c reached lost size plots cliffs words needs told rea wread ltold lout sets ms) (thr saved mlen : Int32) (mtext : Nat → Int32) : ∀ (d p k : Nat) (h : Int64), p + d = n → d < k → ∃ h', fX6_mixParts_5 k size plots cliffs words needs rea h (nI p) = some h' ∧ ∀ k', fX7_digest_60 (k' + 7 * d) thr saved mlen h ms mtext (nI (7 * p)) = fX7_digest_60 k' thr saved mlen h' ms mtext (nI (7 * n))
  | 0, p, k + 1, h, hp, _ => by
    have hn := V.1.1
    unfold fX6_mixParts_5
    rw [V.1.2.1, if_pos (nI_le (by omega) (by omega))]
    refine ⟨h, rfl, fun k' => ?_⟩
    rw [show p = n by omega]
    rfl
  | d + 1, p, k + 1, h, hp, hk => by
    have hn := V.1.1
    have hs : size = nI n := V.1.2.1
    obtain ⟨h1, a1, a2⟩ := V.dg_pa thr saved mlen mtext (fX6_mixParts_5 k) (p := p) (by omega) 7 0 zfuel h rfl (by decide)
    obtain ⟨h2, b1, b2⟩ := V.dg_parts thr saved mlen mtext d (p + 1) k h1 (by omega) (by omega)
    unfold fX6_mixParts_5
    rw [if_neg (by rw [hs]; exact nI_ge (by omega) (by omega))]
    refine ⟨h2, a1.trans b1, fun k' => ?_⟩
    rw [← b2 k', show k' + 7 * (d + 1) = (k' + 7 * d) + 7 by omega]
    exact a2 (k' + 7 * d)
theorem dg_text {len mlen : Int32} {codes mtext : Nat → Int32} {t : Nat} (thr saved : Int32) (ms : Nat → Int32) (ht : t ≤ 60) (hl : len = nI t) (hm : mlen = nI t) (hc : ∀ i, i < t → codes i = mtext i) : ∀ (d j k k' : Nat) (h : Int64), j + d = t → d < k → d < k' → ∃ v, fX6_mixText_16 k len codes h (nI j) = some v ∧ fX7_digest_166 k' thr saved mlen h ms mtext (nI j) = some (v, thr, v)
  | 0, j, k + 1, k' + 1, h, hj, _, _ => by
    unfold fX6_mixText_16 fX7_digest_166
    rw [hl, hm, if_pos (nI_le (by omega) (by omega)), if_pos (nI_le (by omega) (by omega))]
    exact ⟨h, rfl, rfl⟩
  | d + 1, j, k + 1, k' + 1, h, hj, hk, hk' => by
    have e1 : ¬ len ≤ nI j := by rw [hl]; exact nI_ge (by omega) (by omega)
    have e2 : ¬ mlen ≤ nI j := by rw [hm]; exact nI_ge (by omega) (by omega)
    have z := zin_nI (a := j) (n := 60) (by omega) (by decide)
    unfold fX6_mixText_16 fX7_digest_166
    rw [if_neg e1, if_neg e2, if_pos z, if_pos z, nI_clamp (by omega), hc j (by omega)]
    simp only [Option.bind_some, p_mix6, p_mix7, nI_1]
    exact dg_text thr saved ms ht hl hm hc d (j + 1) k k' _ (by omega) (by omega) (by omega)
section PSD
variable {len mlen kept thr : Int32} {codes mtext : Nat → Int32} {t : Nat}
theorem zV.dg_65 (V : zV n L c reached lost size plots cliffs words needs told rea wread ltold lout sets ms) (ht : t ≤ 60) (hl : len = nI t) (hm : mlen = nI t) (hc : ∀ i, i < t → codes i = mtext i) : ∀ (d j k k' : Nat) (h : Int64), j + d = 6 → d < k → d < k' → ∃ v, fX6_digest_65 k reached lost size plots cliffs words needs told rea wread ltold lout sets kept len codes h (nI j) = some v ∧ fX7_digest_98 k' thr kept mlen h ms mtext (nI j) = some (v, thr, v)
  | 0, j, k + 1, k' + 1, h, hj, _, _ => by
    have e6 : (6 : Int32) ≤ nI j := nI_le (a := 6) (by omega) (by omega)
    obtain ⟨h1, a1, a2⟩ := V.dg_plots thr kept mlen mtext 6 0 zfuel h rfl (by decide)
    have a1 : fX6_mixPlots size plots cliffs told rea h = some h1 := a1
    have a2 : fX7_digest_117 zfuel thr kept mlen h ms mtext 0 = fX7_digest_117 (4975 + 1) thr kept mlen h1 ms mtext (nI 24) := a2 4976
    obtain ⟨x, b1, b2, b3, b4, -⟩ := V.v_share
    obtain ⟨v, c1, c2⟩ := dg_text (len := len) (mlen := mlen) thr kept ms ht hl hm hc t 0 zfuel zfuel (31 * (31 * h1 + x.toInt64) + len.toInt64) (by omega) (Nat.lt_of_le_of_lt ht (by decide)) (Nat.lt_of_le_of_lt ht (by decide))
    have c2 : fX7_digest_166 zfuel thr kept mlen (31 * (31 * h1 + x.toInt64) + len.toInt64) ms mtext 0 = some (v, thr, v) := c2
    have c1 : fX6_mixText_16 zfuel len codes (31 * (31 * h1 + x.toInt64) + len.toInt64) 0 = some v := c1
    unfold fX6_digest_65 fX7_digest_98
    rw [if_pos e6, if_pos e6, a1, a2, fX7_digest_117, if_pos (by decide), b1, b2]
    simp only [Option.bind_some]
    rw [b3, b4]
    simp only [Option.bind_some, p_mix6, p_mix7]
    unfold fX6_mixText
    rw [hm, ← hl]
    rw [hm, ← hl] at c2
    simp only [Option.bind_some, p_mix6]
    rw [c1, c2]
    exact ⟨v, rfl, rfl⟩
  | d + 1, j, k + 1, k' + 1, h, hj, hk, hk' => by
    have e6 : ¬ (6 : Int32) ≤ nI j := nI_ge (b := 6) (by omega) (by omega)
    obtain ⟨v, h1, h2⟩ := V.dg_reader (r := j) (by omega) h
    unfold fX6_digest_65 fX7_digest_98
    rw [if_neg e6, if_neg e6, h1, h2]
    simp only [Option.bind_some, nI_1]
    exact V.dg_65 ht hl hm hc d (j + 1) k k' _ (by omega) (by omega) (by omega)
theorem zV.dg_31 (V : zV n L c reached lost size plots cliffs words needs told rea wread ltold lout sets ms) (ht : t ≤ 60) (hl : len = nI t) (hm : mlen = nI t) (hc : ∀ i, i < t → codes i = mtext i) (h : Int64) : ∃ v, fX6_digest_31 zfuel reached lost size plots cliffs words needs told rea wread ltold lout sets kept len codes h 0 = some v ∧ fX7_digest_60 zfuel thr kept mlen (31 * (31 * h + (ms 1).toInt64) + (ms 2).toInt64) ms mtext 0 = some (v, thr, v) := by
  have hn := V.1.1
  have s0 : sets (0 : Int32).toNatClampNeg = ms 1 := V.2.1.2.1.trans V.2.1.2.2.symm
  have s1 : sets ((0 : Int32) + 1).toNatClampNeg = ms 2 := V.2.2.1.2.2.1.trans V.2.2.1.2.2.2.symm
  obtain ⟨h1, a1, a2⟩ := V.dg_parts thr kept mlen mtext n 0 zfuel (31 * (31 * h + (ms 1).toInt64) + (ms 2).toInt64) (by omega) (Nat.lt_of_le_of_lt hn (by decide))
  have a1 : fX6_mixParts size plots cliffs words needs rea (31 * (31 * h + (ms 1).toInt64) + (ms 2).toInt64) = some h1 := a1
  obtain ⟨K, hK⟩ : ∃ K, zfuel = K + 1 + 7 * n := ⟨4999 - 7 * n, by have : zfuel = 5000 := rfl; omega⟩
  have a2 := a2 (K + 1)
  rw [← hK] at a2
  have a2 : fX7_digest_60 zfuel thr kept mlen (31 * (31 * h + (ms 1).toInt64) + (ms 2).toInt64) ms mtext 0 = fX7_digest_60 (K + 1) thr kept mlen h1 ms mtext (nI (7 * n)) := a2
  have e : ms (0 : Int32).toNatClampNeg = nI n := V.1.2.2
  have em : (7 : Int32) * nI n = nI (7 * n) := by rw [show (7 : Int32) = nI 7 from rfl, nI_mul]
  obtain ⟨v, b1, b2⟩ := V.dg_65 (kept := kept) (thr := thr) ht hl hm hc 6 0 zfuel zfuel h1 rfl (by decide) (by decide)
  have b1 : fX6_digest_65 zfuel reached lost size plots cliffs words needs told rea wread ltold lout sets kept len codes h1 0 = some v := b1
  have b2 : fX7_digest_98 zfuel thr kept mlen h1 ms mtext 0 = some (v, thr, v) := b2
  rw [a2, fX7_digest_60, e, em, if_pos (nI_le (Nat.le_refl _) (by omega)), b2]
  refine ⟨v, ?_, rfl⟩
  obtain ⟨J, hJ⟩ : ∃ J, zfuel = J + 1 + 1 + 1 := ⟨4997, rfl⟩
  have c1 : ∀ J, fX6_digest_31 (J + 1 + 1 + 1) reached lost size plots cliffs words needs told rea wread ltold lout sets kept len codes h 0 = some v := fun J => by
    rw [fX6_digest_31, if_neg (by decide), if_pos (by decide), s0, p_mix6, Option.bind_some]
    rw [fX6_digest_31, if_neg (by decide), if_pos (by decide), s1, p_mix6, Option.bind_some]
    rw [fX6_digest_31, if_pos (by decide), a1, Option.bind_some]
    exact b1
  rw [hJ]
  exact c1 J
theorem zV.dg_6 (V : zV n L c reached lost size plots cliffs words needs told rea wread ltold lout sets ms) (ht : t ≤ 60) (hl : len = nI t) (hm : mlen = nI t) (hc : ∀ i, i < t → codes i = mtext i) : ∀ (d j k k' : Nat) (h : Int64), j + d = 7 → d < k → d < k' → ∃ v, fX6_digest_6 k reached lost size plots cliffs words needs told rea wread ltold lout sets kept len codes h (nI j) = some v ∧ fX7_digest_14 k' thr kept mlen h ms mtext (nI j) = some (v, thr, v)
  | 0, j, k + 1, k' + 1, h, hj, _, _ => by
    have e6 : (6 : Int32) < nI j := nI_lt (a := 6) (by omega) (by omega)
    have e7 : (7 : Int32) ≤ nI j := nI_le (a := 7) (by omega) (by omega)
    unfold fX6_digest_6 fX7_digest_14
    rw [if_pos e6, if_pos e7]
    simp only [Option.bind_some, p_mix7]
    exact V.dg_31 ht hl hm hc h
  | d + 1, j, k + 1, k' + 1, h, hj, hk, hk' => by
    have e6 : ¬ (6 : Int32) < nI j := nI_nlt (a := 6) (by omega) (by omega)
    have e7 : ¬ (7 : Int32) ≤ nI j := nI_ge (b := 7) (by omega) (by omega)
    obtain ⟨v, h1, h2⟩ := V.v_count kept (w := j) (by omega)
    unfold fX6_digest_6 fX7_digest_14
    rw [if_neg e6, if_neg e7, h1, h2]
    simp only [Option.bind_some, p_mix6, p_mix7, nI_1]
    exact V.dg_6 ht hl hm hc d (j + 1) k k' _ (by omega) (by omega) (by omega)
theorem zV.s_digest (V : zV n L c reached lost size plots cliffs words needs told rea wread ltold lout sets ms) (ht : t ≤ 60) (hl : len = nI t) (hm : mlen = nI t) (hc : ∀ i, i < t → codes i = mtext i) (thr : Int32) (hash : Int64) : ∃ v, fX6_digest reached lost size plots cliffs words needs told rea wread ltold lout sets kept len codes = some v ∧ fX7_digest thr kept mlen hash ms mtext = some (v, 0, v) :=
  V.dg_6 (thr := 0) ht hl hm hc 7 0 zfuel zfuel 2803 rfl (by decide) (by decide)
end PSD
end PS
