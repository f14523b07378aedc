/-! PURE: mails to all, catching up, forgetting -/
theorem upd_self0 (f : Nat → Int32) (k : Nat) : upd f k (f k + 0) = f := by
  funext j
  unfold upd
  by_cases h : j = k
  · rw [if_pos h, h, Int32.add_zero]
  · rw [if_neg h]
theorem mkn_upd {ms : Nat → Int32} {i : Nat} {x : Int32} (h : i < 83) (r q : Nat) : mkn (upd ms i x) r q = mkn ms r q := upd_ne (by omega)
section PU
variable {n L c : Nat} {reached lost size : Int32} {plots cliffs words needs told rea wread ltold lout sets ms : Nat → Int32}
theorem zV.lost1 (V : zV n L c reached lost size plots cliffs words needs told rea wread ltold lout sets ms) : zV n L c reached (lost + 1) size plots cliffs words needs told rea wread ltold lout sets (upd ms 4 (ms 4 + 1)) := by
  obtain ⟨⟨hn, -, -⟩, -, -, ⟨vr, vl⟩, -, vb, vk, vc⟩ := id V
  refine V.know (fun i hi => upd_ne (by omega)) (fun i h1 h2 => upd_ne (by omega)) ?_ ?_ (fun r hr q hq => ?_) (fun r hr q h1 h2 => ?_) (fun r hr q hq => ?_) (fun r hr => ?_)
  · rw [upd_ne (by decide)]
    exact vr
  · rw [upd_eq, vl]
  · rw [mkn_upd (by decide)]
    obtain ⟨g1, g2⟩ := vb r hr q (by omega)
    rw [decide_eq_true hq, Bool.true_and] at g1 g2
    exact ⟨g1, g2⟩
  · obtain ⟨g1, g2⟩ := vb r hr q h2
    rw [decide_eq_false (by omega), Bool.false_and] at g1 g2
    exact ⟨g1, g2⟩
  · rw [mkn_upd (by decide)]
    exact vk r hr q hq
  · rw [upd_ne (by omega), upd_ne (by omega), upd_ne (by omega)]
    exact vc r hr
end PU
section PU2
variable {n L c : Nat} {size : Int32} {plots cliffs words needs sets : Nat → Int32}
theorem p_toAll (thr saved : Int32) (mpast : Nat → Int32) {p : Nat} (hp : p < n) (x : Int32) : ∀ (d j k k' : Nat) (a : Int32) (reached lost : Int32) (told rea wread ltold lout ms : Nat → Int32), zV n L c reached lost size plots cliffs words needs told rea wread ltold lout sets ms → j + d = 6 → d < k → d < k' → ∃ (v : Int32 × Int32 × Int32 × (Nat → Int32) × (Nat → Int32) × (Nat → Int32) × (Nat → Int32) × (Nat → Int32)) (m : Nat → Int32), fX3_deliverToAll_5 k reached lost size words needs told rea wread ltold lout sets (nI p) x a (nI j) = some v ∧ fX7_mailAll_45 k' thr saved ms mpast (nI p) x a (nI j) = some (v.1, thr, saved, m, mpast) ∧ zV n L c v.2.1 v.2.2.1 size plots cliffs words needs v.2.2.2.1 v.2.2.2.2.1 v.2.2.2.2.2.1 v.2.2.2.2.2.2.1 v.2.2.2.2.2.2.2 sets m
  | 0, j, k + 1, k' + 1, a, reached, lost, told, rea, wread, ltold, lout, ms, V, hj, _, _ => by
    have e6 : (6 : Int32) ≤ nI j := nI_le (a := 6) (by omega) (by omega)
    unfold fX3_deliverToAll_5 fX7_mailAll_45
    rw [if_pos e6, if_pos e6]
    exact ⟨_, ms, rfl, rfl, V⟩
  | d + 1, j, k + 1, k' + 1, a, reached, lost, told, rea, wread, ltold, lout, ms, V, hj, hk, hk' => by
    have hn := V.1.1
    have e6 : ¬ (6 : Int32) ≤ nI j := nI_ge (b := 6) (by omega) (by omega)
    have e4 : (4 : Int32).toNatClampNeg = 4 := rfl
    have hkn : fX7_known ms (nI j) (nI p) = some (mkn ms j p) := p_known ms (by omega)
    have ih := p_toAll thr saved mpast hp x d (j + 1) k k'
    unfold fX3_deliverToAll_5 fX7_mailAll_45
    rw [if_neg e6, if_neg e6, V.hasRead (by omega) hp, hkn, Option.bind_some, Option.bind_some, zb_isIn x (by omega), zb_bit x (by omega), nI_1, e4, upd_self0]
    by_cases h2 : mkn ms j p = 2
    · rw [if_pos h2, if_neg ne01, if_pos h2, ite_self]
      exact ih a _ _ _ _ _ _ _ _ V (by omega) (by omega) (by omega)
    · rw [if_neg h2, if_pos rfl, if_neg h2, Option.bind_some]
      by_cases hb : zb x j = true
      · rw [if_pos hb, if_neg ne01, if_pos rfl]
        exact ih a _ _ _ _ _ _ _ _ V.lost1 (by omega) (by omega) (by omega)
      · obtain ⟨v, m, h3, h4, h5, V'⟩ := V.v_deliver (r := j) (by omega) hp
        rw [if_neg hb, if_pos rfl, if_neg (by decide), h3, h4, Option.bind_some, Option.bind_some, if_pos h5]
        exact ih (a + 1) _ _ _ _ _ _ _ _ V' (by omega) (by omega) (by omega)
theorem p_unread (thr saved lost : Int32) (mpast : Nat → Int32) {r : Nat} (hr : r < 6) (b : Int32) : ∀ (d j k k' : Nat) (reached : Int32) (told rea wread ltold lout ms : Nat → Int32), zV n L c reached lost size plots cliffs words needs told rea wread ltold lout sets ms → j + d = n → d < k → d < k' → ∃ (v : Int32 × Int32 × (Nat → Int32) × (Nat → Int32) × (Nat → Int32) × (Nat → Int32) × (Nat → Int32)) (m : Nat → Int32), fX3_deliverUnread_12 k reached size words needs told rea wread ltold lout sets (nI r) b (nI j) = some v ∧ fX7_catchUp_39 k' thr saved ms mpast (nI r) b (nI j) = some (v.1, thr, saved, m, mpast) ∧ zV n L c v.2.1 lost size plots cliffs words needs v.2.2.1 v.2.2.2.1 v.2.2.2.2.1 v.2.2.2.2.2.1 v.2.2.2.2.2.2 sets m
  | 0, j, k + 1, k' + 1, reached, told, rea, wread, ltold, lout, ms, V, hj, _, _ => by
    have hn := V.1.1
    have hs : size = nI n := V.1.2.1
    have e : ms (0 : Int32).toNatClampNeg = nI n := V.1.2.2
    have e1 : size ≤ nI j := by rw [hs]; exact nI_le (by omega) (by omega)
    have e65 : (65 : Int32) + 3 * nI r = nI (65 + 3 * r) := by
      rw [show (65 : Int32) = nI 65 from by decide, show (3 : Int32) = nI 3 from by decide, nI_mul, nI_add]
    have hw : wread r = ms (65 + 3 * r) := (V.2.2.2.2.2.2.2 r hr).1
    unfold fX3_deliverUnread_12 fX7_catchUp_39
    rw [if_pos e1, e, if_pos (nI_le (by omega) (by omega)), if_pos (zin_nI hr (by decide)), e65, if_pos (zin_nI (by omega) (by decide)), nI_clamp (by omega), nI_clamp (by omega), hw]
    exact ⟨_, ms, rfl, rfl, V⟩
  | d + 1, j, k + 1, k' + 1, reached, told, rea, wread, ltold, lout, ms, V, hj, hk, hk' => by
    have hn := V.1.1
    have hs : size = nI n := V.1.2.1
    have e : ms (0 : Int32).toNatClampNeg = nI n := V.1.2.2
    have e1 : ¬ size ≤ nI j := by rw [hs]; exact nI_ge (by omega) (by omega)
    have hkn : fX7_known ms (nI r) (nI j) = some (mkn ms r j) := p_known ms (by omega)
    have ih := p_unread thr saved lost mpast hr b d (j + 1) k k'
    unfold fX3_deliverUnread_12 fX7_catchUp_39
    rw [if_neg e1, e, if_neg (nI_ge (by omega) (by omega)), V.hasRead hr (by omega), hkn, Option.bind_some, Option.bind_some, nI_1]
    by_cases h2 : mkn ms r j = 2
    · rw [if_pos h2, if_neg ne01, if_pos h2]
      exact ih _ _ _ _ _ _ _ V (by omega) (by omega) (by omega)
    · obtain ⟨v, m, h3, h4, h5, V'⟩ := V.v_deliver (r := r) (p := j) hr (by omega)
      rw [if_neg h2, if_pos rfl, if_neg h2, h3, h4, Option.bind_some, Option.bind_some]
      exact ih _ _ _ _ _ _ _ V' (by omega) (by omega) (by omega)
end PU2
theorem p_forget_29 (thr saved : Int32) (mpast : Nat → Int32) {r n : Nat} (hr : r < 6) (hn : n ≤ 20) (T : Int32) : ∀ (d j k a : Nat) (m : Nat → Int32), m 0 = nI n → (∀ q, j ≤ q → q < n → zb T q = decide (mkn m r q = 1)) → j + d = n → d < k → ∃ m' : Nat → Int32, fX7_forget_29 k thr saved m mpast (nI r) (nI a) (nI j) = some (nI (a + zcnt T d j), thr, saved, m', mpast) ∧ (∀ i, (i < 83 + 20 * r + j ∨ 83 + 20 * r + n ≤ i) → m' i = m i) ∧ ∀ q, j ≤ q → q < n → mkn m' r q = if mkn m r q = 1 then 0 else mkn m r q
  | 0, j, k + 1, a, m, h0, hT, hj, _ => by
    have e : m (0 : Int32).toNatClampNeg = nI n := h0
    unfold fX7_forget_29
    rw [e, if_pos (nI_le (by omega) (by omega))]
    exact ⟨m, rfl, fun _ _ => rfl, fun q h1 h2 => absurd h1 (by omega)⟩
  | d + 1, j, k + 1, a, m, h0, hT, hj, hk => by
    have e : m (0 : Int32).toNatClampNeg = nI n := h0
    have hkn : fX7_known m (nI r) (nI j) = some (mkn m r j) := p_known m (by omega)
    have hb := hT j (Nat.le_refl j) (by omega)
    unfold fX7_forget_29
    rw [e, if_neg (nI_ge (by omega) (by omega)), hkn, Option.bind_some, nI_1, nI_1]
    by_cases h1 : mkn m r j = 1
    · obtain ⟨m', g1, g2, g3⟩ := p_forget_29 thr saved mpast hr hn T d (j + 1) k (a + 1) (upd m (83 + 20 * r + j) 0) (by rw [upd_ne (by omega)]; exact h0) (fun q h2 h3 => by
        rw [hT q (by omega) h3]
        unfold mkn
        rw [upd_ne (by omega)]) (by omega) (by omega)
      rw [decide_eq_true h1] at hb
      rw [if_pos h1, p_learns m 0 (by omega), Option.bind_some, g1, zcnt_s, hb, if_pos rfl]
      refine ⟨m', by rw [Nat.add_assoc], fun i hi => ?_, fun q h2 h3 => ?_⟩
      · rw [g2 i (by omega), upd_ne (by omega)]
      · by_cases hq : q = j
        · subst hq
          rw [if_pos h1]
          have : mkn m' r q = upd m (83 + 20 * r + q) 0 (83 + 20 * r + q) := g2 _ (by omega)
          rw [this, upd_eq]
        · rw [g3 q (by omega) h3]
          have : mkn (upd m (83 + 20 * r + j) 0) r q = mkn m r q := upd_ne (by omega)
          rw [this]
    · obtain ⟨m', g1, g2, g3⟩ := p_forget_29 thr saved mpast hr hn T d (j + 1) k a m h0 (fun q h2 h3 => hT q (by omega) h3) (by omega) (by omega)
      rw [decide_eq_false h1] at hb
      rw [if_neg h1, g1, zcnt_s, hb, if_neg (by decide), Nat.zero_add]
      refine ⟨m', rfl, fun i hi => g2 i (by omega), fun q h2 h3 => ?_⟩
      by_cases hq : q = j
      · subst hq
        rw [if_neg h1]
        exact g2 _ (by omega)
      · exact g3 q (by omega) h3
/-! PURE: the last part goes -/
theorem p_dropPart_8 (M : Int32) : ∀ (d j k : Nat) (told rea : Nat → Int32), j + d = 6 → d < k → ∃ t' r' : Nat → Int32, fX0_dropPart_8 k told rea M (nI j) = some (t', r') ∧ (∀ i, t' i = if j ≤ i ∧ i < 6 then told i &&& M else told i) ∧ ∀ i, r' i = if j ≤ i ∧ i < 6 then rea i &&& M else rea i
  | 0, j, k + 1, told, rea, hj, _ => by
    have e6 : (6 : Int32) ≤ nI j := nI_le (a := 6) (by omega) (by omega)
    unfold fX0_dropPart_8
    rw [if_pos e6]
    exact ⟨told, rea, rfl, fun i => (if_neg (by omega)).symm, fun i => (if_neg (by omega)).symm⟩
  | d + 1, j, k + 1, told, rea, hj, hk => by
    have e6 : ¬ (6 : Int32) ≤ nI j := nI_ge (b := 6) (by omega) (by omega)
    have hz := zin_nI (a := j) (n := 6) (by omega) (by decide)
    obtain ⟨t', r', g1, g2, g3⟩ := p_dropPart_8 M d (j + 1) k (upd told j (told j &&& M)) (upd rea j (rea j &&& M)) (by omega) (by omega)
    unfold fX0_dropPart_8
    rw [if_neg e6, if_pos hz, if_pos hz, if_pos hz, if_pos hz, nI_clamp (by omega), nI_1, g1]
    refine ⟨t', r', rfl, fun i => ?_, fun i => ?_⟩
    · rw [g2 i]
      by_cases he : i = j
      · rw [he, if_neg (by omega), upd_eq, if_pos (by omega)]
      · rw [upd_ne he]
        by_cases hl : j ≤ i ∧ i < 6
        · rw [if_pos hl, if_pos (by omega)]
        · rw [if_neg hl, if_neg (by omega)]
    · rw [g3 i]
      by_cases he : i = j
      · rw [he, if_neg (by omega), upd_eq, if_pos (by omega)]
      · rw [upd_ne he]
        by_cases hl : j ≤ i ∧ i < 6
        · rw [if_pos hl, if_pos (by omega)]
        · rw [if_neg hl, if_neg (by omega)]
theorem p_removeLast_53 (thr saved v1 : Int32) (mpast : Nat → Int32) {N : Nat} (hN : N < 20) : ∀ (d j k : Nat) (m : Nat → Int32), m 0 = nI N → j + d = 6 → d < k → ∃ m' : Nat → Int32, fX7_removeLast_53 k thr saved m mpast v1 (nI j) = some (v1, thr, saved, m', mpast) ∧ (∀ i, i < 83 → m' i = m i) ∧ ∀ r q, r < 6 → q < 20 → mkn m' r q = if q = N ∧ j ≤ r then 0 else mkn m r q
  | 0, j, k + 1, m, h0, hj, _ => by
    have e6 : (6 : Int32) ≤ nI j := nI_le (a := 6) (by omega) (by omega)
    unfold fX7_removeLast_53
    rw [if_pos e6]
    exact ⟨m, rfl, fun _ _ => rfl, fun r q h1 h2 => (if_neg (by omega)).symm⟩
  | d + 1, j, k + 1, m, h0, hj, hk => by
    have e6 : ¬ (6 : Int32) ≤ nI j := nI_ge (b := 6) (by omega) (by omega)
    have e : m (0 : Int32).toNatClampNeg = nI N := h0
    obtain ⟨m', g1, g2, g3⟩ := p_removeLast_53 thr saved v1 mpast hN d (j + 1) k (upd m (83 + 20 * j + N) 0) (by rw [upd_ne (by omega)]; exact h0) (by omega) (by omega)
    unfold fX7_removeLast_53
    rw [if_neg e6, e, p_learns m 0 (by omega), Option.bind_some, nI_1, g1]
    refine ⟨m', rfl, fun i hi => by rw [g2 i hi, upd_ne (by omega)], fun r q h1 h2 => ?_⟩
    rw [g3 r q h1 h2]
    by_cases he : q = N ∧ r = j
    · obtain ⟨rfl, rfl⟩ := he
      rw [if_neg (by omega), if_pos ⟨rfl, Nat.le_refl _⟩]
      exact upd_eq _ _ _
    · have e9 : mkn (upd m (83 + 20 * j + N) 0) r q = mkn m r q := upd_ne (by omega)
      rw [e9]
      by_cases hl : q = N ∧ j ≤ r
      · rw [if_pos hl, if_pos (by omega)]
      · rw [if_neg hl, if_neg (by omega)]
theorem p_rd_congr {m m' : Nat → Int32} (h : ∀ i, 83 ≤ i → m' i = m i) {p : Nat} (hp : p < 20) : ∀ (d j k : Nat) (a : Int32), j + d = 6 → d < k → fX7_readersOf_4 k m' (nI p) a (nI j) = fX7_readersOf_4 k m (nI p) a (nI j)
  | 0, j, k + 1, a, hj, _ => by
    have e6 : (6 : Int32) ≤ nI j := nI_le (a := 6) (by omega) (by omega)
    unfold fX7_readersOf_4
    rw [if_pos e6, if_pos e6]
  | d + 1, j, k + 1, a, hj, hk => by
    have e6 : ¬ (6 : Int32) ≤ nI j := nI_ge (b := 6) (by omega) (by omega)
    unfold fX7_readersOf_4
    rw [if_neg e6, if_neg e6, p_known m (by omega), p_known m' (by omega), h _ (by omega), Option.bind_some, Option.bind_some, nI_1]
    rw [p_rd_congr h hp d (j + 1) k _ (by omega) (by omega), p_rd_congr h hp d (j + 1) k _ (by omega) (by omega)]
theorem p_rd_20 (m : Nat → Int32) {p : Nat} (hp : p < 20) : ∀ (d j k : Nat) (a v : Int32), zl20 a → j + d = 6 → d < k → fX7_readersOf_4 k m (nI p) a (nI j) = some v → zl20 v
  | 0, j, k + 1, a, v, ha, hj, _, h => by
    have e6 : (6 : Int32) ≤ nI j := nI_le (a := 6) (by omega) (by omega)
    unfold fX7_readersOf_4 at h
    rw [if_pos e6] at h
    rw [← Option.some.inj h]
    exact ha
  | d + 1, j, k + 1, a, v, ha, hj, hk, h => by
    have e6 : ¬ (6 : Int32) ≤ nI j := nI_ge (b := 6) (by omega) (by omega)
    unfold fX7_readersOf_4 at h
    rw [if_neg e6, p_known m (by omega), Option.bind_some, nI_1, zor_0] at h
    by_cases h2 : m (83 + 20 * j + p) = 2
    · rw [if_pos h2] at h
      refine p_rd_20 m hp d (j + 1) k _ v (fun q h3 h4 => ?_) (by omega) (by omega) h
      have e7 : zb ((1 : Int32) <<< (nI j &&& 31)) q = decide (q = j) := zb_zbit (p := j) (by omega) h4
      rw [zb_or, ha q h3 h4, e7, decide_eq_false (by omega), Bool.or_false]
    · rw [if_neg h2] at h
      exact p_rd_20 m hp d (j + 1) k _ v ha (by omega) (by omega) h
