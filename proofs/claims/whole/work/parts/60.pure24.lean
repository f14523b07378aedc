/-! PURE: a mail reaches a reader -/
theorem upd_eq (f : Nat → Int32) (k : Nat) (x : Int32) : upd f k x k = x := if_pos rfl
theorem upd_ne {f : Nat → Int32} {k j : Nat} {x : Int32} (h : j ≠ k) : upd f k x j = f j := if_neg h
theorem sA_sub (nd : Nat → Int32) (am : Int32) (p q : Nat) (h : zb (sA nd am p) q = true) : zb am q = true := by
  have h0 : zb (nd p &&& am) q = true → zb am q = true := fun h1 => by
    rw [zb_and, Bool.and_eq_true] at h1
    exact h1.2
  exact zdn_inv (g := gA nd am) (fun _ f => zb f q = true → zb am q = true) p (nd p &&& am) h0 (fun i f _ h1 => by
    unfold gA
    by_cases hz : zb f i = true
    · rw [if_pos hz]
      intro h2
      rw [zb_or, zb_and, Bool.or_eq_true, Bool.and_eq_true] at h2
      rcases h2 with h2 | h2
      · exact h1 h2
      · exact h2.2
    · rw [if_neg hz]
      exact h1) h
theorem sT_sub (m : Int32) (L : Nat) {q : Nat} (hq : q < 32) (h : zb (sT m L) q = true) : zb m q = true := by
  rw [sT_bit m L hq, Bool.and_eq_true, Bool.and_eq_true] at h
  exact h.2.1
theorem sM_bit {ms : Nat → Int32} {n r p q : Nat} (hn : n ≤ 20) (hp : p < n) (hq : q < 32) (h : zb (sM ms n r p) q = true) : q < p ∧ mkn ms r q = 0 := by
  refine ⟨sA_low (sN (mpl ms)) _ (by omega) hq (fun i hi h => sN_low (mpl ms) (by omega) hq h) h, ?_⟩
  have h1 := sA_sub _ _ _ _ h
  rw [sU_bit _ (by omega) hq, Bool.and_eq_true] at h1
  exact of_decide_eq_true h1.2
theorem p_learns (m : Nat → Int32) {r p : Nat} (x : Int32) (h : 83 + 20 * r + p < 203) : fX7_learns m (nI r) (nI p) x = some (upd m (83 + 20 * r + p) x) := by
  have e : 83 + 20 * nI r + nI p = nI (83 + 20 * r + p) := by
    rw [show (83 : Int32) = nI 83 from by decide, show (20 : Int32) = nI 20 from by decide, nI_mul, nI_add, nI_add]
  unfold fX7_learns
  rw [e, if_pos (zin_nI h (by decide)), nI_clamp (by omega)]
theorem p_grows (m : Nat → Int32) {r W : Nat} {w : Int32} (hw : w = nI W) (h : 65 + 3 * r + W < 203) (x : Int32) : fX7_grows m (nI r) w x = some (upd m (65 + 3 * r + W) (m (65 + 3 * r + W) + x)) := by
  have e : 65 + 3 * nI r + w = nI (65 + 3 * r + W) := by
    rw [hw, show (65 : Int32) = nI 65 from by decide, show (3 : Int32) = nI 3 from by decide, nI_mul, nI_add, nI_add]
  unfold fX7_grows
  rw [e, if_pos (zin_nI h (by decide)), if_pos (zin_nI h (by decide)), nI_clamp (by omega)]
def gL (r : Nat) (T : Int32) (i : Nat) (f : Nat → Int32) : Nat → Int32 := if zb T i = true then upd f (83 + 20 * r + i) 1 else f
theorem p_reaches_24 {r p : Nat} (hr : r < 6) (hp : p < 20) (v3 v4 v5 : Int32) : ∀ (d j k : Nat) (m : Nat → Int32), j + d = p → d < k → fX7_reaches_24 k m (nI r) (nI p) v3 v4 v5 (nI j) = fX7_reaches_24 (k - d) (zup (gL r v4) d j m) (nI r) (nI p) v3 v4 v5 (nI p)
  | 0, j, k + 1, m, hj, _ => by
    have : j = p := by omega
    subst this
    rfl
  | d + 1, j, k + 1, m, hj, hk => by
    have e2 : fX7_reaches_24 (k + 1) m (nI r) (nI p) v3 v4 v5 (nI j) = fX7_reaches_24 k (gL r v4 j m) (nI r) (nI p) v3 v4 v5 (nI (j + 1)) := by
      rw [fX7_reaches_24, if_neg (nI_ge (by omega) (by omega)), zb_bit v4 (by omega), nI_1]
      unfold gL
      by_cases hb : zb v4 j = true
      · rw [if_pos hb, if_pos rfl, if_pos hb, p_learns m 1 (by omega), Option.bind_some]
      · rw [if_neg hb, if_neg (by decide), if_neg hb]
    rw [e2, p_reaches_24 hr hp v3 v4 v5 d (j + 1) k _ (by omega) (by omega), show k + 1 - (d + 1) = k - d by omega]
    rfl
theorem gL_out (r : Nat) (T : Int32) : ∀ (d j : Nat) (f : Nat → Int32) (i : Nat), (i < 83 + 20 * r + j ∨ 83 + 20 * r + j + d ≤ i) → zup (gL r T) d j f i = f i
  | 0, _, _, _, _ => rfl
  | d + 1, j, f, i, h => by
    have h1 := gL_out r T d (j + 1) (gL r T j f) i (by omega)
    unfold zup
    rw [h1]
    unfold gL
    split
    · exact upd_ne (by omega)
    · rfl
theorem gL_in (r : Nat) (T : Int32) : ∀ (d j : Nat) (f : Nat → Int32) (q : Nat), j ≤ q → q < j + d → zup (gL r T) d j f (83 + 20 * r + q) = if zb T q = true then 1 else f (83 + 20 * r + q)
  | 0, _, _, _, h1, h2 => absurd h2 (by omega)
  | d + 1, j, f, q, h1, h2 => by
    unfold zup
    by_cases he : q = j
    · subst he
      rw [gL_out r T d (q + 1) _ _ (by omega)]
      unfold gL
      split
      · exact upd_eq _ _ _
      · rfl
    · rw [gL_in r T d (j + 1) _ q (by omega) (by omega)]
      have e : gL r T j f (83 + 20 * r + q) = f (83 + 20 * r + q) := by
        unfold gL
        split
        · exact upd_ne (by omega)
        · rfl
      rw [e]
/-- the reference's row when a mail has reached a reader -/
def rowR (ms : Nat → Int32) (r p : Nat) (T a b c : Int32) : Nat → Int32 :=
  upd (upd (upd (upd (upd (zup (gL r T) p 0 ms) (83 + 20 * r + p) 2) (65 + 3 * r) (ms (65 + 3 * r) + a)) (65 + 3 * r + 1) (ms (65 + 3 * r + 1) + b)) (65 + 3 * r + 2) (ms (65 + 3 * r + 2) + c)) 3 (ms 3 + 1)
section PT0
variable {ms : Nat → Int32} {r p : Nat} {T a b c : Int32}
theorem rowR_lo {i : Nat} (h : i < 65) (h3 : i ≠ 3) : rowR ms r p T a b c i = ms i := by
  unfold rowR
  rw [upd_ne h3, upd_ne (by omega), upd_ne (by omega), upd_ne (by omega), upd_ne (by omega), gL_out r T p 0 ms i (by omega)]
theorem rowR_3 : rowR ms r p T a b c 3 = ms 3 + 1 := upd_eq _ _ _
theorem rowR_c0 {r' : Nat} (h : r < 6) (h' : r' < 6) : rowR ms r p T a b c (65 + 3 * r') = if r' = r then ms (65 + 3 * r') + a else ms (65 + 3 * r') := by
  unfold rowR
  rw [upd_ne (by omega), upd_ne (by omega), upd_ne (by omega)]
  by_cases he : r' = r
  · subst he
    rw [upd_eq, if_pos rfl]
  · rw [upd_ne (by omega), upd_ne (by omega), gL_out r T p 0 ms _ (by omega), if_neg he]
theorem rowR_c1 {r' : Nat} (h : r < 6) (h' : r' < 6) : rowR ms r p T a b c (65 + 3 * r' + 1) = if r' = r then ms (65 + 3 * r' + 1) + b else ms (65 + 3 * r' + 1) := by
  unfold rowR
  rw [upd_ne (by omega), upd_ne (by omega)]
  by_cases he : r' = r
  · subst he
    rw [upd_eq, if_pos rfl]
  · rw [upd_ne (by omega), upd_ne (by omega), upd_ne (by omega), gL_out r T p 0 ms _ (by omega), if_neg he]
theorem rowR_c2 {r' : Nat} (h : r < 6) (h' : r' < 6) : rowR ms r p T a b c (65 + 3 * r' + 2) = if r' = r then ms (65 + 3 * r' + 2) + c else ms (65 + 3 * r' + 2) := by
  unfold rowR
  rw [upd_ne (by omega)]
  by_cases he : r' = r
  · subst he
    rw [upd_eq, if_pos rfl]
  · rw [upd_ne (by omega), upd_ne (by omega), upd_ne (by omega), upd_ne (by omega), gL_out r T p 0 ms _ (by omega), if_neg he]
theorem rowR_kn {r' q : Nat} (h : r < 6) (hp : p < 20) (hq : q < 20) : mkn (rowR ms r p T a b c) r' q = if r' = r then (if q = p then 2 else if q < p ∧ zb T q = true then 1 else mkn ms r' q) else mkn ms r' q := by
  unfold mkn rowR
  rw [upd_ne (by omega), upd_ne (by omega), upd_ne (by omega), upd_ne (by omega)]
  by_cases he : r' = r
  · subst he
    rw [if_pos rfl]
    by_cases hqp : q = p
    · subst hqp
      rw [upd_eq, if_pos rfl]
    · rw [upd_ne (by omega), if_neg hqp]
      by_cases hl : q < p
      · rw [gL_in r' T p 0 ms q (by omega) (by omega)]
        by_cases hb : zb T q = true
        · rw [if_pos hb, if_pos ⟨hl, hb⟩]
        · rw [if_neg hb, if_neg (fun h => hb h.2)]
      · rw [gL_out r' T p 0 ms _ (by omega), if_neg (fun h => hl h.1)]
  · rw [if_neg he, upd_ne (by omega), gL_out r T p 0 ms _ (by omega)]
end PT0
section PT
variable {n L c : Nat} {reached lost size : Int32} {plots cliffs words needs told rea wread ltold lout sets ms : Nat → Int32}
/-- only knowledge and counts have changed -/
theorem zV.know (V : zV n L c reached lost size plots cliffs words needs told rea wread ltold lout sets ms) {reached' lost' : Int32} {told' rea' wread' ltold' lout' ms' : Nat → Int32} (h0 : ∀ i, i < 3 → ms' i = ms i) (hp : ∀ i, 5 ≤ i → i < 65 → ms' i = ms i) (h3 : reached' = ms' 3) (h4 : lost' = ms' 4) (hb : ∀ r, r < 6 → ∀ q, q < n → zb (told' r) q = decide (mkn ms' r q = 1) ∧ zb (rea' r) q = decide (mkn ms' r q = 2)) (hb2 : ∀ r, r < 6 → ∀ q, n ≤ q → q < 32 → zb (told' r) q = false ∧ zb (rea' r) q = false) (hk : ∀ r, r < 6 → ∀ q, q < n → mkn ms' r q = 0 ∨ mkn ms' r q = 1 ∨ mkn ms' r q = 2) (hc : ∀ r, r < 6 → wread' r = ms' (65 + 3 * r) ∧ ltold' r = ms' (65 + 3 * r + 1) ∧ lout' r = ms' (65 + 3 * r + 2)) : zV n L c reached' lost' size plots cliffs words needs told' rea' wread' ltold' lout' sets ms' := by
  obtain ⟨⟨v1, v2, v3⟩, ⟨v4, v5, v6⟩, ⟨v7, v8, v9, v10⟩, -, v11, -, -, -⟩ := V
  refine ⟨⟨v1, v2, (h0 0 (by decide)).trans v3⟩, ⟨v4, v5, (h0 1 (by decide)).trans v6⟩, ⟨v7, v8, v9, (h0 2 (by decide)).trans v10⟩, ⟨h3, h4⟩, fun q hq => ?_, fun r hr q hq => ?_, hk, hc⟩
  · have e : ∀ i, i < 20 → mpl ms' i = mpl ms i := fun i hi => hp (5 + 3 * i) (by omega) (by omega)
    obtain ⟨a1, a2, a3, a4, a5⟩ := v11 q hq
    exact ⟨a1.trans (e q (by omega)).symm, a2.trans (hp (5 + 3 * q + 1) (by omega) (by omega)).symm, a3.trans (hp (5 + 3 * q + 2) (by omega) (by omega)).symm, a4.trans (sN_congr (fun i hi => (e i (by omega)).symm)), a5⟩
  · by_cases hl : q < n
    · rw [decide_eq_true hl, Bool.true_and, Bool.true_and]
      exact hb r hr q hl
    · rw [decide_eq_false hl, Bool.false_and, Bool.false_and]
      exact hb2 r hr q (by omega) hq
theorem zV.v_deliver (V : zV n L c reached lost size plots cliffs words needs told rea wread ltold lout sets ms) {r p : Nat} (hr : r < 6) (hp : p < n) : ∃ (v : Int32 × Int32 × (Nat → Int32) × (Nat → Int32) × (Nat → Int32) × (Nat → Int32) × (Nat → Int32)) (m : Nat → Int32), fX3_deliver reached size words needs told rea wread ltold lout sets (nI r) (nI p) = some v ∧ fX7_reaches ms (nI r) (nI p) = some (v.1, m) ∧ 0 ≤ v.1 ∧ zV n L c v.2.1 lost size plots cliffs words needs v.2.2.1 v.2.2.2.1 v.2.2.2.2.1 v.2.2.2.2.2.1 v.2.2.2.2.2.2 sets m := by
  have hn := V.1.1
  obtain ⟨m1, m2⟩ := V.missed hr hp
  have hM := sM_20 (ms := ms) (n := n) (r := r) (p := p) (by omega)
  obtain ⟨b1, b2⟩ := V.v_told hM
  have hMb : ∀ q, q < 32 → zb (sT (sM ms n r p) L) q = true → q < p ∧ mkn ms r q = 0 := fun q hq h => sM_bit hn hp hq (sT_sub _ L hq h)
  have hT20 := sT_20 (sM ms n r p) L
  have o1 := p_ones hM
  have o2 := p_ones hT20
  obtain ⟨d1, d2⟩ := V.v_words (sT (sM ms n r p) L)
  have hpp := zpop_le (sT (sM ms n r p) L)
  have hz := zin_nI (a := r) (n := 6) hr (by decide)
  have hz2 := zin_nI (a := p) (n := 20) (by omega) (by decide)
  have hc : (nI r).toNatClampNeg = r := nI_clamp (by omega)
  have hcp : (nI p).toNatClampNeg = p := nI_clamp (by omega)
  have hw : words p = mwd ms p := (V.2.2.2.2.1 p hp).2.2.1
  generalize sT (sM ms n r p) L = T at *
  generalize sM ms n r p = M at *
  have ht : fX0_takeIn told rea (nI r) (nI p) T = some (upd told r ((told r ||| T) &&& ((rea r ||| zbit p) ^^^ (-1))), upd rea r (rea r ||| zbit p)) := by
    unfold fX0_takeIn
    rw [if_pos hz, if_pos hz, if_pos hz, if_pos hz, if_pos hz, hc, upd_eq]
    rfl
  have hwo : ∀ m : Nat → Int32, (∀ i, i < 65 → m i = ms i) → fX7_wordsOf m T = some (sW (mwd ms) (nI c) T n) := fun m hm => by
    rw [p_wordsOf m T V.2.2.1.1 (by have := V.2.2.1.2.1; omega) ((hm 2 (by decide)).trans V.2.2.1.2.2.2) ((hm 0 (by decide)).trans V.1.2.2) hn]
    exact congrArg some (sW_congr _ _ (fun q hq => hm (5 + 3 * q + 2) (by omega)))
  have hof : ∀ m : Nat → Int32, (∀ i, i < 65 → m i = ms i) → fX7_of m (nI p) 2 = some (mwd ms p) := fun m hm => by
    rw [p_of2 m (by omega)]
    exact congrArg some (hm (5 + 3 * p + 2) (by omega))
  refine ⟨(nI (zpop T), reached + 1, upd told r ((told r ||| T) &&& ((rea r ||| zbit p) ^^^ (-1))), upd rea r (rea r ||| zbit p), upd wread r (wread r + (words p + sW (mwd ms) (nI c) T n)), upd ltold r (ltold r + nI (zpop T)), upd lout r (lout r + (nI (zpop M) - nI (zpop T)))), rowR ms r p T (mwd ms p + sW (mwd ms) (nI c) T n) (nI (zpop T)) (nI (zpop M) - nI (zpop T)), ?_, ?_, nI_pos' (by omega), ?_⟩
  · unfold fX3_deliver
    rw [m1, Option.bind_some, b1, Option.bind_some, p_bitCount, Option.bind_some, ht, Option.bind_some, if_pos hz, if_pos hz2, d1, Option.bind_some, if_pos hz, if_pos hz, if_pos hz, if_pos hz, p_bitCount, Option.bind_some, if_pos hz, hc, hcp]
  · have hl := p_reaches_24 (r := r) (p := p) hr (by omega) M T (nI (zpop T)) p 0 zfuel ms (by omega) (by have : zfuel = 5000 := rfl; omega)
    have hl : fX7_reaches_24 zfuel ms (nI r) (nI p) M T (nI (zpop T)) 0 = _ := hl
    obtain ⟨K, hK⟩ : ∃ K, zfuel - p = K + 1 := ⟨4999 - p, by have : zfuel = 5000 := rfl; omega⟩
    have hA : ∀ i, i < 65 → upd (zup (gL r T) p 0 ms) (83 + 20 * r + p) 2 i = ms i := fun i hi => by rw [upd_ne (by omega), gL_out r T p 0 ms i (by omega)]
    have hB : ∀ w, w < 3 → upd (zup (gL r T) p 0 ms) (83 + 20 * r + p) 2 (65 + 3 * r + w) = ms (65 + 3 * r + w) := fun w hw => by rw [upd_ne (by omega), gL_out r T p 0 ms _ (by omega)]
    have e3 : (3 : Int32).toNatClampNeg = 3 := rfl
    unfold fX7_reaches
    rw [m2, Option.bind_some, b2, Option.bind_some, o2, Option.bind_some, hl, hK, fX7_reaches_24, if_pos (nI_le (Nat.le_refl p) (by omega)), p_learns _ 2 (by omega), Option.bind_some, hof _ hA, Option.bind_some, hwo _ hA, Option.bind_some, p_grows (W := 0) (w := 0) _ rfl (by omega), Option.bind_some, p_grows (W := 1) (w := 1) _ rfl (by omega), Option.bind_some, o1, Option.bind_some, p_grows (W := 2) (w := 2) _ rfl (by omega), Option.bind_some, e3]
    rw [hB 0 (by decide), upd_ne (by omega : 65 + 3 * r + 1 ≠ 65 + 3 * r + 0), hB 1 (by decide), upd_ne (by omega : 65 + 3 * r + 2 ≠ 65 + 3 * r + 1), upd_ne (by omega : 65 + 3 * r + 2 ≠ 65 + 3 * r + 0), hB 2 (by decide), upd_ne (by omega : 3 ≠ 65 + 3 * r + 2), upd_ne (by omega : 3 ≠ 65 + 3 * r + 1), upd_ne (by omega : 3 ≠ 65 + 3 * r + 0), hA 3 (by decide)]
    rfl
  · show zV n L c (reached + 1) lost size plots cliffs words needs (upd told r ((told r ||| T) &&& ((rea r ||| zbit p) ^^^ (-1)))) (upd rea r (rea r ||| zbit p)) (upd wread r (wread r + (words p + sW (mwd ms) (nI c) T n))) (upd ltold r (ltold r + nI (zpop T))) (upd lout r (lout r + (nI (zpop M) - nI (zpop T)))) sets (rowR ms r p T (mwd ms p + sW (mwd ms) (nI c) T n) (nI (zpop T)) (nI (zpop M) - nI (zpop T)))
    obtain ⟨-, -, -, ⟨vr, vl⟩, -, vb, vk, vc⟩ := id V
    refine V.know (fun i hi => rowR_lo (by omega) (by omega)) (fun i h1 h2 => rowR_lo h2 (by omega)) ?_ ?_ (fun r' hr' q hq => ?_) (fun r' hr' q h1 h2 => ?_) (fun r' hr' q hq => ?_) (fun r' hr' => ?_)
    · rw [rowR_3, ← vr]
    · rw [rowR_lo (by decide) (by decide)]
      exact vl
    · obtain ⟨g1, g2⟩ := vb r' hr' q (by omega)
      rw [decide_eq_true hq, Bool.true_and] at g1 g2
      have hv := vk r' hr' q hq
      rw [rowR_kn hr (by omega) (by omega)]
      by_cases he : r' = r
      · subst he
        rw [if_pos rfl, upd_eq, upd_eq, zb_and, zb_or, zb_not _ (by omega), zb_or, zb_zbit (by omega) (by omega), g1, g2]
        by_cases hqp : q = p
        · rw [if_pos hqp, decide_eq_true hqp, Bool.or_true]
          exact ⟨by simp, by decide⟩
        · rw [if_neg hqp, decide_eq_false hqp, Bool.or_false]
          by_cases hb : zb T q = true
          · obtain ⟨k1, k2⟩ := hMb q (by omega) hb
            rw [if_pos ⟨k1, hb⟩, hb, k2]
            decide
          · have hb' : zb T q = false := by simpa using hb
            rw [if_neg (fun h => hb h.2), hb', Bool.or_false]
            rcases hv with h | h | h <;> rw [h] <;> decide
      · rw [if_neg he, upd_ne he, upd_ne he]
        exact ⟨g1, g2⟩
    · obtain ⟨g1, g2⟩ := vb r' hr' q h2
      rw [decide_eq_false (by omega), Bool.false_and] at g1 g2
      by_cases he : r' = r
      · subst he
        have hb' : zb T q = false := by
          cases hb : zb T q
          · rfl
          · obtain ⟨k1, -⟩ := hMb q h2 hb
            omega
        rw [upd_eq, upd_eq, zb_and, zb_or, zb_or, zb_zbit (by omega) h2, g1, g2, hb', decide_eq_false (by omega)]
        exact ⟨rfl, rfl⟩
      · rw [upd_ne he, upd_ne he]
        exact ⟨g1, g2⟩
    · have hv := vk r' hr' q hq
      rw [rowR_kn hr (by omega) (by omega)]
      split
      · split
        · exact Or.inr (Or.inr rfl)
        · split
          · exact Or.inr (Or.inl rfl)
          · exact hv
      · exact hv
    · obtain ⟨g1, g2, g3⟩ := vc r' hr'
      rw [rowR_c0 hr hr', rowR_c1 hr hr', rowR_c2 hr hr']
      by_cases he : r' = r
      · subst he
        rw [if_pos rfl, if_pos rfl, if_pos rfl, ← g1, ← g2, ← g3, ← hw]
        exact ⟨upd_eq _ _ _, upd_eq _ _ _, upd_eq _ _ _⟩
      · rw [if_neg he, if_neg he, if_neg he, ← g1, ← g2, ← g3]
        exact ⟨upd_ne he, upd_ne he, upd_ne he⟩
end PT
