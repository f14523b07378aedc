/-! PURE: the methods that change something, but for the saved states -/
abbrev zR7 : Type := Int32 × Int32 × Int32 × (Nat → Int32) × (Nat → Int32)
def zO (x : zSC) (ms : Nat → Int32) : Prop := ∃ n L c, zV n L c x.1 x.2.1 x.2.2.1 x.2.2.2.1 x.2.2.2.2.1 x.2.2.2.2.2.1 x.2.2.2.2.2.2.1 x.2.2.2.2.2.2.2.1 x.2.2.2.2.2.2.2.2.1 x.2.2.2.2.2.2.2.2.2.1 x.2.2.2.2.2.2.2.2.2.2.1 x.2.2.2.2.2.2.2.2.2.2.2.1 x.2.2.2.2.2.2.2.2.2.2.2.2 ms
def zMu {T : Type} (A B : String) (f6 : Option (String ⊕ T)) (f7 : Option zR7) (saved : Int32) (ms mpast : Nat → Int32) (S : Int32) (Pm : Nat → Int32) (P : T → Int32 → (Nat → Int32) → Prop) : Prop :=
  (∃ r b m, f6 = some (.inr r) ∧ f7 = some (b, 0, S, m, Pm) ∧ P r b m) ∨ (f6 = some (.inl A) ∧ f7 = some (0, 1, saved, ms, mpast)) ∨ (f6 = some (.inl B) ∧ f7 = some (0, 2, saved, ms, mpast))
def zMu1 {T : Type} (A : String) (f6 : Option (String ⊕ T)) (f7 : Option zR7) (saved : Int32) (ms mpast : Nat → Int32) (S : Int32) (Pm : Nat → Int32) (P : T → Int32 → (Nat → Int32) → Prop) : Prop :=
  (∃ r b m, f6 = some (.inr r) ∧ f7 = some (b, 0, S, m, Pm) ∧ P r b m) ∨ (f6 = some (.inl A) ∧ f7 = some (0, 1, saved, ms, mpast))
theorem ck_plots (x1 x2 : Int32) : (fX6_checkPlots x1 x2 = some (.inr ()) ∧ fX7_in x1 1 63 = some 1 ∧ fX7_isCliff x1 x2 = some 1 ∧ (x2 = -1 ∨ ∃ x, x < 6 ∧ x2 = nI x)) ∨ (fX6_checkPlots x1 x2 = some (.inl "java/lang/IllegalArgumentException") ∧ (fX7_in x1 1 63 = some 0 ∨ (fX7_in x1 1 63 = some 1 ∧ fX7_isCliff x1 x2 = some 0))) := by
  rcases z_rng1 x1 64 with h | ⟨a, h1, h2, rfl⟩
  · refine Or.inr ⟨?_, Or.inl (in1_out (W := 63) (w := 63) rfl (by decide) h)⟩
    unfold fX6_checkPlots
    rcases h with h | ⟨j, h1, h2, rfl⟩
    · rw [if_pos h]
    · rw [if_neg (nlt1 (by omega) h2), if_neg (show ¬ nI j ≤ (63 : Int32) from nI_ge (a := 63) (by omega) h2)]
  · have hin := in1_in (W := 63) (w := 63) rfl (by decide) h1 h2
    have e1 := nlt1 h1 (by omega)
    have e2 : nI a ≤ (63 : Int32) := nI_le (b := 63) (by omega) (by omega)
    unfold fX6_checkPlots fX7_isCliff
    rw [if_neg e1, if_pos e2, hin]
    by_cases h3 : x2 = -1
    · rw [if_pos h3, if_pos h3]
      exact Or.inl ⟨rfl, rfl, rfl, Or.inl h3⟩
    · rw [if_neg h3, if_neg h3]
      rcases z_rng x2 6 with h | ⟨y, hy, rfl⟩
      · rw [in_out (W := 5) (w := 5) rfl (by decide) h, Option.bind_some, if_pos rfl]
        refine Or.inr ⟨?_, Or.inr ⟨rfl, rfl⟩⟩
        rcases h with h | ⟨j, h4, h5, rfl⟩
        · rw [if_pos h]
        · rw [if_neg (nI_pos h5), if_pos (show (6 : Int32) ≤ nI j from nI_le (a := 6) h4 h5)]
      · rw [in_in (W := 5) (w := 5) rfl (by decide) hy, Option.bind_some, if_neg ne01, if_neg (nI_pos (by omega)), if_neg (show ¬ (6 : Int32) ≤ nI y from nI_ge (b := 6) hy (by omega)), zb_isIn _ (by omega), zb_bit _ (by omega), Option.bind_some]
        by_cases hb : zb (nI a) y = true
        · rw [if_pos hb, if_neg ne01, if_pos rfl]
          exact Or.inl ⟨rfl, rfl, rfl, Or.inr ⟨y, hy, rfl⟩⟩
        · rw [if_neg hb, if_pos rfl, if_neg (by decide)]
          exact Or.inr ⟨rfl, Or.inr ⟨rfl, rfl⟩⟩
section PX
variable {n L c : Nat} {reached lost size : Int32} {plots cliffs words needs told rea wread ltold lout sets ms : Nat → Int32}
theorem zV.s_add (V : zV n L c reached lost size plots cliffs words needs told rea wread ltold lout sets ms) {thr saved S : Int32} {mpast Pm : Nat → Int32} (hs : fX7_saves saved ms mpast = some (S, Pm)) (x1 x2 x3 : Int32) : zMu "java/lang/IllegalArgumentException" "java/lang/IllegalStateException" (fX6_add size plots cliffs words needs x1 x2 x3) (fX7_add thr saved ms mpast x1 x2 x3) saved ms mpast S Pm (fun r b m => b = r.1 ∧ zO (reached, lost, r.2.1, r.2.2.1, r.2.2.2.1, r.2.2.2.2.1, r.2.2.2.2.2, told, rea, wread, ltold, lout, sets) m) := by
  have hn := V.1.1
  have e : ms (0 : Int32).toNatClampNeg = nI n := V.1.2.2
  unfold fX6_add fX7_add
  rcases ck_plots x1 x2 with ⟨h1, h2, h3, hcl⟩ | ⟨h1, h2⟩
  · rw [h1, h2, zxb_r, Option.bind_some, if_neg ne01]
    rcases z_rng1 x3 100 with h | ⟨w, hw1, hw, rfl⟩
    · rw [in1_out (W := 99) (w := 99) rfl (by decide) h, Option.bind_some, if_pos rfl, p_ref1, Option.bind_some, if_neg ne01]
      refine Or.inr (Or.inl ⟨?_, rfl⟩)
      rcases h with h | ⟨j, h4, h5, rfl⟩
      · rw [if_pos h]
      · rw [if_neg (nlt1 (by omega) h5), if_neg (show ¬ nI j ≤ (99 : Int32) from nI_ge (a := 99) (by omega) h5)]
    · rw [in1_in (W := 99) (w := 99) rfl (by decide) hw1 hw, Option.bind_some, if_neg ne01, h3, Option.bind_some, if_neg ne01, e, if_neg (nlt1 hw1 (by omega)), if_pos (show nI w ≤ (99 : Int32) from nI_le (b := 99) (by omega) (by omega))]
      by_cases h20 : n = 20
      · have h6 : ¬ size < 20 := by rw [V.1.2.1, h20]; decide
        rw [if_neg h6, if_pos (by rw [h20]; rfl), p_ref2, Option.bind_some, if_neg ne01]
        exact Or.inr (Or.inr ⟨rfl, rfl⟩)
      · have h6 : size < 20 := by rw [V.1.2.1]; exact nI_lt (b := 20) (by omega) (by omega)
        have h7 : ¬ nI n = 20 := fun h => h20 ((nI_eq (b := 20) (by omega) (by omega)).mp h)
        obtain ⟨v, m, g1, g2, g3, g4, V'⟩ := V.v_put (by omega) x1 x2 (nI w) hcl
        have e9 : m (0 : Int32).toNatClampNeg = nI (n + 1) := g4
        rw [if_pos h6, if_neg h7, p_ref0, Option.bind_some, if_pos rfl, hs, Option.bind_some, g1, g2, Option.bind_some, Option.bind_some, e9, g3]
        exact Or.inl ⟨_, _, _, rfl, rfl, rfl, n + 1, L, c, g3 ▸ V'⟩
  · rw [h1, zxb_l]
    rcases h2 with h2 | ⟨h2, h3⟩
    · rw [h2, Option.bind_some, if_pos rfl, p_ref1, Option.bind_some, if_neg ne01]
      exact Or.inr (Or.inl ⟨rfl, rfl⟩)
    · rw [h2, Option.bind_some, if_neg ne01]
      rcases z_rng1 x3 100 with h | ⟨w, hw1, hw, rfl⟩
      · rw [in1_out (W := 99) (w := 99) rfl (by decide) h, Option.bind_some, if_pos rfl, p_ref1, Option.bind_some, if_neg ne01]
        exact Or.inr (Or.inl ⟨rfl, rfl⟩)
      · rw [in1_in (W := 99) (w := 99) rfl (by decide) hw1 hw, Option.bind_some, if_neg ne01, h3, Option.bind_some, if_pos rfl, p_ref1, Option.bind_some, if_neg ne01]
        exact Or.inr (Or.inl ⟨rfl, rfl⟩)
theorem zV.s_change (V : zV n L c reached lost size plots cliffs words needs told rea wread ltold lout sets ms) {thr saved S : Int32} {mpast Pm : Nat → Int32} (hs : fX7_saves saved ms mpast = some (S, Pm)) (x1 x2 x3 : Int32) : zMu "java/lang/IndexOutOfBoundsException" "java/lang/IllegalArgumentException" (fX6_change size plots cliffs needs x1 x2 x3) (fX7_change thr saved ms mpast x1 x2 x3) saved ms mpast S Pm (fun r b m => b = r.1 ∧ zO (reached, lost, size, r.2.1, r.2.2.1, words, r.2.2.2, told, rea, wread, ltold, lout, sets) m) := by
  have hn := V.1.1
  unfold fX6_change fX7_change
  rcases z_rng x1 n with h | ⟨p, hp, rfl⟩
  · obtain ⟨h1, h2⟩ := ck_part_out V.1.2.1 V.1.2.2 hn h
    rw [h1, h2, zxb_l, Option.bind_some, if_pos rfl, p_ref1, Option.bind_some, if_neg ne01]
    exact Or.inr (Or.inl ⟨rfl, rfl⟩)
  · obtain ⟨h1, h2⟩ := ck_part_in V.1.2.1 V.1.2.2 hn hp
    rw [h1, h2, zxb_r, Option.bind_some, if_neg ne01]
    rcases ck_plots x2 x3 with ⟨h1, h2, h3, hcl⟩ | ⟨h1, h2⟩
    · obtain ⟨nd', g1, V'⟩ := V.v_rewrite hp x2 x3 hcl
      have e5 : ∀ w W, w = nI W → 5 + 3 * nI p + w = nI (5 + 3 * p + W) := fun w W hw => by
        rw [hw, show (5 : Int32) = nI 5 from rfl, show (3 : Int32) = nI 3 from rfl, nI_mul, nI_add, nI_add]
      rw [h1, h2, zxb_r, Option.bind_some, if_neg ne01, h3, Option.bind_some, if_neg ne01, p_ref0, Option.bind_some, if_pos rfl, hs, Option.bind_some, g1, Option.bind_some, p_of0 ms (by omega), Option.bind_some, e5 0 0 rfl, e5 1 1 rfl, if_pos (zin_nI (by omega) (by decide)), if_pos (zin_nI (by omega) (by decide)), nI_clamp (by omega), nI_clamp (by omega), Nat.add_zero]
      exact Or.inl ⟨_, _, _, rfl, rfl, (V.2.2.2.2.1 p hp).1.symm, n, L, c, V'⟩
    · rw [h1, zxb_l]
      rcases h2 with h2 | ⟨h2, h3⟩
      · rw [h2, Option.bind_some, if_pos rfl, p_ref2, Option.bind_some, if_neg ne01]
        exact Or.inr (Or.inr ⟨rfl, rfl⟩)
      · rw [h2, Option.bind_some, if_neg ne01, h3, Option.bind_some, if_pos rfl, p_ref2, Option.bind_some, if_neg ne01]
        exact Or.inr (Or.inr ⟨rfl, rfl⟩)
theorem zV.s_removeLast (V : zV n L c reached lost size plots cliffs words needs told rea wread ltold lout sets ms) {thr saved S : Int32} {mpast Pm : Nat → Int32} (hs : fX7_saves saved ms mpast = some (S, Pm)) : zMu1 "java/lang/IllegalStateException" (fX6_removeLast size told rea) (fX7_removeLast thr saved ms mpast) saved ms mpast S Pm (fun r b m => b = r.1 ∧ zO (reached, lost, r.2.1, plots, cliffs, words, needs, r.2.2.1, r.2.2.2, wread, ltold, lout, sets) m) := by
  have hn := V.1.1
  have e : ms (0 : Int32).toNatClampNeg = nI n := V.1.2.2
  have e0 : (0 : Int32).toNatClampNeg = 0 := rfl
  unfold fX6_removeLast fX7_removeLast
  by_cases h0 : n = 0
  · have h1 : ¬ (1 : Int32) ≤ size := by rw [V.1.2.1, h0]; decide
    rw [if_neg h1, e, if_pos (by rw [h0]; rfl), p_ref1, Option.bind_some, if_neg ne01]
    exact Or.inr ⟨rfl, rfl⟩
  · have h1 : (1 : Int32) ≤ size := by rw [V.1.2.1]; exact nI_le (a := 1) (by omega) (by omega)
    obtain ⟨N, rfl⟩ : ∃ N, n = N + 1 := ⟨n - 1, by omega⟩
    have es : size - 1 = nI N := by rw [V.1.2.1, nI_pred]
    obtain ⟨w, w1, w2⟩ := V.v_readersOf (p := N) (by omega)
    have hw20 : zl20 w := p_rd_20 ms (p := N) (by omega) 6 0 zfuel 0 w (fun q _ _ => zb_0 q) rfl (by decide) w2
    have w3 : fX7_readersOf (upd ms 0 (nI N)) (nI N) = some w := (p_rd_congr (m := ms) (m' := upd ms 0 (nI N)) (fun i hi => upd_ne (by omega)) (by omega) 6 0 zfuel 0 rfl (by decide)).trans w2
    obtain ⟨t', r', d1, d2, d3⟩ := p_dropPart_8 (((1 : Int32) <<< (nI N &&& 31)) ^^^ (-1)) 6 0 zfuel told rea rfl (by decide)
    have d1 : fX0_dropPart told rea (nI N) = some (t', r') := d1
    obtain ⟨m', g1, g2, g3⟩ := p_removeLast_53 0 S (nI (zpop w)) Pm (N := N) (by omega) 6 0 zfuel (upd ms 0 (nI N)) (upd_eq _ _ _) rfl (by decide)
    have g1 : fX7_removeLast_53 zfuel 0 S (upd ms 0 (nI N)) Pm (nI (zpop w)) 0 = _ := g1
    rw [if_pos h1, es, w1, Option.bind_some, p_bitCount, Option.bind_some, d1, Option.bind_some, if_neg (by rw [e]; exact nI_ne0 (by omega) (by omega)), p_ref0, Option.bind_some, if_pos rfl, hs, Option.bind_some, e, nI_pred, e0, upd_eq, w3, Option.bind_some, p_ones hw20, Option.bind_some, g1]
    refine Or.inl ⟨_, _, _, rfl, rfl, rfl, N, L, c, ?_⟩
    show zV N L c reached lost (nI N) plots cliffs words needs t' r' wread ltold lout sets m'
    obtain ⟨⟨v1, v2, v3⟩, ⟨v4, v5, v6⟩, ⟨v7, v8, v9, v10⟩, ⟨vr, vl⟩, v11, vb, vk, vc⟩ := V
    have hm : ∀ i, 1 ≤ i → i < 83 → m' i = ms i := fun i h1 h2 => by rw [g2 i h2, upd_ne (by omega)]
    have hk : ∀ r q, r < 6 → q < 20 → mkn m' r q = if q = N then 0 else mkn ms r q := fun r q h1 h2 => by
      rw [g3 r q h1 h2, mkn_upd (by decide)]
      by_cases he : q = N
      · rw [if_pos ⟨he, Nat.zero_le r⟩, if_pos he]
      · rw [if_neg (fun h => he h.1), if_neg he]
    have hmask : ∀ q, q < 32 → zb (((1 : Int32) <<< (nI N &&& 31)) ^^^ (-1)) q = !decide (q = N) := fun q hq => by
      have e7 : zb ((1 : Int32) <<< (nI N &&& 31)) q = decide (q = N) := zb_zbit (p := N) (by omega) hq
      rw [zb_not _ hq, e7]
    refine ⟨⟨by omega, rfl, (g2 0 (by decide)).trans (upd_eq _ _ _)⟩, ⟨v4, v5, (hm 1 (by decide) (by decide)).trans v6⟩, ⟨v7, v8, v9, (hm 2 (by decide) (by decide)).trans v10⟩, ⟨vr.trans (hm 3 (by decide) (by decide)).symm, vl.trans (hm 4 (by decide) (by decide)).symm⟩, fun q hq => ?_, fun r hr q hq => ?_, fun r hr q hq => ?_, fun r hr => ?_⟩
    · obtain ⟨a1, a2, a3, a4, a5⟩ := v11 q (by omega)
      exact ⟨a1.trans (hm (5 + 3 * q) (by omega) (by omega)).symm, a2.trans (hm (5 + 3 * q + 1) (by omega) (by omega)).symm, a3.trans (hm (5 + 3 * q + 2) (by omega) (by omega)).symm, a4.trans (sN_congr (fun i hi => (hm (5 + 3 * i) (by omega) (by omega)).symm)), a5⟩
    · obtain ⟨b1, b2⟩ := vb r hr q hq
      rw [d2 r, d3 r, if_pos ⟨Nat.zero_le r, hr⟩, if_pos ⟨Nat.zero_le r, hr⟩, zb_and, zb_and, hmask q hq, b1, b2]
      by_cases hl : q < N
      · rw [hk r q hr (by omega), if_neg (by omega), decide_eq_true hl, decide_eq_true (by omega : q < N + 1), decide_eq_false (by omega : ¬ q = N)]
        simp
      · rw [decide_eq_false hl]
        by_cases he : q = N
        · rw [decide_eq_true he]
          simp
        · rw [decide_eq_false (by omega : ¬ q < N + 1)]
          simp
    · rw [hk r q hr (by omega), if_neg (by omega)]
      exact vk r hr q (by omega)
    · rw [hm _ (by omega) (by omega), hm _ (by omega) (by omega), hm _ (by omega) (by omega)]
      exact vc r hr
theorem zV.set0 (V : zV n L c reached lost size plots cliffs words needs told rea wread ltold lout sets ms) {w : Nat} (hw : w < 20) : zV n w c reached lost size plots cliffs words needs told rea wread ltold lout (upd sets 0 (nI w)) (upd ms 1 (nI w)) := by
  obtain ⟨⟨v1, v2, v3⟩, ⟨v4, v5, v6⟩, ⟨v7, v8, v9, v10⟩, ⟨vr, vl⟩, v11, vb, vk, vc⟩ := V
  have hm : ∀ i, i ≠ 1 → upd ms 1 (nI w) i = ms i := fun i h => upd_ne h
  refine ⟨⟨v1, v2, (hm 0 (by decide)).trans v3⟩, ⟨by omega, upd_eq _ _ _, upd_eq _ _ _⟩, ⟨v7, v8, (upd_ne (by decide)).trans v9, (hm 2 (by decide)).trans v10⟩, ⟨vr.trans (hm 3 (by decide)).symm, vl.trans (hm 4 (by decide)).symm⟩, fun q hq => ?_, fun r hr q hq => ?_, fun r hr q hq => ?_, fun r hr => ?_⟩
  · obtain ⟨a1, a2, a3, a4, a5⟩ := v11 q hq
    exact ⟨a1.trans (hm (5 + 3 * q) (by omega)).symm, a2.trans (hm (5 + 3 * q + 1) (by omega)).symm, a3.trans (hm (5 + 3 * q + 2) (by omega)).symm, a4.trans (sN_congr (fun i hi => (hm (5 + 3 * i) (by omega)).symm)), a5⟩
  · rw [mkn_upd (by decide)]
    exact vb r hr q hq
  · rw [mkn_upd (by decide)]
    exact vk r hr q hq
  · rw [hm _ (by omega), hm _ (by omega), hm _ (by omega)]
    exact vc r hr
theorem zV.set1 (V : zV n L c reached lost size plots cliffs words needs told rea wread ltold lout sets ms) {w : Nat} (h1 : 1 ≤ w) (hw : w < 21) : zV n L w reached lost size plots cliffs words needs told rea wread ltold lout (upd sets 1 (nI w)) (upd ms 2 (nI w)) := by
  obtain ⟨⟨v1, v2, v3⟩, ⟨v4, v5, v6⟩, ⟨v7, v8, v9, v10⟩, ⟨vr, vl⟩, v11, vb, vk, vc⟩ := V
  have hm : ∀ i, i ≠ 2 → upd ms 2 (nI w) i = ms i := fun i h => upd_ne h
  refine ⟨⟨v1, v2, (hm 0 (by decide)).trans v3⟩, ⟨v4, (upd_ne (by decide)).trans v5, (hm 1 (by decide)).trans v6⟩, ⟨h1, by omega, upd_eq _ _ _, upd_eq _ _ _⟩, ⟨vr.trans (hm 3 (by decide)).symm, vl.trans (hm 4 (by decide)).symm⟩, fun q hq => ?_, fun r hr q hq => ?_, fun r hr q hq => ?_, fun r hr => ?_⟩
  · obtain ⟨a1, a2, a3, a4, a5⟩ := v11 q hq
    exact ⟨a1.trans (hm (5 + 3 * q) (by omega)).symm, a2.trans (hm (5 + 3 * q + 1) (by omega)).symm, a3.trans (hm (5 + 3 * q + 2) (by omega)).symm, a4.trans (sN_congr (fun i hi => (hm (5 + 3 * i) (by omega)).symm)), a5⟩
  · rw [mkn_upd (by decide)]
    exact vb r hr q hq
  · rw [mkn_upd (by decide)]
    exact vk r hr q hq
  · rw [hm _ (by omega), hm _ (by omega), hm _ (by omega)]
    exact vc r hr
theorem zV.s_set (V : zV n L c reached lost size plots cliffs words needs told rea wread ltold lout sets ms) {thr saved S : Int32} {mpast Pm : Nat → Int32} (hs : fX7_saves saved ms mpast = some (S, Pm)) (x1 x2 : Int32) : zMu "java/lang/IndexOutOfBoundsException" "java/lang/IllegalArgumentException" (fX6_set sets x1 x2) (fX7_set thr saved ms mpast x1 x2) saved ms mpast S Pm (fun r b m => b = r.1 ∧ zO (reached, lost, size, plots, cliffs, words, needs, told, rea, wread, ltold, lout, r.2) m) := by
  unfold fX6_set fX7_set
  rcases z_rng x1 2 with h | ⟨w, hw, rfl⟩
  · obtain ⟨h3, h4⟩ := ck_set_out h
    rw [h3, h4, zxb_l, Option.bind_some, if_pos rfl, p_ref1, Option.bind_some, if_neg ne01]
    exact Or.inr (Or.inl ⟨rfl, rfl⟩)
  · obtain ⟨h3, h4⟩ := ck_set_in hw
    rw [h3, h4, zxb_r, Option.bind_some, if_neg ne01]
    have hw' : w = 0 ∨ w = 1 := by omega
    rcases hw' with rfl | rfl
    · rw [show nI 0 = (0 : Int32) from rfl, if_pos rfl, if_pos rfl, if_pos rfl]
      rcases z_rng x2 20 with h | ⟨v, hv, rfl⟩
      · rw [in_out (W := 19) (w := 19) rfl (by decide) h, Option.bind_some, if_pos rfl, p_ref2, Option.bind_some, if_neg ne01]
        refine Or.inr (Or.inr ⟨?_, rfl⟩)
        rcases h with h | ⟨j, h5, h6, rfl⟩
        · rw [if_pos h]
        · rw [if_neg (nI_pos h6), if_neg (show ¬ nI j ≤ (19 : Int32) from nI_ge (a := 19) (by omega) h6)]
      · have e1 : ms (1 + (0 : Int32)).toNatClampNeg = sets (0 : Int32).toNatClampNeg := V.2.1.2.2.trans V.2.1.2.1.symm
        rw [in_in (W := 19) (w := 19) rfl (by decide) hv, Option.bind_some, if_neg ne01, p_ref0, Option.bind_some, if_pos rfl, hs, Option.bind_some, if_neg (nI_pos (by omega)), if_pos (show nI v ≤ (19 : Int32) from nI_le (b := 19) (by omega) (by omega)), if_pos (by decide), if_pos (by decide), if_pos (by decide), if_pos (by decide), e1]
        exact Or.inl ⟨_, _, _, rfl, rfl, rfl, n, v, c, V.set0 hv⟩
    · rw [show nI 1 = (1 : Int32) from rfl, if_neg ne01, if_neg ne01, if_neg ne01]
      rcases z_rng1 x2 21 with h | ⟨v, hv1, hv, rfl⟩
      · rw [in1_out (W := 20) (w := 20) rfl (by decide) h, Option.bind_some, if_pos rfl, p_ref2, Option.bind_some, if_neg ne01]
        refine Or.inr (Or.inr ⟨?_, rfl⟩)
        rcases h with h | ⟨j, h5, h6, rfl⟩
        · rw [if_pos h]
        · rw [if_neg (nlt1 (by omega) h6), if_neg (show ¬ nI j ≤ (20 : Int32) from nI_ge (a := 20) (by omega) h6)]
      · have e1 : ms (1 + (1 : Int32)).toNatClampNeg = sets (1 : Int32).toNatClampNeg := V.2.2.1.2.2.2.trans V.2.2.1.2.2.1.symm
        rw [in1_in (W := 20) (w := 20) rfl (by decide) hv1 hv, Option.bind_some, if_neg ne01, p_ref0, Option.bind_some, if_pos rfl, hs, Option.bind_some, if_neg (nlt1 hv1 (by omega)), if_pos (show nI v ≤ (20 : Int32) from nI_le (b := 20) (by omega) (by omega)), if_pos (by decide), if_pos (by decide), if_pos (by decide), if_pos (by decide), e1]
        exact Or.inl ⟨_, _, _, rfl, rfl, rfl, n, L, v, V.set1 hv1 hv⟩
theorem zV.s_mail (V : zV n L c reached lost size plots cliffs words needs told rea wread ltold lout sets ms) {thr saved S : Int32} {mpast Pm : Nat → Int32} (hs : fX7_saves saved ms mpast = some (S, Pm)) (x1 x2 : Int32) : zMu "java/lang/IndexOutOfBoundsException" "java/lang/IllegalStateException" (fX6_mail reached size words needs told rea wread ltold lout sets x1 x2) (fX7_mail thr saved ms mpast x1 x2) saved ms mpast S Pm (fun r b m => b = r.1 ∧ zO (r.2.1, lost, size, plots, cliffs, words, needs, r.2.2.1, r.2.2.2.1, r.2.2.2.2.1, r.2.2.2.2.2.1, r.2.2.2.2.2.2, sets) m) := by
  have hn := V.1.1
  unfold fX6_mail fX7_mail
  rcases z_rng x1 6 with h | ⟨r, hr, rfl⟩
  · obtain ⟨h1, h2⟩ := ck_reader_out h
    rw [h1, h2, zxb_l, Option.bind_some, if_pos rfl, p_ref1, Option.bind_some, if_neg ne01]
    exact Or.inr (Or.inl ⟨rfl, rfl⟩)
  · obtain ⟨h1, h2⟩ := ck_reader_in hr
    rw [h1, h2, zxb_r, Option.bind_some, if_neg ne01]
    rcases z_rng x2 n with h | ⟨p, hp, rfl⟩
    · obtain ⟨h3, h4⟩ := ck_part_out V.1.2.1 V.1.2.2 hn h
      rw [h3, h4, zxb_l, Option.bind_some, if_pos rfl, p_ref1, Option.bind_some, if_neg ne01]
      exact Or.inr (Or.inl ⟨rfl, rfl⟩)
    · obtain ⟨h3, h4⟩ := ck_part_in V.1.2.1 V.1.2.2 hn hp
      have hkn : fX7_known ms (nI r) (nI p) = some (mkn ms r p) := p_known ms (by omega)
      rw [h3, h4, zxb_r, Option.bind_some, if_neg ne01, hkn, Option.bind_some, V.hasRead hr hp, Option.bind_some]
      by_cases h5 : mkn ms r p = 2
      · rw [if_pos h5, if_neg ne01, if_pos h5, p_ref2, Option.bind_some, if_neg ne01]
        exact Or.inr (Or.inr ⟨rfl, rfl⟩)
      · obtain ⟨v, m, g1, g2, -, V'⟩ := V.v_deliver hr hp
        rw [if_neg h5, if_pos rfl, if_neg h5, p_ref0, Option.bind_some, if_pos rfl, hs, Option.bind_some, g1, g2, Option.bind_some, Option.bind_some]
        exact Or.inl ⟨_, _, _, rfl, rfl, rfl, n, L, c, V'⟩
theorem zV.s_mailAll (V : zV n L c reached lost size plots cliffs words needs told rea wread ltold lout sets ms) {thr saved S : Int32} {mpast Pm : Nat → Int32} (hs : fX7_saves saved ms mpast = some (S, Pm)) (x1 x2 : Int32) : zMu "java/lang/IndexOutOfBoundsException" "java/lang/IllegalArgumentException" (fX6_mailAll reached lost size words needs told rea wread ltold lout sets x1 x2) (fX7_mailAll thr saved ms mpast x1 x2) saved ms mpast S Pm (fun r b m => b = r.1 ∧ zO (r.2.1, r.2.2.1, size, plots, cliffs, words, needs, r.2.2.2.1, r.2.2.2.2.1, r.2.2.2.2.2.1, r.2.2.2.2.2.2.1, r.2.2.2.2.2.2.2, sets) m) := by
  have hn := V.1.1
  unfold fX6_mailAll fX7_mailAll
  rcases z_rng x1 n with h | ⟨p, hp, rfl⟩
  · obtain ⟨h1, h2⟩ := ck_part_out V.1.2.1 V.1.2.2 hn h
    rw [h1, h2, zxb_l, Option.bind_some, if_pos rfl, p_ref1, Option.bind_some, if_neg ne01]
    exact Or.inr (Or.inl ⟨rfl, rfl⟩)
  · obtain ⟨h1, h2⟩ := ck_part_in V.1.2.1 V.1.2.2 hn hp
    rw [h1, h2, zxb_r, Option.bind_some, if_neg ne01]
    rcases z_rng x2 64 with h | ⟨w, hw, rfl⟩
    · rw [in_out (W := 63) (w := 63) rfl (by decide) h, Option.bind_some, if_pos rfl, p_ref2, Option.bind_some, if_neg ne01]
      refine Or.inr (Or.inr ⟨?_, rfl⟩)
      rcases h with h | ⟨j, h5, h6, rfl⟩
      · rw [if_pos h]
      · rw [if_neg (nI_pos h6), if_neg (show ¬ nI j ≤ (63 : Int32) from nI_ge (a := 63) (by omega) h6)]
    · obtain ⟨v, m, g1, g2, V'⟩ := p_toAll 0 S Pm hp (nI w) 6 0 zfuel zfuel 0 reached lost told rea wread ltold lout ms V rfl (by decide) (by decide)
      have g1 : fX3_deliverToAll reached lost size words needs told rea wread ltold lout sets (nI p) (nI w) = some v := g1
      have g2 : fX7_mailAll_45 zfuel 0 S ms Pm (nI p) (nI w) 0 0 = some (v.1, 0, S, m, Pm) := g2
      rw [in_in (W := 63) (w := 63) rfl (by decide) hw, Option.bind_some, if_neg ne01, p_ref0, Option.bind_some, if_pos rfl, hs, Option.bind_some, if_neg (nI_pos (by omega)), if_pos (show nI w ≤ (63 : Int32) from nI_le (b := 63) (by omega) (by omega)), g1, g2, Option.bind_some]
      exact Or.inl ⟨_, _, _, rfl, rfl, rfl, n, L, c, V'⟩
theorem zV.s_catchUp (V : zV n L c reached lost size plots cliffs words needs told rea wread ltold lout sets ms) {thr saved S : Int32} {mpast Pm : Nat → Int32} (hs : fX7_saves saved ms mpast = some (S, Pm)) (x1 : Int32) : zMu1 "java/lang/IndexOutOfBoundsException" (fX6_catchUp reached size words needs told rea wread ltold lout sets x1) (fX7_catchUp thr saved ms mpast x1) saved ms mpast S Pm (fun r b m => b = r.1 ∧ zO (r.2.1, lost, size, plots, cliffs, words, needs, r.2.2.1, r.2.2.2.1, r.2.2.2.2.1, r.2.2.2.2.2.1, r.2.2.2.2.2.2, sets) m) := by
  have hn := V.1.1
  unfold fX6_catchUp fX7_catchUp
  rcases z_rng x1 6 with h | ⟨r, hr, rfl⟩
  · obtain ⟨h1, h2⟩ := ck_reader_out h
    rw [h1, h2, zxb_l, Option.bind_some, if_pos rfl, p_ref1, Option.bind_some, if_neg ne01]
    exact Or.inr ⟨rfl, rfl⟩
  · obtain ⟨h1, h2⟩ := ck_reader_in hr
    have hw : wread r = ms (65 + 3 * r) := (V.2.2.2.2.2.2.2 r hr).1
    have e65 : (65 : Int32) + 3 * nI r = nI (65 + 3 * r) := by
      rw [show (65 : Int32) = nI 65 from by decide, show (3 : Int32) = nI 3 from by decide, nI_mul, nI_add]
    obtain ⟨v, m, g1, g2, V'⟩ := p_unread 0 S lost Pm hr (ms (65 + 3 * r)) n 0 zfuel zfuel reached told rea wread ltold lout ms V (by omega) (Nat.lt_of_le_of_lt hn (by decide)) (Nat.lt_of_le_of_lt hn (by decide))
    have g1 : fX3_deliverUnread_12 zfuel reached size words needs told rea wread ltold lout sets (nI r) (ms (65 + 3 * r)) 0 = some v := g1
    have g2 : fX7_catchUp_39 zfuel 0 S ms Pm (nI r) (ms (65 + 3 * r)) 0 = some (v.1, 0, S, m, Pm) := g2
    have g3 : fX3_deliverUnread reached size words needs told rea wread ltold lout sets (nI r) = some v := by
      unfold fX3_deliverUnread
      rw [if_pos (zin_nI hr (by decide)), nI_clamp (by omega), hw, g1]
    rw [h1, h2, zxb_r, Option.bind_some, if_neg ne01, p_ref0, Option.bind_some, if_pos rfl, hs, Option.bind_some, g3, Option.bind_some, e65, if_pos (zin_nI (by omega) (by decide)), nI_clamp (by omega), g2]
    exact Or.inl ⟨_, _, _, rfl, rfl, rfl, n, L, c, V'⟩
theorem zV.s_forget (V : zV n L c reached lost size plots cliffs words needs told rea wread ltold lout sets ms) {thr saved S : Int32} {mpast Pm : Nat → Int32} (hs : fX7_saves saved ms mpast = some (S, Pm)) (x1 : Int32) : zMu1 "java/lang/IndexOutOfBoundsException" (fX6_forget told x1) (fX7_forget thr saved ms mpast x1) saved ms mpast S Pm (fun r b m => b = r.1 ∧ zO (reached, lost, size, plots, cliffs, words, needs, r.2, rea, wread, ltold, lout, sets) m) := by
  have hn := V.1.1
  unfold fX6_forget fX7_forget
  rcases z_rng x1 6 with h | ⟨r, hr, rfl⟩
  · obtain ⟨h1, h2⟩ := ck_reader_out h
    rw [h1, h2, zxb_l, Option.bind_some, if_pos rfl, p_ref1, Option.bind_some, if_neg ne01]
    exact Or.inr ⟨rfl, rfl⟩
  · obtain ⟨h1, h2⟩ := ck_reader_in hr
    obtain ⟨-, -, -, ⟨vr, vl⟩, -, vb, vk, vc⟩ := id V
    obtain ⟨m, g1, g2, g3⟩ := p_forget_29 0 S Pm hr hn (told r) n 0 zfuel 0 ms V.1.2.2 (fun q _ hq => by
      have b1 := (vb r hr q (by omega)).1
      rw [decide_eq_true hq, Bool.true_and] at b1
      exact b1) (by omega) (Nat.lt_of_le_of_lt hn (by decide))
    have hp : zpop (told r) = zcnt (told r) n 0 := zpop_n hn (fun q h2 h3 => by rw [(vb r hr q h3).1, decide_eq_false (by omega), Bool.false_and])
    rw [Nat.zero_add, ← hp] at g1
    have g1 : fX7_forget_29 zfuel 0 S ms Pm (nI r) 0 0 = _ := g1
    have hz := zin_nI (a := r) (n := 6) hr (by decide)
    have g4 : fX0_dropTold told (nI r) = some (nI (zpop (told r)), upd told r 0) := by
      unfold fX0_dropTold
      rw [if_pos hz, nI_clamp (by omega), p_bitCount, Option.bind_some, if_pos hz]
    rw [h1, h2, zxb_r, Option.bind_some, if_neg ne01, p_ref0, Option.bind_some, if_pos rfl, hs, Option.bind_some, g4, Option.bind_some, g1]
    refine Or.inl ⟨_, _, _, rfl, rfl, rfl, n, L, c, ?_⟩
    show zV n L c reached lost size plots cliffs words needs (upd told r 0) rea wread ltold lout sets m
    have hm : ∀ i, i < 83 → m i = ms i := fun i hi => g2 i (by omega)
    have hk : ∀ r' q, r' < 6 → q < n → mkn m r' q = if r' = r then (if mkn ms r' q = 1 then 0 else mkn ms r' q) else mkn ms r' q := fun r' q h7 h8 => by
      by_cases he : r' = r
      · subst he
        rw [if_pos rfl]
        exact g3 q (Nat.zero_le q) h8
      · rw [if_neg he]
        exact g2 _ (by omega)
    refine V.know (fun i hi => hm i (by omega)) (fun i h1 h2 => hm i (by omega)) (vr.trans (hm 3 (by decide)).symm) (vl.trans (hm 4 (by decide)).symm) (fun r' hr' q hq => ?_) (fun r' hr' q h1 h2 => ?_) (fun r' hr' q hq => ?_) (fun r' hr' => ?_)
    · obtain ⟨b1, b2⟩ := vb r' hr' q (by omega)
      rw [decide_eq_true hq, Bool.true_and] at b1 b2
      rw [hk r' q hr' hq]
      by_cases he : r' = r
      · subst he
        rw [if_pos rfl, upd_eq, zb_0, b2]
        rcases vk r' hr' q hq with h | h | h <;> rw [h] <;> decide
      · rw [if_neg he, upd_ne he]
        exact ⟨b1, b2⟩
    · obtain ⟨b1, b2⟩ := vb r' hr' q h2
      rw [decide_eq_false (by omega), Bool.false_and] at b1 b2
      by_cases he : r' = r
      · subst he
        rw [upd_eq, zb_0]
        exact ⟨rfl, b2⟩
      · rw [upd_ne he]
        exact ⟨b1, b2⟩
    · rw [hk r' q hr' hq]
      split
      · split
        · exact Or.inl rfl
        · exact vk r' hr' q hq
      · exact vk r' hr' q hq
    · rw [hm _ (by omega), hm _ (by omega), hm _ (by omega)]
      exact vc r' hr'
end PX
