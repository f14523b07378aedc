/-! PURE: the grammar: the reference's parser against the automaton -/
/-- where the automaton stops from i on (d characters are left), and its state there -/
def aRun (X : Nat → Nat) : Nat → Nat → zGr → Nat × zGr
  | 0, i, s => (i, s)
  | d + 1, i, s => if (tk s (nI (X i))).1 = 0 then (i, (tk s (nI (X i))).2) else aRun X d (i + 1) (tk s (nI (X i))).2
/-- the parts that it tells -/
def aPts (X : Nat → Nat) : Nat → Nat → zGr → List (Int32 × Int32 × Int32)
  | 0, _, s => [s.2]
  | d + 1, i, s => if X i = 59 then s.2 :: aPts X d (i + 1) (tk s (nI (X i))).2 else aPts X d (i + 1) (tk s (nI (X i))).2
def aJ (X : Nat → Nat) (t i : Nat) (s : zGr) (i' : Nat) (s' : zGr) : Prop := aRun X (t - i) i s = aRun X (t - i') i' s' ∧ aPts X (t - i) i s = aPts X (t - i') i' s'
def aBad (X : Nat → Nat) (t i : Nat) (s : zGr) (i' : Nat) : Prop := i' ≤ t ∧ (aRun X (t - i) i s).1 = i' ∧ (i' = t → fX1_mayEnd (aRun X (t - i) i s).2.1 = some 0)
theorem aJ.refl {X : Nat → Nat} {t i : Nat} {s : zGr} : aJ X t i s i s := ⟨rfl, rfl⟩
theorem aJ.trans {X : Nat → Nat} {t i i' i'' : Nat} {s s' s'' : zGr} (h : aJ X t i s i' s') (g : aJ X t i' s' i'' s'') : aJ X t i s i'' s'' := ⟨h.1.trans g.1, h.2.trans g.2⟩
theorem aJ.step {X : Nat → Nat} {t i : Nat} {s s' : zGr} (hi : i < t) (h : tk s (nI (X i)) = (1, s')) (h59 : ¬ X i = 59) : aJ X t i s (i + 1) s' := by
  obtain ⟨d, hd⟩ : ∃ d, t - i = d + 1 := ⟨t - i - 1, by omega⟩
  have hd2 : t - (i + 1) = d := by omega
  unfold aJ
  rw [hd, hd2]
  constructor
  · rw [aRun, h, if_neg ne01]
  · rw [aPts, h, if_neg h59]
theorem aBad.of {X : Nat → Nat} {t i i' i'' : Nat} {s s' : zGr} (h : aJ X t i s i' s') (g : aBad X t i' s' i'') : aBad X t i s i'' := by
  unfold aBad at *
  rw [h.1]
  exact g
theorem aBad.here {X : Nat → Nat} {t i : Nat} {s : zGr} (hi : i ≤ t) (h : i < t → (tk s (nI (X i))).1 = 0) (he : fX1_mayEnd s.1 = some 0) : aBad X t i s i := by
  unfold aBad
  by_cases hl : i < t
  · obtain ⟨d, hd⟩ : ∃ d, t - i = d + 1 := ⟨t - i - 1, by omega⟩
    rw [hd, aRun, if_pos (h hl)]
    exact ⟨hi, rfl, fun h => absurd h (by omega)⟩
  · rw [show t - i = 0 by omega]
    exact ⟨hi, rfl, fun _ => he⟩
/-- the texts of class and reference -/
def zTX (X : Nat → Nat) (t : Nat) (mtext : Nat → Int32) : Prop := t ≤ 60 ∧ ∀ i, i < t → X i < 127 ∧ mtext i = nI (X i)
section PZ
variable {X : Nat → Nat} {t : Nat} {mlen : Int32} {mtext : Nat → Int32}
theorem p_sees (hT : zTX X t mtext) (hm : mlen = nI t) {i l h : Nat} {lo hi : Int32} (hi' : i ≤ t) (hlo : lo = nI l) (hhi : hi = nI h) (hl : l < 127) (hh : h < 127) : fX7_sees mlen (nI i) mtext lo hi = some (if i < t ∧ l ≤ X i ∧ X i ≤ h then 1 else 0) := by
  have ht := hT.1
  unfold fX7_sees
  by_cases hit : i < t
  · obtain ⟨x1, x2⟩ := hT.2 i hit
    rw [if_neg (by rw [hm]; exact nI_ge hit (by omega)), if_pos (zin_nI (by omega) (by decide)), nI_clamp (by omega), x2]
    unfold fX7_in
    rw [hlo, hhi]
    by_cases h1 : X i < l
    · rw [if_pos (nI_lt h1 (by omega)), Option.bind_some, if_pos rfl, if_neg (fun h => by omega)]
    · rw [if_neg (nI_nlt (by omega) (by omega))]
      by_cases h2 : h < X i
      · rw [if_pos (nI_lt h2 (by omega)), Option.bind_some, if_pos rfl, if_neg (fun h => by omega)]
      · rw [if_neg (nI_nlt (by omega) (by omega)), Option.bind_some, if_neg ne01, if_pos ⟨hit, by omega, by omega⟩]
  · rw [if_pos (by rw [hm]; exact nI_le (by omega) (by omega)), if_neg (fun h => hit h.1)]
theorem p_takes (hT : zTX X t mtext) (hm : mlen = nI t) {i c : Nat} {ch : Int32} (hi' : i ≤ t) (hc : ch = nI c) (hc2 : c < 127) : fX7_takes mlen (nI i) mtext ch = some (if i < t ∧ X i = c then (1, nI (i + 1)) else (0, nI i)) := by
  unfold fX7_takes
  rw [p_sees hT hm hi' hc hc hc2 hc2, Option.bind_some]
  by_cases h : i < t ∧ X i = c
  · rw [if_pos (show i < t ∧ c ≤ X i ∧ X i ≤ c from ⟨h.1, by omega, by omega⟩), if_neg ne01, if_pos (Or.inr rfl), if_pos h, nI_1]
  · rw [if_neg (fun g : i < t ∧ c ≤ X i ∧ X i ≤ c => h ⟨g.1, by omega⟩), if_pos rfl, if_pos (Or.inl rfl), if_neg h, Int32.add_zero]
theorem p_readsPlots_4 (hT : zTX X t mtext) (hm : mlen = nI t) : ∀ (d i k a b : Nat), i + d = t → d < k → GP a b → ∃ i' a' b', fX7_readsPlots_4 k mlen (nI i) mtext (nI a) (nI b) = some (nI a', nI i') ∧ i ≤ i' ∧ i' ≤ t ∧ GP a' b' ∧ aJ X t i (plo a, nI a, -1, 10) i' (plo a', nI a', -1, 10) ∧ ¬ (i' < t ∧ 48 + b' ≤ X i' ∧ X i' ≤ 53) ∧ (a' = 0 → a = 0 ∧ i' = i) ∧ (a = 0 → ¬ a' = 0 → i < i')
  | 0, i, k + 1, a, b, hi, _, hG => by
    have ht := hT.1
    have hs := p_sees hT hm (i := i) (l := 48 + b) (h := 53) (lo := 48 + nI b) (hi := 53) (by omega) (by rw [show (48 : Int32) = nI 48 from rfl, nI_add]) rfl (by have := hG.2.1; omega) (by decide)
    rw [if_neg (fun h => by omega)] at hs
    unfold fX7_readsPlots_4
    rw [hs, Option.bind_some, if_pos rfl]
    exact ⟨i, a, b, rfl, Nat.le_refl _, by omega, hG, aJ.refl, fun h => by omega, fun h => ⟨h, rfl⟩, fun h1 h2 => absurd h1 h2⟩
  | d + 1, i, k + 1, a, b, hi, hk, hG => by
    have ht := hT.1
    have hs := p_sees hT hm (i := i) (l := 48 + b) (h := 53) (lo := 48 + nI b) (hi := 53) (by omega) (by rw [show (48 : Int32) = nI 48 from rfl, nI_add]) rfl (by have := hG.2.1; omega) (by decide)
    unfold fX7_readsPlots_4
    rw [hs, Option.bind_some]
    by_cases h : i < t ∧ 48 + b ≤ X i ∧ X i ≤ 53
    · obtain ⟨x1, x2⟩ := hT.2 i h.1
      have e := (cx (X i) x1).2 (by omega)
      have e' : nI (X i - 48) + 1 = nI (X i - 48 + 1) := nI_1 _
      obtain ⟨g1, g2, g3⟩ := hG.next (q := X i - 48) (by omega) (by omega)
      obtain ⟨i', a', b', r1, r2, r3, r4, r5, r6, r7, r8⟩ := p_readsPlots_4 hT hm d (i + 1) k (a ||| 2 ^ (X i - 48)) (X i - 48 + 1) (by omega) (by omega) g2
      rw [if_pos h, if_neg ne01, if_pos (zin_nI (by omega) (by decide)), nI_clamp (by omega), x2, e, e', nI_pred, g1, nI_1, r1]
      have hp : plo (a ||| 2 ^ (X i - 48)) = 1 := if_neg g3
      rw [hp] at r5
      refine ⟨i', a', b', rfl, by omega, r3, r4, (aJ.step h.1 (k_plot (-1) 10 hG h.2.1 h.2.2) (by omega)).trans r5, r6, fun h0 => absurd (r7 h0).1 g3, fun _ _ => by omega⟩
    · rw [if_neg h, if_pos rfl]
      exact ⟨i, a, b, rfl, Nat.le_refl _, by omega, hG, aJ.refl, h, fun h => ⟨h, rfl⟩, fun h1 h2 => absurd h1 h2⟩
theorem p_words (hT : zTX X t mtext) (hm : mlen = nI t) {i : Nat} (hi : i ≤ t) (m cl wo : Int32) : (fX7_readsWords mlen (nI i) mtext = some (-2, nI i) ∧ aBad X t i (4, m, cl, wo) i) ∨ (∃ i' w pl, fX7_readsWords mlen (nI i) mtext = some (nI w, nI i') ∧ 1 ≤ w ∧ w < 100 ∧ i < i' ∧ i' ≤ t ∧ aJ X t i (4, m, cl, wo) i' (pl, m, cl, nI w) ∧ fX1_mayEnd pl = some 1 ∧ tk (pl, m, cl, nI w) (nI 59) = (1, 0, 0, -1, 10) ∧ (i' < t → ¬ X i' = 59 → (tk (pl, m, cl, nI w) (nI (X i'))).1 = 0)) := by
  have ht := hT.1
  unfold fX7_readsWords
  rw [p_sees hT hm (l := 49) (h := 57) (lo := 49) (hi := 57) hi rfl rfl (by decide) (by decide), Option.bind_some]
  by_cases h : i < t ∧ 49 ≤ X i ∧ X i ≤ 57
  · obtain ⟨x1, x2⟩ := hT.2 i h.1
    have e := (cx (X i) x1).2 (by omega)
    rw [if_pos h, if_neg ne01, if_pos (zin_nI (by omega) (by decide)), nI_clamp (by omega), x2, e, nI_1, p_sees hT hm (i := i + 1) (l := 48) (h := 57) (lo := 48) (hi := 57) h.1 rfl rfl (by decide) (by decide), Option.bind_some]
    have j1 : aJ X t i (4, m, cl, wo) (i + 1) (5, m, cl, nI (X i - 48)) := aJ.step h.1 (k_d1 m cl wo h.2.1 h.2.2) (by omega)
    by_cases h2 : i + 1 < t ∧ 48 ≤ X (i + 1) ∧ X (i + 1) ≤ 57
    · obtain ⟨y1, y2⟩ := hT.2 (i + 1) h2.1
      have e2 := (cx (X (i + 1)) y1).2 (by omega)
      have ew : (10 * nI (X i - 48) + nI (X (i + 1))) - 48 = nI (10 * (X i - 48) + (X (i + 1) - 48)) := by
        rw [Int32.sub_eq_add_neg, Int32.add_assoc, ← Int32.sub_eq_add_neg, e2, show (10 : Int32) = nI 10 from rfl, nI_mul, nI_add]
      have ew2 : (nI (X i - 48) * 10 + nI (X (i + 1))) - 48 = nI (10 * (X i - 48) + (X (i + 1) - 48)) := by
        rw [Int32.mul_comm, ew]
      have k2 := k_d2 m cl (nI (X i - 48)) h2.2.1 h2.2.2
      rw [ew2] at k2
      rw [if_pos h2, if_neg ne01, if_pos (zin_nI (by omega) (by decide)), nI_clamp (by omega), y2, ew, nI_1]
      exact Or.inr ⟨i + 1 + 1, _, 6, rfl, by omega, by omega, by omega, by omega, j1.trans (aJ.step h2.1 k2 (by omega)), rfl, k_e6 _ _ _, fun h3 h4 => k_6 _ _ _ (hT.2 _ h3).1 h4⟩
    · rw [if_neg h2, if_pos rfl]
      exact Or.inr ⟨i + 1, X i - 48, 5, rfl, by omega, by omega, by omega, h.1, j1, rfl, k_e5 _ _ _, fun h3 h4 => k_5 _ _ _ (hT.2 _ h3).1 (fun g => h2 ⟨h3, g.1, g.2⟩) h4⟩
  · rw [if_neg h, if_pos rfl]
    exact Or.inl ⟨rfl, aBad.here hi (fun h3 => k_4 _ _ _ (hT.2 _ h3).1 (fun g => h ⟨h3, g.1, g.2⟩)) rfl⟩
theorem p_cliff (hT : zTX X t mtext) (hm : mlen = nI t) {i a : Nat} (hi : i ≤ t) (cl wo : Int32) : (fX7_readsCliff mlen (nI i) mtext (nI a) = some (-2, nI i) ∧ aBad X t i (2, nI a, cl, wo) i) ∨ (∃ y, y < 6 ∧ i < t ∧ fX7_readsCliff mlen (nI i) mtext (nI a) = some (nI y, nI (i + 1)) ∧ aJ X t i (2, nI a, cl, wo) (i + 1) (3, nI a, nI y, wo)) := by
  have ht := hT.1
  unfold fX7_readsCliff
  rw [p_sees hT hm (l := 48) (h := 53) (lo := 48) (hi := 53) hi rfl rfl (by decide) (by decide), Option.bind_some, Int32.add_zero]
  by_cases h : i < t ∧ 48 ≤ X i ∧ X i ≤ 53
  · obtain ⟨x1, x2⟩ := hT.2 i h.1
    have e := (cx (X i) x1).2 (by omega)
    rw [if_pos h, if_neg ne01, if_pos (zin_nI (by omega) (by decide)), Int32.add_sub_cancel, if_pos (zin_nI (by omega) (by decide)), nI_clamp (by omega), x2, e, zb_bit _ (by omega), nI_1]
    by_cases hb : zb (nI a) (X i - 48) = true
    · rw [if_pos hb, if_pos rfl]
      exact Or.inr ⟨X i - 48, by omega, h.1, rfl, aJ.step h.1 (k_cl cl wo h.2.1 h.2.2 hb) (by omega)⟩
    · rw [if_neg hb, if_neg (by decide)]
      exact Or.inl ⟨rfl, aBad.here hi (fun h3 => k_2 _ _ (hT.2 _ h3).1 (fun g => hb g.2.2)) rfl⟩
  · rw [if_neg h, if_pos rfl]
    exact Or.inl ⟨rfl, aBad.here hi (fun h3 => k_2 _ _ (hT.2 _ h3).1 (fun g => h ⟨h3, g.1, g.2.1⟩)) rfl⟩
/-- the reference's rows of parts read -/
def mrd (m : Nat → Int32) (j : Nat) (e : Int32 × Int32 × Int32) : Nat → Int32 := upd (upd (upd m (3 * j) e.1) (3 * j + 1) e.2.1) (3 * j + 2) e.2.2
theorem p_part (hT : zTX X t mtext) (hm : mlen = nI t) {i rd : Nat} (hi : i ≤ t) (hrd : rd ≤ 30) (mread : Nat → Int32) : (∃ i', fX7_readsPart mlen (nI i) (nI rd) mtext mread = some (0, nI i', nI rd, mread) ∧ aBad X t i (0, 0, -1, 10) i') ∨ (∃ i' pl ps cl wo, fX7_readsPart mlen (nI i) (nI rd) mtext mread = some (1, nI i', nI (rd + 1), mrd mread rd (ps, cl, wo)) ∧ i < i' ∧ i' ≤ t ∧ aJ X t i (0, 0, -1, 10) i' (pl, ps, cl, wo) ∧ fX1_mayEnd pl = some 1 ∧ tk (pl, ps, cl, wo) (nI 59) = (1, 0, 0, -1, 10) ∧ (i' < t → ¬ X i' = 59 → (tk (pl, ps, cl, wo) (nI (X i'))).1 = 0) ∧ (cl = -1 ∨ ∃ y, y < 6 ∧ cl = nI y)) := by
  have ht := hT.1
  have e3 : (3 : Int32) * nI rd = nI (3 * rd) := by rw [show (3 : Int32) = nI 3 from rfl, nI_mul]
  have e31 : nI (3 * rd) + 1 = nI (3 * rd + 1) := nI_1 _
  have e32 : nI (3 * rd) + 2 = nI (3 * rd + 2) := nI_add (3 * rd) 2
  have z0 := zin_nI (a := 3 * rd) (n := 96) (by omega) (by decide)
  have z1 := zin_nI (a := 3 * rd + 1) (n := 96) (by omega) (by decide)
  have z2 := zin_nI (a := 3 * rd + 2) (n := 96) (by omega) (by decide)
  have c0 : (nI (3 * rd)).toNatClampNeg = 3 * rd := nI_clamp (by omega)
  have c1 : (nI (3 * rd + 1)).toNatClampNeg = 3 * rd + 1 := nI_clamp (by omega)
  have c2 : (nI (3 * rd + 2)).toNatClampNeg = 3 * rd + 2 := nI_clamp (by omega)
  obtain ⟨i1, a, b, r1, r2, r3, hG, r5, r6, r7, r8⟩ := p_readsPlots_4 hT hm (t - i) i zfuel 0 0 (by omega) (by have : zfuel = 5000 := rfl; omega) GP_0
  have r1 : fX7_readsPlots mlen (nI i) mtext = some (nI a, nI i1) := r1
  have r5 : aJ X t i (0, 0, -1, 10) i1 (plo a, nI a, -1, 10) := r5
  unfold fX7_readsPart
  rw [r1, Option.bind_some, e3, e31, e32]
  by_cases ha : a = 0
  · subst ha
    have h0 : nI 0 ≤ 0 := by decide
    rw [if_pos h0, if_pos h0, if_pos h0]
    refine Or.inl ⟨i1, rfl, aBad.of r5 (aBad.here r3 (fun h => ?_) rfl)⟩
    have hb0 : b = 0 := hG.2.2.2.mp rfl
    exact k_0 _ _ (hT.2 _ h).1 (fun g => r6 ⟨h, by omega, g.2⟩)
  · have hpl : plo a = 1 := if_neg ha
    rw [hpl] at r5
    have hi1 := r8 rfl ha
    have hA : ¬ nI a ≤ 0 := nI_nle (by omega) (by have := hG.1; omega)
    have h22 : (-2 : Int32) ≤ -2 := by decide
    have h20 : (-2 : Int32) ≤ 0 := by decide
    rw [if_neg hA, p_takes hT hm (c := 33) (ch := 33) r3 rfl (by decide), Option.bind_some]
    by_cases hbang : i1 < t ∧ X i1 = 33
    · rw [if_pos hbang, if_neg ne01]
      have j1 : aJ X t i1 (1, nI a, -1, 10) (i1 + 1) (2, nI a, -1, 10) := aJ.step hbang.1 (by rw [hbang.2]; exact k_bang _ _ hG) (by omega)
      rcases p_cliff hT hm (i := i1 + 1) (a := a) hbang.1 (-1) 10 with ⟨q1, q2⟩ | ⟨y, hy, q0, q1, q2⟩
      · rw [q1, Option.bind_some, if_neg hA, if_pos h22, if_neg hA, if_pos h22]
        exact Or.inl ⟨_, rfl, (r5.trans j1) |> fun j => aBad.of j q2⟩
      · have hy2 : ¬ nI y ≤ -2 := by
          have : y = 0 ∨ y = 1 ∨ y = 2 ∨ y = 3 ∨ y = 4 ∨ y = 5 := by omega
          rcases this with h | h | h | h | h | h <;> rw [h] <;> decide
        rw [q1, Option.bind_some, if_neg hA, if_neg hy2, p_takes hT hm (i := i1 + 1 + 1) (c := 119) (ch := 119) q0 rfl (by decide), Option.bind_some]
        have j2 := (r5.trans j1).trans q2
        by_cases hw : i1 + 1 + 1 < t ∧ X (i1 + 1 + 1) = 119
        · rw [if_pos hw, if_neg ne01]
          have j3 : aJ X t (i1 + 1 + 1) (3, nI a, nI y, 10) (i1 + 1 + 1 + 1) (4, nI a, nI y, 10) := aJ.step hw.1 (by rw [hw.2]; exact k_w3 _ _ _) (by omega)
          rcases p_words hT hm (i := i1 + 1 + 1 + 1) hw.1 (nI a) (nI y) 10 with ⟨w1, w2⟩ | ⟨i', w, pl, w1, w2, w3, w4, w5, w6, w7, w8, w9⟩
          · rw [w1, Option.bind_some, if_neg hA, if_neg hy2, if_pos h20]
            exact Or.inl ⟨_, rfl, aBad.of (j2.trans j3) w2⟩
          · rw [w1, Option.bind_some, if_neg hA, if_neg hy2, if_neg (nI_nle (by omega) (by omega)), if_pos z0, if_pos z1, if_pos z2, c0, c1, c2, nI_1]
            exact Or.inr ⟨i', pl, nI a, nI y, nI w, rfl, by omega, w5, (j2.trans j3).trans w6, w7, w8, w9, Or.inr ⟨y, hy, rfl⟩⟩
        · rw [if_neg hw, if_pos rfl, if_neg hA, if_neg hy2, if_pos z0, if_pos z1, if_pos z2, c0, c1, c2, nI_1]
          exact Or.inr ⟨i1 + 1 + 1, 3, nI a, nI y, 10, rfl, by omega, q0, j2, rfl, k_e3 _ _ _, fun h3 h4 => k_3 _ _ _ (hT.2 _ h3).1 (fun g => hw ⟨h3, g⟩) h4, Or.inr ⟨y, hy, rfl⟩⟩
    · rw [if_neg hbang, if_pos rfl, if_neg hA, p_takes hT hm (c := 119) (ch := 119) r3 rfl (by decide), Option.bind_some]
      by_cases hw : i1 < t ∧ X i1 = 119
      · rw [if_pos hw, if_neg ne01]
        have j3 : aJ X t i1 (1, nI a, -1, 10) (i1 + 1) (4, nI a, -1, 10) := aJ.step hw.1 (by rw [hw.2]; exact k_w1 _ _ hG) (by omega)
        rcases p_words hT hm (i := i1 + 1) hw.1 (nI a) (-1) 10 with ⟨w1, w2⟩ | ⟨i', w, pl, w1, w2, w3, w4, w5, w6, w7, w8, w9⟩
        · rw [w1, Option.bind_some, if_neg hA, if_pos h20]
          exact Or.inl ⟨_, rfl, aBad.of (r5.trans j3) w2⟩
        · rw [w1, Option.bind_some, if_neg hA, if_neg (nI_nle (by omega) (by omega)), if_pos z0, if_pos z1, if_pos z2, c0, c1, c2, nI_1]
          exact Or.inr ⟨i', pl, nI a, -1, nI w, rfl, by omega, w5, (r5.trans j3).trans w6, w7, w8, w9, Or.inl rfl⟩
      · rw [if_neg hw, if_pos rfl, if_neg hA, if_pos z0, if_pos z1, if_pos z2, c0, c1, c2, nI_1]
        exact Or.inr ⟨i1, 1, nI a, -1, 10, rfl, hi1, r3, r5, rfl, k_e1 _ _ hG, fun h3 h4 => k_1 _ _ hG (hT.2 _ h3).1 (fun g => r6 ⟨h3, g.1, g.2⟩) (fun g => hbang ⟨h3, g⟩) (fun g => hw ⟨h3, g⟩) h4, Or.inl rfl⟩
end PZ
