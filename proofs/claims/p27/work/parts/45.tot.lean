/-! PURE: that the functions answer -/
def Tt {α : Type} (x : Option α) : Prop := ∃ v, x = some v
theorem Tt.s {α : Type} (v : α) : Tt (some v) := ⟨v, rfl⟩
theorem Tt.b {α β : Type} {x : Option α} {f : α → Option β} (h : Tt x) (g : ∀ v, x = some v → Tt (f v)) : Tt (x.bind f) := by
  obtain ⟨v, rfl⟩ := h
  exact g v rfl
theorem Tt.c {α : Type} {c : Prop} [Decidable c] {a b : Option α} (h : c → Tt a) (g : ¬ c → Tt b) : Tt (if c then a else b) := by
  by_cases hc : c
  · rw [if_pos hc]
    exact h hc
  · rw [if_neg hc]
    exact g hc
theorem Tt.i {α : Type} {i : Int32} {n : Nat} {a : Option α} (h : zin i n = true) (g : Tt a) : Tt (if zin i n = true then a else none) := by
  rw [if_pos h]
  exact g
theorem zin_nI {a n : Nat} (h : a < n) (hn : n < 2 ^ 31) : zin (nI a) n = true := decide_eq_true (nI_in h hn)
theorem nI_dn (p : Nat) : nI p + (-1) = nI p - 1 := (Int32.sub_eq_add_neg _ _).symm
theorem nI_m0 : nI 0 - 1 < 0 := by decide
theorem t_isIn01 (a b : Int32) : ∃ q, (q = 0 ∨ q = 1) ∧ fX6_isIn a b = some q := by
  unfold fX6_isIn
  by_cases h : (a >>> (b &&& 31)) &&& 1 = 1
  · rw [if_pos h]
    exact ⟨1, Or.inr rfl, rfl⟩
  · rw [if_neg h]
    exact ⟨0, Or.inl rfl, rfl⟩
theorem t_isIn (a b : Int32) : Tt (fX6_isIn a b) := by
  obtain ⟨q, -, h⟩ := t_isIn01 a b
  exact ⟨q, h⟩
theorem t_bit (x : Int32) : Tt (fJ6_bitCount_0f7a4 x) := ⟨_, p_bitCount x⟩
theorem t_mix (a b : Int64) : Tt (fX6_mix a b) := ⟨_, rfl⟩
theorem t_hasRead (rea : Nat → Int32) {r : Nat} (hr : r < 6) (p : Int32) : Tt (fX0_hasRead rea (nI r) p) := by
  unfold fX0_hasRead
  refine Tt.i (zin_nI hr (by decide)) ?_
  obtain ⟨q, hq, h⟩ := t_isIn01 (rea (nI r).toNatClampNeg) p
  rw [h, Option.bind_some, if_pos hq]
  exact Tt.s _
theorem tq_known (told rea : Nat → Int32) {r : Nat} (hr : r < 6) : Tt (fX0_known told rea (nI r)) := Tt.i (zin_nI hr (by decide)) (Tt.i (zin_nI hr (by decide)) (Tt.s _))
theorem t_knowledge (told rea : Nat → Int32) {r : Nat} (hr : r < 6) (p : Int32) : Tt (fX0_knowledge told rea (nI r) p) := Tt.b (t_hasRead rea hr p) (fun _ _ => Tt.c (fun _ => Tt.i (zin_nI hr (by decide)) (Tt.b (t_isIn _ _) (fun _ _ => Tt.c (fun _ => Tt.s _) (fun _ => Tt.s _)))) (fun _ => Tt.s _))
theorem t_every (s : Int32) : Tt (fX4_everyPart s) := ⟨_, rfl⟩
theorem t_whoRead_4 (rea : Nat → Int32) (v1 : Int32) : ∀ (d j k : Nat) (v2 : Int32), j + d = 6 → d < k → Tt (fX0_whoRead_4 k rea v1 v2 (nI j))
  | 0, j, k + 1, v2, hj, _ => by
    have e : (6 : Int32) ≤ nI j := nI_le (a := 6) (by omega) (by omega)
    rw [fX0_whoRead_4.eq_2, if_pos e]
    exact Tt.s _
  | d + 1, j, k + 1, v2, hj, hk => by
    have e : ¬ (6 : Int32) ≤ nI j := nI_ge (b := 6) (by omega) (by omega)
    rw [fX0_whoRead_4.eq_2, if_neg e, nI_1]
    exact Tt.b (t_hasRead rea (by omega) v1) (fun _ _ => Tt.c (fun _ => t_whoRead_4 rea v1 d (j + 1) k _ (by omega) (by omega)) (fun _ => t_whoRead_4 rea v1 d (j + 1) k _ (by omega) (by omega)))
theorem t_whoRead (rea : Nat → Int32) (v1 : Int32) : Tt (fX0_whoRead rea v1) := t_whoRead_4 rea v1 6 0 zfuel 0 rfl (by decide)
theorem t_knowAll_4 (told rea : Nat → Int32) (v1 : Int32) : ∀ (d j k : Nat) (v2 : Int32), j + d = 6 → d < k → Tt (fX0_howManyKnowAll_4 k told rea v1 v2 (nI j))
  | 0, j, k + 1, v2, hj, _ => by
    have e : (6 : Int32) ≤ nI j := nI_le (a := 6) (by omega) (by omega)
    rw [fX0_howManyKnowAll_4.eq_2, if_pos e]
    exact Tt.s _
  | d + 1, j, k + 1, v2, hj, hk => by
    have e : ¬ (6 : Int32) ≤ nI j := nI_ge (b := 6) (by omega) (by omega)
    rw [fX0_howManyKnowAll_4.eq_2, if_neg e, nI_1]
    exact Tt.b (tq_known told rea (by omega)) (fun _ _ => Tt.c (fun _ => t_knowAll_4 told rea v1 d (j + 1) k _ (by omega) (by omega)) (fun _ => t_knowAll_4 told rea v1 d (j + 1) k _ (by omega) (by omega)))
theorem t_knowAll (told rea : Nat → Int32) (v1 : Int32) : Tt (fX0_howManyKnowAll told rea v1) := t_knowAll_4 told rea v1 6 0 zfuel 0 rfl (by decide)
theorem t_wordsRead_4 (wread : Nat → Int32) : ∀ (d j k : Nat) (v1 : Int32), j + d = 6 → d < k → Tt (fX0_sumOfWordsRead_4 k wread v1 (nI j))
  | 0, j, k + 1, v1, hj, _ => by
    have e : (6 : Int32) ≤ nI j := nI_le (a := 6) (by omega) (by omega)
    rw [fX0_sumOfWordsRead_4.eq_2, if_pos e]
    exact Tt.s _
  | d + 1, j, k + 1, v1, hj, hk => by
    have e : ¬ (6 : Int32) ≤ nI j := nI_ge (b := 6) (by omega) (by omega)
    rw [fX0_sumOfWordsRead_4.eq_2, if_neg e, nI_1]
    exact Tt.i (zin_nI (by omega) (by decide)) (t_wordsRead_4 wread d (j + 1) k _ (by omega) (by omega))
theorem t_wordsRead (wread : Nat → Int32) : Tt (fX0_sumOfWordsRead wread) := t_wordsRead_4 wread 6 0 zfuel 0 rfl (by decide)
theorem t_allNeeds_14 (needs : Nat → Int32) (v2 : Int32) : ∀ (p k : Nat) (v3 : Int32), p < k → p ≤ 20 → Tt (fX4_allNeeds_14 k needs v2 v3 (nI p - 1))
  | 0, k + 1, v3, _, _ => by
    rw [fX4_allNeeds_14.eq_2, if_pos nI_m0]
    exact Tt.s _
  | p + 1, k + 1, v3, hk, hp => by
    rw [fX4_allNeeds_14.eq_2, nI_pred, if_neg (nI_pos (by omega)), nI_dn]
    exact Tt.b (t_isIn _ _) (fun _ _ => Tt.c (fun _ => t_allNeeds_14 needs v2 p k _ (by omega) (by omega)) (fun _ => Tt.i (zin_nI (by omega) (by decide)) (t_allNeeds_14 needs v2 p k _ (by omega) (by omega))))
theorem t_allNeeds (needs : Nat → Int32) {p : Nat} (hp : p < 20) (x2 : Int32) : Tt (fX4_allNeeds needs (nI p) x2) := Tt.i (zin_nI hp (by decide)) (t_allNeeds_14 needs x2 p zfuel _ (Nat.lt_of_lt_of_le hp (by decide)) (by omega))
theorem t_missed (needs told rea : Nat → Int32) {r p : Nat} (hr : r < 6) (hp : p < 20) : Tt (fX3_missedParts needs told rea (nI r) (nI p)) := Tt.b (tq_known told rea hr) (fun _ _ => Tt.b (t_allNeeds needs hp _) (fun _ _ => Tt.s _))
theorem t_told_17 (sets : Nat → Int32) (over : Int32) : ∀ (d i k : Nat) (v2 : Int32), over ≤ nI (i + d) → d < k → Tt (fX3_toldParts_17 k sets v2 over (nI i))
  | 0, i, k + 1, v2, h, _ => by
    rw [fX3_toldParts_17.eq_2, if_pos (show over ≤ nI i from h)]
    exact Tt.s _
  | d + 1, i, k + 1, v2, h, hk => by
    rw [fX3_toldParts_17.eq_2, nI_1]
    exact Tt.c (fun _ => Tt.s _) (fun _ => t_told_17 sets over d (i + 1) k _ (by rw [show i + 1 + d = i + (d + 1) by omega]; exact h) (by omega))
theorem t_over : ∀ b, b < 33 → ∀ m, m < 20 → nI b - nI m ≤ nI (0 + 32) := by decide +kernel
/-- what the settings may be -/
def tSets (sets : Nat → Int32) : Prop := ∃ m, m < 20 ∧ sets 0 = nI m
theorem t_told {sets : Nat → Int32} (hs : tSets sets) (x1 : Int32) : Tt (fX3_toldParts sets x1) := by
  obtain ⟨m, hm, e⟩ := hs
  have e : sets (0 : Int32).toNatClampNeg = nI m := e
  unfold fX3_toldParts
  rw [p_bitCount, Option.bind_some, e]
  exact t_told_17 sets _ 32 0 zfuel _ (t_over _ (Nat.lt_succ_of_le (zpop_le x1)) m hm) (by decide)
theorem t_shortened (sets : Nat → Int32) (x : Int32) : Tt (fX3_shortened sets x) := by
  unfold fX3_shortened
  refine Tt.c (fun h => ?_) (fun _ => Tt.s _)
  rw [if_neg (fun g => by rw [g] at h; exact absurd h (by decide))]
  exact Tt.s _
theorem t_lineWords_4 {n : Nat} (hn : n ≤ 20) (words sets : Nat → Int32) (v1 : Int32) : ∀ (d j k : Nat) (v2 : Int32), j + d = n → d < k → Tt (fX3_lineWords_4 k (nI n) words sets v1 v2 (nI j))
  | 0, j, k + 1, v2, hj, _ => by
    have e : nI n ≤ nI j := nI_le (by omega) (by omega)
    rw [fX3_lineWords_4.eq_2, if_pos e]
    exact Tt.s _
  | d + 1, j, k + 1, v2, hj, hk => by
    have e : ¬ nI n ≤ nI j := nI_ge (by omega) (by omega)
    rw [fX3_lineWords_4.eq_2, if_neg e, nI_1]
    exact Tt.b (t_isIn _ _) (fun _ _ => Tt.c (fun _ => t_lineWords_4 hn words sets v1 d (j + 1) k _ (by omega) (by omega)) (fun _ => Tt.i (zin_nI (by omega) (by decide)) (Tt.b (t_shortened _ _) (fun _ _ => t_lineWords_4 hn words sets v1 d (j + 1) k _ (by omega) (by omega)))))
theorem t_zf {n : Nat} (hn : n ≤ 20) : n < zfuel := Nat.lt_of_le_of_lt hn (by decide)
theorem t_lineWords {n : Nat} (hn : n ≤ 20) (words sets : Nat → Int32) (v1 : Int32) : Tt (fX3_lineWords (nI n) words sets v1) := t_lineWords_4 hn words sets v1 n 0 zfuel 0 (by omega) (t_zf hn)
theorem t_recap {n : Nat} (hn : n ≤ 20) (words needs told rea : Nat → Int32) {sets : Nat → Int32} (hs : tSets sets) {r p : Nat} (hr : r < 6) (hp : p < 20) (x3 : Int32) : Tt (fX3_ofRecap (nI n) words needs told rea sets (nI r) (nI p) x3) := by
  unfold fX3_ofRecap
  refine Tt.b (t_missed needs told rea hr hp) (fun q1 _ => Tt.b (t_told hs q1) (fun q2 _ => ?_))
  exact Tt.c (fun _ => Tt.b (t_bit _) (fun _ _ => Tt.s _)) (fun _ => Tt.c (fun _ => Tt.b (t_lineWords hn _ _ _) (fun _ _ => Tt.s _)) (fun _ => Tt.c (fun _ => Tt.s _) (fun _ => Tt.c (fun _ => Tt.b (t_bit _) (fun _ _ => Tt.b (t_bit _) (fun _ _ => Tt.s _))) (fun _ => Tt.i (zin_nI hp (by decide)) (Tt.b (t_lineWords hn _ _ _) (fun _ _ => Tt.s _))))))
theorem t_manyNeed_6 {n : Nat} (hn : n ≤ 20) (needs : Nat → Int32) (v1 : Int32) : ∀ (d j k : Nat) (v2 : Int32), j + d = n → d < k → Tt (fX4_howManyNeed_6 k (nI n) needs v1 v2 (nI j))
  | 0, j, k + 1, v2, hj, _ => by
    have e : nI n ≤ nI j := nI_le (by omega) (by omega)
    rw [fX4_howManyNeed_6.eq_2, if_pos e]
    exact Tt.s _
  | d + 1, j, k + 1, v2, hj, hk => by
    have e : ¬ nI n ≤ nI j := nI_ge (by omega) (by omega)
    rw [fX4_howManyNeed_6.eq_2, if_neg e, nI_1]
    exact Tt.i (zin_nI (by omega) (by decide)) (t_manyNeed_6 hn needs v1 d (j + 1) k _ (by omega) (by omega))
theorem t_part {n : Nat} (hn : n ≤ 20) (plots cliffs words needs rea : Nat → Int32) {p : Nat} (hp : p < n) (x2 : Int32) : Tt (fX3_ofPart (nI n) plots cliffs words needs rea (nI p) x2) := by
  have h20 : zin (nI p) 20 = true := zin_nI (by omega) (by decide)
  have hz := t_zf hn
  unfold fX3_ofPart
  refine Tt.c (fun _ => Tt.i h20 (Tt.s _)) (fun _ => Tt.c (fun _ => Tt.i h20 (Tt.s _)) (fun _ => Tt.c (fun _ => Tt.i h20 (Tt.s _)) (fun _ => Tt.c (fun _ => Tt.i h20 (Tt.s _)) (fun _ => Tt.c (fun _ => Tt.b ?_ (fun _ _ => Tt.s _)) (fun _ => Tt.c (fun _ => Tt.b (t_whoRead _ _) (fun _ _ => Tt.s _)) (fun _ => Tt.b (t_every _) (fun _ _ => Tt.b (t_allNeeds needs (by omega) _) (fun _ _ => Tt.b (t_bit _) (fun _ _ => Tt.s _)))))))))
  unfold fX4_howManyNeed
  rw [nI_1]
  exact t_manyNeed_6 hn needs _ (n - (p + 1)) (p + 1) zfuel 0 (by omega) (by omega)
theorem t_open_12 {size : Int32} (plots cliffs : Nat → Int32) (v1 : Int32) : ∀ (p k : Nat) (v2 : Int32) (v3 : Int32), p < k → p ≤ 20 → Tt (fX4_openCliffs_12 k size plots cliffs v1 v2 v3 (nI p - 1))
  | 0, k + 1, v2, v3, _, _ => by
    rw [fX4_openCliffs_12.eq_2, if_pos nI_m0]
    exact Tt.s _
  | p + 1, k + 1, v2, v3, hk, hp => by
    rw [fX4_openCliffs_12.eq_2, nI_pred, if_neg (nI_pos (by omega)), nI_dn]
    exact Tt.b (t_isIn _ _) (fun _ _ => Tt.c (fun _ => t_open_12 plots cliffs v1 p k _ _ (by omega) (by omega)) (fun _ => Tt.i (zin_nI (by omega) (by decide)) (Tt.c (fun _ => Tt.i (zin_nI (by omega) (by decide)) (t_open_12 plots cliffs v1 p k _ _ (by omega) (by omega))) (fun _ => Tt.i (zin_nI (by omega) (by decide)) (Tt.b (t_isIn _ _) (fun _ _ => Tt.c (fun _ => Tt.i (zin_nI (by omega) (by decide)) (Tt.i (zin_nI (by omega) (by decide)) (t_open_12 plots cliffs v1 p k _ _ (by omega) (by omega)))) (fun _ => Tt.i (zin_nI (by omega) (by decide)) (t_open_12 plots cliffs v1 p k _ _ (by omega) (by omega)))))))))
theorem t_open {n : Nat} (hn : n ≤ 20) (plots cliffs : Nat → Int32) (x1 : Int32) : Tt (fX4_openCliffs (nI n) plots cliffs x1) := t_open_12 plots cliffs x1 n zfuel _ _ (t_zf hn) hn
theorem t_reader {n : Nat} (hn : n ≤ 20) (plots cliffs told rea wread ltold lout : Nat → Int32) {r : Nat} (hr : r < 6) (x2 : Int32) : Tt (fX3_ofReader (nI n) plots cliffs told rea wread ltold lout (nI r) x2) := by
  have h6 : zin (nI r) 6 = true := zin_nI hr (by decide)
  unfold fX3_ofReader
  exact Tt.c (fun _ => Tt.i h6 (Tt.b (t_bit _) (fun _ _ => Tt.s _))) (fun _ => Tt.c (fun _ => Tt.i h6 (Tt.b (t_bit _) (fun _ _ => Tt.s _))) (fun _ => Tt.c (fun _ => Tt.b (tq_known _ _ hr) (fun _ _ => Tt.b (t_bit _) (fun _ _ => Tt.s _))) (fun _ => Tt.c (fun _ => Tt.b (tq_known _ _ hr) (fun _ _ => Tt.b (t_open hn _ _ _) (fun _ _ => Tt.s _))) (fun _ => Tt.c (fun _ => Tt.i h6 (Tt.s _)) (fun _ => Tt.c (fun _ => Tt.i h6 (Tt.s _)) (fun _ => Tt.i h6 (Tt.s _)))))))
theorem t_goOn_4 {n : Nat} (hn : n ≤ 20) (plots : Nat → Int32) (v1 : Int32) : ∀ (d j k : Nat) (v2 : Int32), j + d = n → d < k → Tt (fX4_howManyGoOnWith_4 k (nI n) plots v1 v2 (nI j))
  | 0, j, k + 1, v2, hj, _ => by
    have e : nI n ≤ nI j := nI_le (by omega) (by omega)
    rw [fX4_howManyGoOnWith_4.eq_2, if_pos e]
    exact Tt.s _
  | d + 1, j, k + 1, v2, hj, hk => by
    have e : ¬ nI n ≤ nI j := nI_ge (by omega) (by omega)
    rw [fX4_howManyGoOnWith_4.eq_2, if_neg e, nI_1]
    exact Tt.i (zin_nI (by omega) (by decide)) (t_goOn_4 hn plots v1 d (j + 1) k _ (by omega) (by omega))
theorem t_latest_7 {size : Int32} (plots : Nat → Int32) (v1 : Int32) : ∀ (p k : Nat) , p < k → p ≤ 20 → Tt (fX4_latestWith_7 k size plots v1 (nI p - 1))
  | 0, k + 1, _, _ => by
    rw [fX4_latestWith_7.eq_2, if_pos nI_m0]
    exact Tt.s _
  | p + 1, k + 1, hk, hp => by
    rw [fX4_latestWith_7.eq_2, nI_pred, if_neg (nI_pos (by omega)), nI_dn]
    exact Tt.i (zin_nI (by omega) (by decide)) (Tt.b (t_isIn _ _) (fun _ _ => Tt.c (fun _ => t_latest_7 plots v1 p k (by omega) (by omega)) (fun _ => Tt.s _)))
theorem t_cliffs_4 {n : Nat} (hn : n ≤ 20) (cliffs : Nat → Int32) (v1 : Int32) : ∀ (d j k : Nat) (v2 : Int32), j + d = n → d < k → Tt (fX4_howManyCliffs_4 k (nI n) cliffs v1 v2 (nI j))
  | 0, j, k + 1, v2, hj, _ => by
    have e : nI n ≤ nI j := nI_le (by omega) (by omega)
    rw [fX4_howManyCliffs_4.eq_2, if_pos e]
    exact Tt.s _
  | d + 1, j, k + 1, v2, hj, hk => by
    have e : ¬ nI n ≤ nI j := nI_ge (by omega) (by omega)
    rw [fX4_howManyCliffs_4.eq_2, if_neg e, nI_1]
    exact Tt.i (zin_nI (by omega) (by decide)) (Tt.c (fun _ => t_cliffs_4 hn cliffs v1 d (j + 1) k _ (by omega) (by omega)) (fun _ => t_cliffs_4 hn cliffs v1 d (j + 1) k _ (by omega) (by omega)))
theorem t_hang_4 {n : Nat} (hn : n ≤ 20) (plots cliffs told rea : Nat → Int32) (v1 : Int32) : ∀ (d j k : Nat) (v2 : Int32), j + d = 6 → d < k → Tt (fX3_howManyHang_4 k (nI n) plots cliffs told rea v1 v2 (nI j))
  | 0, j, k + 1, v2, hj, _ => by
    have e : (6 : Int32) ≤ nI j := nI_le (a := 6) (by omega) (by omega)
    rw [fX3_howManyHang_4.eq_2, if_pos e]
    exact Tt.s _
  | d + 1, j, k + 1, v2, hj, hk => by
    have e : ¬ (6 : Int32) ≤ nI j := nI_ge (b := 6) (by omega) (by omega)
    rw [fX3_howManyHang_4.eq_2, if_neg e, nI_1]
    exact Tt.b (tq_known _ _ (by omega)) (fun _ _ => Tt.b (t_open hn _ _ _) (fun _ _ => t_hang_4 hn plots cliffs told rea v1 d (j + 1) k _ (by omega) (by omega)))
theorem t_plot {n : Nat} (hn : n ≤ 20) (plots cliffs told rea : Nat → Int32) (x1 x2 : Int32) : Tt (fX3_ofPlot (nI n) plots cliffs told rea x1 x2) := by
  unfold fX3_ofPlot
  exact Tt.c (fun _ => Tt.b (t_goOn_4 hn plots x1 n 0 zfuel 0 (by omega) (t_zf hn)) (fun _ _ => Tt.s _)) (fun _ => Tt.c (fun _ => Tt.b (t_latest_7 plots x1 n zfuel (t_zf hn) hn) (fun _ _ => Tt.s _)) (fun _ => Tt.c (fun _ => Tt.b (t_cliffs_4 hn cliffs x1 n 0 zfuel 0 (by omega) (t_zf hn)) (fun _ _ => Tt.s _)) (fun _ => Tt.b (t_hang_4 hn plots cliffs told rea x1 6 0 zfuel 0 rfl (by decide)) (fun _ _ => Tt.s _))))
theorem t_words_4 {n : Nat} (hn : n ≤ 20) (words : Nat → Int32) : ∀ (d j k : Nat) (v1 : Int32), j + d = n → d < k → Tt (fX4_sumOfWords_4 k (nI n) words v1 (nI j))
  | 0, j, k + 1, v1, hj, _ => by
    have e : nI n ≤ nI j := nI_le (by omega) (by omega)
    rw [fX4_sumOfWords_4.eq_2, if_pos e]
    exact Tt.s _
  | d + 1, j, k + 1, v1, hj, hk => by
    have e : ¬ nI n ≤ nI j := nI_ge (by omega) (by omega)
    rw [fX4_sumOfWords_4.eq_2, if_neg e, nI_1]
    exact Tt.i (zin_nI (by omega) (by decide)) (t_words_4 hn words d (j + 1) k _ (by omega) (by omega))
theorem t_all {n : Nat} (hn : n ≤ 20) (reached lost : Int32) (words told rea wread : Nat → Int32) (x1 : Int32) : Tt (fX3_ofAll reached lost (nI n) words told rea wread x1) := by
  unfold fX3_ofAll
  exact Tt.c (fun _ => Tt.s _) (fun _ => Tt.c (fun _ => Tt.b (t_words_4 hn words n 0 zfuel 0 (by omega) (t_zf hn)) (fun _ _ => Tt.s _)) (fun _ => Tt.c (fun _ => Tt.s _) (fun _ => Tt.c (fun _ => Tt.s _) (fun _ => Tt.c (fun _ => Tt.b (t_wordsRead _) (fun _ _ => Tt.s _)) (fun _ => Tt.b (t_every _) (fun _ _ => Tt.b (t_knowAll _ _ _) (fun _ _ => Tt.s _)))))))
theorem t_total {n : Nat} (hn : n ≤ 20) (reached lost : Int32) (words told rea wread : Nat → Int32) (kept x1 : Int32) : Tt (fX6_total reached lost (nI n) words told rea wread kept x1) := Tt.c (fun _ => Tt.s _) (fun _ => Tt.b (t_all hn _ _ _ _ _ _ _) (fun _ _ => Tt.s _))
theorem t_best_10 {n : Nat} (hn : n ≤ 20) (words needs told rea : Nat → Int32) {sets : Nat → Int32} (hs : tSets sets) {r : Nat} (hr : r < 6) : ∀ (d j k : Nat) (v2 : Int32) (v3 : Int32) (v4 : Int32), j + d = n → d < k → Tt (fX3_bestPart_10 k (nI n) words needs told rea sets (nI r) v2 v3 v4 (nI j))
  | 0, j, k + 1, v2, v3, v4, hj, _ => by
    have e : nI n ≤ nI j := nI_le (by omega) (by omega)
    rw [fX3_bestPart_10.eq_2, if_pos e]
    exact Tt.s _
  | d + 1, j, k + 1, v2, v3, v4, hj, hk => by
    have e : ¬ nI n ≤ nI j := nI_ge (by omega) (by omega)
    rw [fX3_bestPart_10.eq_2, if_neg e, nI_1]
    refine Tt.b (t_hasRead _ hr _) (fun _ _ => Tt.c (fun _ => ?_) (fun _ => t_best_10 hn words needs told rea hs hr d (j + 1) k _ _ _ (by omega) (by omega)))
    refine Tt.b (t_recap hn words needs told rea hs hr (by omega) 3) (fun _ _ => Tt.b (t_recap hn words needs told rea hs hr (by omega) 4) (fun _ _ => ?_))
    repeat' (first | exact t_best_10 hn words needs told rea hs hr d (j + 1) k _ _ _ (by omega) (by omega) | refine Tt.c (fun _ => ?_) (fun _ => ?_))
theorem t_best {n : Nat} (hn : n ≤ 20) (words needs told rea : Nat → Int32) {sets : Nat → Int32} (hs : tSets sets) {r : Nat} (hr : r < 6) : Tt (fX3_bestPart (nI n) words needs told rea sets (nI r)) := t_best_10 hn words needs told rea hs hr n 0 zfuel _ _ _ (by omega) (t_zf hn)
theorem t_lines_4 {n : Nat} (hn : n ≤ 20) (needs told rea : Nat → Int32) {r : Nat} (hr : r < 6) : ∀ (d j k : Nat) (v2 : Int32), j + d = n → d < k → Tt (fX3_linesForAll_4 k (nI n) needs told rea (nI r) v2 (nI j))
  | 0, j, k + 1, v2, hj, _ => by
    have e : nI n ≤ nI j := nI_le (by omega) (by omega)
    rw [fX3_linesForAll_4.eq_2, if_pos e]
    exact Tt.s _
  | d + 1, j, k + 1, v2, hj, hk => by
    have e : ¬ nI n ≤ nI j := nI_ge (by omega) (by omega)
    rw [fX3_linesForAll_4.eq_2, if_neg e, nI_1]
    exact Tt.b (t_hasRead _ hr _) (fun _ _ => Tt.c (fun _ => Tt.b (t_missed needs told rea hr (by omega)) (fun _ _ => Tt.b (t_bit _) (fun _ _ => t_lines_4 hn needs told rea hr d (j + 1) k _ (by omega) (by omega)))) (fun _ => t_lines_4 hn needs told rea hr d (j + 1) k _ (by omega) (by omega)))
theorem t_lines {n : Nat} (hn : n ≤ 20) (needs told rea : Nat → Int32) {r : Nat} (hr : r < 6) : Tt (fX3_linesForAll (nI n) needs told rea (nI r)) := t_lines_4 hn needs told rea hr n 0 zfuel _ (by omega) (t_zf hn)
theorem t_sumRead_4 (rea : Nat → Int32) : ∀ (d j k a : Nat), j + d = 6 → d < k → ∃ t, t ≤ a + 32 * d ∧ fX0_sumOfRead_4 k rea (nI a) (nI j) = some (nI t)
  | 0, j, k + 1, a, hj, _ => by
    have e : (6 : Int32) ≤ nI j := nI_le (a := 6) (by omega) (by omega)
    rw [fX0_sumOfRead_4.eq_2, if_pos e]
    exact ⟨a, by omega, rfl⟩
  | d + 1, j, k + 1, a, hj, hk => by
    have e : ¬ (6 : Int32) ≤ nI j := nI_ge (b := 6) (by omega) (by omega)
    rw [fX0_sumOfRead_4.eq_2, if_neg e, nI_1, if_pos (zin_nI (by omega) (by decide)), p_bitCount, Option.bind_some, nI_add]
    obtain ⟨t, h1, h2⟩ := t_sumRead_4 rea d (j + 1) k (a + zpop (rea (nI j).toNatClampNeg)) (by omega) (by omega)
    have h3 := zpop_le (rea (nI j).toNatClampNeg)
    exact ⟨t, by omega, h2⟩
theorem t_share {n : Nat} (hn : n ≤ 20) (rea : Nat → Int32) : ∃ x, fX3_shareRead (nI n) rea = some x ∧ Tt (fX6_bitsOfShare x) := by
  unfold fX3_shareRead
  by_cases h0 : n = 0
  · subst h0
    rw [if_neg (by decide)]
    refine ⟨_, rfl, ?_⟩
    have h1 : (fX6_bitsOfShare FP.dconst1).isSome = true := by decide +kernel
    exact Option.isSome_iff_exists.mp h1
  · have h1 : (1 : Int32) ≤ nI n := nI_le (a := 1) (by omega) (by omega)
    obtain ⟨N, rfl⟩ : ∃ N, n = N + 1 := ⟨n - 1, by omega⟩
    obtain ⟨t, h2, h3⟩ := t_sumRead_4 rea 6 0 zfuel 0 rfl (by decide)
    have h3 : fX0_sumOfRead rea = some (nI t) := h3
    have hk := shOk_all N (by omega) t (by omega)
    unfold shOk at hk
    rw [Bool.and_eq_true] at hk
    have k1 : zn64 (FP.ddiv (FP.i2d (nI t)) (FP.i2d (6 * nI (N + 1)))) = true := hk.1
    rw [if_pos h1, h3, Option.bind_some, if_pos k1]
    exact ⟨_, rfl, Option.isSome_iff_exists.mp hk.2⟩
theorem t_mp_23 {n : Nat} (hn : n ≤ 20) (plots cliffs words needs rea : Nat → Int32) (kont : Int32 → (Nat → Int32) → (Nat → Int32) → (Nat → Int32) → (Nat → Int32) → (Nat → Int32) → Int64 → Int32 → Option Int64) {p : Nat} (hp : p < n) (hk : ∀ v, Tt (kont (nI n) plots cliffs words needs rea v (nI (p + 1)))) : ∀ (d j k : Nat) (v : Int64), j + d = 7 → d < k → Tt (fX6_mixParts_23 kont k (nI n) plots cliffs words needs rea v (nI p) (nI j))
  | 0, j, k + 1, v, hj, _ => by
    have e : (6 : Int32) < nI j := nI_lt (a := 6) (by omega) (by omega)
    rw [fX6_mixParts_23.eq_2, if_pos e, nI_1]
    exact hk v
  | d + 1, j, k + 1, v, hj, hk9 => by
    have e : ¬ (6 : Int32) < nI j := nI_nlt (a := 6) (by omega) (by omega)
    rw [fX6_mixParts_23.eq_2, if_neg e, nI_1]
    exact Tt.b (t_part hn _ _ _ _ _ hp _) (fun _ _ => Tt.b (t_mix _ _) (fun _ _ => t_mp_23 hn plots cliffs words needs rea kont hp hk d (j + 1) k _ (by omega) (by omega)))
theorem t_mp_5 {n : Nat} (hn : n ≤ 20) (plots cliffs words needs rea : Nat → Int32) : ∀ (d j k : Nat) (v : Int64), j + d = n → d < k → Tt (fX6_mixParts_5 k (nI n) plots cliffs words needs rea v (nI j))
  | 0, j, k + 1, v, hj, _ => by
    have e : nI n ≤ nI j := nI_le (by omega) (by omega)
    rw [fX6_mixParts_5.eq_2, if_pos e]
    exact Tt.s _
  | d + 1, j, k + 1, v, hj, hk => by
    have e : ¬ nI n ≤ nI j := nI_ge (by omega) (by omega)
    rw [fX6_mixParts_5.eq_2, if_neg e]
    exact t_mp_23 hn plots cliffs words needs rea _ (by omega) (fun v => t_mp_5 hn plots cliffs words needs rea d (j + 1) k v (by omega) (by omega)) 7 0 zfuel v rfl (by decide)
theorem t_mr_130 {n : Nat} (hn : n ≤ 20) (h0 : 0 < n) (plots cliffs words needs told rea wread ltold lout : Nat → Int32) {sets : Nat → Int32} (hs : tSets sets) {r : Nat} (hr : r < 6) : ∀ (d j k : Nat) (v : Int64), j + d = 5 → d < k → Tt (fX6_mixReader_130 k (nI n) plots cliffs words needs told rea wread ltold lout sets (nI r) v (nI j))
  | 0, j, k + 1, v, hj, _ => by
    have e : (4 : Int32) < nI j := nI_lt (a := 4) (by omega) (by omega)
    rw [fX6_mixReader_130.eq_2, if_pos e]
    exact Tt.s _
  | d + 1, j, k + 1, v, hj, hk => by
    have e : ¬ (4 : Int32) < nI j := nI_nlt (a := 4) (by omega) (by omega)
    rw [fX6_mixReader_130.eq_2, if_neg e, nI_1]
    have en : nI n - 1 = nI (n - 1) := by
      obtain ⟨N, rfl⟩ : ∃ N, n = N + 1 := ⟨n - 1, by omega⟩
      exact nI_pred N
    rw [en]
    exact Tt.b (t_recap hn words needs told rea hs hr (by omega) _) (fun _ _ => Tt.b (t_mix _ _) (fun _ _ => t_mr_130 hn h0 plots cliffs words needs told rea wread ltold lout hs hr d (j + 1) k _ (by omega) (by omega)))
theorem t_mr_51 {n : Nat} (hn : n ≤ 20) (plots cliffs words needs told rea wread ltold lout : Nat → Int32) {sets : Nat → Int32} (hs : tSets sets) {r : Nat} (hr : r < 6) : ∀ (d j k : Nat) (v : Int64), j + d = 7 → d < k → Tt (fX6_mixReader_51 k (nI n) plots cliffs words needs told rea wread ltold lout sets (nI r) v (nI j))
  | 0, j, k + 1, v, hj, _ => by
    have e : (6 : Int32) < nI j := nI_lt (a := 6) (by omega) (by omega)
    rw [fX6_mixReader_51.eq_2, if_pos e]
    refine Tt.b (t_best hn words needs told rea hs hr) (fun _ _ => Tt.b (t_mix _ _) (fun _ _ => Tt.b (t_lines hn needs told rea hr) (fun _ _ => Tt.b (t_mix _ _) (fun _ _ => Tt.c (fun _ => Tt.s _) (fun h => ?_)))))
    have h0 : 0 < n := by
      rcases Nat.eq_zero_or_pos n with g | g
      · exact absurd (by rw [g]; decide) h
      · exact g
    exact t_mr_130 hn h0 plots cliffs words needs told rea wread ltold lout hs hr 5 0 zfuel _ rfl (by decide)
  | d + 1, j, k + 1, v, hj, hk => by
    have e : ¬ (6 : Int32) < nI j := nI_nlt (a := 6) (by omega) (by omega)
    rw [fX6_mixReader_51.eq_2, if_neg e, nI_1]
    exact Tt.b (t_reader hn _ _ _ _ _ _ _ hr _) (fun _ _ => Tt.b (t_mix _ _) (fun _ _ => t_mr_51 hn plots cliffs words needs told rea wread ltold lout hs hr d (j + 1) k _ (by omega) (by omega)))
theorem t_mr_6 {n : Nat} (hn : n ≤ 20) (plots cliffs words needs told rea wread ltold lout : Nat → Int32) {sets : Nat → Int32} (hs : tSets sets) {r : Nat} (hr : r < 6) : ∀ (d j k : Nat) (v : Int64), j + d = n → d < k → Tt (fX6_mixReader_6 k (nI n) plots cliffs words needs told rea wread ltold lout sets (nI r) v (nI j))
  | 0, j, k + 1, v, hj, _ => by
    have e : nI n ≤ nI j := nI_le (by omega) (by omega)
    rw [fX6_mixReader_6.eq_2, if_pos e]
    exact t_mr_51 hn plots cliffs words needs told rea wread ltold lout hs hr 7 0 zfuel _ rfl (by decide)
  | d + 1, j, k + 1, v, hj, hk => by
    have e : ¬ nI n ≤ nI j := nI_ge (by omega) (by omega)
    rw [fX6_mixReader_6.eq_2, if_neg e, nI_1]
    exact Tt.b (t_knowledge _ _ hr _) (fun _ _ => Tt.b (t_mix _ _) (fun _ _ => t_mr_6 hn plots cliffs words needs told rea wread ltold lout hs hr d (j + 1) k _ (by omega) (by omega)))
theorem t_mr {n : Nat} (hn : n ≤ 20) (plots cliffs words needs told rea wread ltold lout : Nat → Int32) {sets : Nat → Int32} (hs : tSets sets) {r : Nat} (hr : r < 6) (v : Int64) : Tt (fX6_mixReader (nI n) plots cliffs words needs told rea wread ltold lout sets v (nI r)) := t_mr_6 hn plots cliffs words needs told rea wread ltold lout hs hr n 0 zfuel v (by omega) (t_zf hn)
theorem t_ml_15 {n : Nat} (hn : n ≤ 20) (plots cliffs told rea : Nat → Int32) (kont : Int32 → (Nat → Int32) → (Nat → Int32) → (Nat → Int32) → (Nat → Int32) → Int64 → Int32 → Option Int64) {p : Nat} (hk : ∀ v, Tt (kont (nI n) plots cliffs told rea v (nI (p + 1)))) : ∀ (d j k : Nat) (v : Int64), j + d = 4 → d < k → Tt (fX6_mixPlots_15 kont k (nI n) plots cliffs told rea v (nI p) (nI j))
  | 0, j, k + 1, v, hj, _ => by
    have e : (3 : Int32) < nI j := nI_lt (a := 3) (by omega) (by omega)
    rw [fX6_mixPlots_15.eq_2, if_pos e, nI_1]
    exact hk v
  | d + 1, j, k + 1, v, hj, hk9 => by
    have e : ¬ (3 : Int32) < nI j := nI_nlt (a := 3) (by omega) (by omega)
    rw [fX6_mixPlots_15.eq_2, if_neg e, nI_1]
    exact Tt.b (t_plot hn _ _ _ _ _ _) (fun _ _ => Tt.b (t_mix _ _) (fun _ _ => t_ml_15 hn plots cliffs told rea kont hk d (j + 1) k _ (by omega) (by omega)))
theorem t_ml_5 {n : Nat} (hn : n ≤ 20) (plots cliffs told rea : Nat → Int32) : ∀ (d j k : Nat) (v : Int64), j + d = 6 → d < k → Tt (fX6_mixPlots_5 k (nI n) plots cliffs told rea v (nI j))
  | 0, j, k + 1, v, hj, _ => by
    have e : (6 : Int32) ≤ nI j := nI_le (a := 6) (by omega) (by omega)
    rw [fX6_mixPlots_5.eq_2, if_pos e]
    exact Tt.s _
  | d + 1, j, k + 1, v, hj, hk => by
    have e : ¬ (6 : Int32) ≤ nI j := nI_ge (b := 6) (by omega) (by omega)
    rw [fX6_mixPlots_5.eq_2, if_neg e]
    exact t_ml_15 hn plots cliffs told rea _ (fun v => t_ml_5 hn plots cliffs told rea d (j + 1) k v (by omega) (by omega)) 4 0 zfuel v rfl (by decide)
theorem t_mt_16 {m : Nat} (hm : m ≤ 60) (codes : Nat → Int32) : ∀ (d j k : Nat) (v : Int64), j + d = m → d < k → Tt (fX6_mixText_16 k (nI m) codes v (nI j))
  | 0, j, k + 1, v, hj, _ => by
    have e : nI m ≤ nI j := nI_le (by omega) (by omega)
    rw [fX6_mixText_16.eq_2, if_pos e]
    exact Tt.s _
  | d + 1, j, k + 1, v, hj, hk => by
    have e : ¬ nI m ≤ nI j := nI_ge (by omega) (by omega)
    rw [fX6_mixText_16.eq_2, if_neg e, nI_1]
    exact Tt.i (zin_nI (by omega) (by decide)) (Tt.b (t_mix _ _) (fun _ _ => t_mt_16 hm codes d (j + 1) k _ (by omega) (by omega)))
theorem t_dg_65 {n m : Nat} (hn : n ≤ 20) (hm : m ≤ 60) (reached lost : Int32) (plots cliffs words needs told rea wread ltold lout : Nat → Int32) {sets : Nat → Int32} (hs : tSets sets) (kept : Int32) (codes : Nat → Int32) : ∀ (d j k : Nat) (v : Int64), j + d = 6 → d < k → Tt (fX6_digest_65 k reached lost (nI n) plots cliffs words needs told rea wread ltold lout sets kept (nI m) codes v (nI j))
  | 0, j, k + 1, v, hj, _ => by
    have e : (6 : Int32) ≤ nI j := nI_le (a := 6) (by omega) (by omega)
    rw [fX6_digest_65.eq_2, if_pos e]
    refine Tt.b (t_ml_5 hn plots cliffs told rea 6 0 zfuel _ rfl (by decide)) (fun _ _ => ?_)
    obtain ⟨x, h1, h2⟩ := t_share hn rea
    rw [h1, Option.bind_some]
    refine Tt.b h2 (fun _ _ => Tt.b (t_mix _ _) (fun _ _ => Tt.b (Tt.b (t_mix _ _) (fun _ _ => ?_)) (fun _ _ => Tt.s _)))
    exact t_mt_16 hm codes m 0 zfuel _ (by omega) (Nat.lt_of_le_of_lt hm (by decide))
  | d + 1, j, k + 1, v, hj, hk => by
    have e : ¬ (6 : Int32) ≤ nI j := nI_ge (b := 6) (by omega) (by omega)
    rw [fX6_digest_65.eq_2, if_neg e, nI_1]
    exact Tt.b (t_mr hn _ _ _ _ _ _ _ _ _ hs (by omega) _) (fun _ _ => t_dg_65 hn hm reached lost plots cliffs words needs told rea wread ltold lout hs kept codes d (j + 1) k _ (by omega) (by omega))
theorem t_dg_31 {n m : Nat} (hn : n ≤ 20) (hm : m ≤ 60) (reached lost : Int32) (plots cliffs words needs told rea wread ltold lout : Nat → Int32) {sets : Nat → Int32} (hs : tSets sets) (kept : Int32) (codes : Nat → Int32) : ∀ (d j k : Nat) (v : Int64), j + d = 2 → d < k → Tt (fX6_digest_31 k reached lost (nI n) plots cliffs words needs told rea wread ltold lout sets kept (nI m) codes v (nI j))
  | 0, j, k + 1, v, hj, _ => by
    have e : (2 : Int32) ≤ nI j := nI_le (a := 2) (by omega) (by omega)
    rw [fX6_digest_31.eq_2, if_pos e]
    exact Tt.b (t_mp_5 hn plots cliffs words needs rea n 0 zfuel _ (by omega) (t_zf hn)) (fun _ _ => t_dg_65 hn hm reached lost plots cliffs words needs told rea wread ltold lout hs kept codes 6 0 zfuel _ rfl (by decide))
  | d + 1, j, k + 1, v, hj, hk => by
    have e : ¬ (2 : Int32) ≤ nI j := nI_ge (b := 2) (by omega) (by omega)
    rw [fX6_digest_31.eq_2, if_neg e, nI_1]
    exact Tt.i (zin_nI (by omega) (by decide)) (Tt.b (t_mix _ _) (fun _ _ => t_dg_31 hn hm reached lost plots cliffs words needs told rea wread ltold lout hs kept codes d (j + 1) k _ (by omega) (by omega)))
theorem t_dg_6 {n m : Nat} (hn : n ≤ 20) (hm : m ≤ 60) (reached lost : Int32) (plots cliffs words needs told rea wread ltold lout : Nat → Int32) {sets : Nat → Int32} (hs : tSets sets) (kept : Int32) (codes : Nat → Int32) : ∀ (d j k : Nat) (v : Int64), j + d = 7 → d < k → Tt (fX6_digest_6 k reached lost (nI n) plots cliffs words needs told rea wread ltold lout sets kept (nI m) codes v (nI j))
  | 0, j, k + 1, v, hj, _ => by
    have e : (6 : Int32) < nI j := nI_lt (a := 6) (by omega) (by omega)
    rw [fX6_digest_6.eq_2, if_pos e]
    exact t_dg_31 hn hm reached lost plots cliffs words needs told rea wread ltold lout hs kept codes 2 0 zfuel _ rfl (by decide)
  | d + 1, j, k + 1, v, hj, hk => by
    have e : ¬ (6 : Int32) < nI j := nI_nlt (a := 6) (by omega) (by omega)
    rw [fX6_digest_6.eq_2, if_neg e, nI_1]
    exact Tt.b (t_total hn _ _ _ _ _ _ _ _) (fun _ _ => Tt.b (t_mix _ _) (fun _ _ => t_dg_6 hn hm reached lost plots cliffs words needs told rea wread ltold lout hs kept codes d (j + 1) k _ (by omega) (by omega)))
theorem dg_tot {b : zOb} {n m : Nat} (hn : n ≤ 20) (hs : (tF b.1).2.2.1 = nI n) (hm : m ≤ 60) (hl : b.2.2.1 = nI m) (hq : tSets (tF b.1).2.2.2.2.2.2.2.2.2.2.2.2) : ∃ v, fX6_digest (tF b.1).1 (tF b.1).2.1 (tF b.1).2.2.1 (tF b.1).2.2.2.1 (tF b.1).2.2.2.2.1 (tF b.1).2.2.2.2.2.1 (tF b.1).2.2.2.2.2.2.1 (tF b.1).2.2.2.2.2.2.2.1 (tF b.1).2.2.2.2.2.2.2.2.1 (tF b.1).2.2.2.2.2.2.2.2.2.1 (tF b.1).2.2.2.2.2.2.2.2.2.2.1 (tF b.1).2.2.2.2.2.2.2.2.2.2.2.1 (tF b.1).2.2.2.2.2.2.2.2.2.2.2.2 (nI b.2.1.length) b.2.2.1 (tf b.2.2.2) = some v := by
  rw [hs, hl]
  exact t_dg_6 hn hm _ _ _ _ _ _ _ _ _ _ _ hq _ _ 7 0 zfuel _ rfl (by decide)
