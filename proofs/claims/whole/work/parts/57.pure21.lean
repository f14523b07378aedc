/-! PURE: the checks of arguments -/
def zOut (N : Nat) (x : Int32) : Prop := x < 0 ∨ ∃ j, N ≤ j ∧ j < 2 ^ 31 ∧ x = nI j
theorem z_rng (x : Int32) (N : Nat) : zOut N x ∨ ∃ r, r < N ∧ x = nI r := by
  by_cases h : x < 0
  · exact Or.inl (Or.inl h)
  · obtain ⟨j, hj, rfl⟩ := nI_of h
    by_cases h2 : j < N
    · exact Or.inr ⟨j, h2, rfl⟩
    · exact Or.inl (Or.inr ⟨j, by omega, hj, rfl⟩)
theorem zxb_l {α β : Type} (E : String) (f : α → Option (String ⊕ β)) : zxb (some (.inl E)) f = some (.inl E) := rfl
theorem zxb_r {α β : Type} (a : α) (f : α → Option (String ⊕ β)) : zxb (some (.inr a)) f = f a := rfl
theorem in_out {W : Nat} {x w : Int32} (hw : w = nI W) (hW : W < 1000) (h : zOut (W + 1) x) : fX7_in x 0 w = some 0 := by
  unfold fX7_in
  rcases h with h | ⟨j, h1, h2, rfl⟩
  · rw [if_pos h]
  · rw [if_neg (nI_pos h2), hw, if_pos (nI_lt (by omega) h2)]
theorem in_in {W r : Nat} {w : Int32} (hw : w = nI W) (hW : W < 1000) (h : r < W + 1) : fX7_in (nI r) 0 w = some 1 := by
  unfold fX7_in
  rw [if_neg (nI_pos (by omega)), hw, if_neg (nI_nlt (by omega) (by omega))]
theorem ck_reader_out {x : Int32} (h : zOut 6 x) : fX6_checkReader x = some (.inl "java/lang/IndexOutOfBoundsException") ∧ fX7_isReader x = some 0 := by
  constructor
  · unfold fX6_checkReader
    rcases h with h | ⟨j, h1, h2, rfl⟩
    · rw [if_pos h]
    · rw [if_neg (nI_pos h2), if_neg (show ¬ nI j < (6 : Int32) from nI_nlt (b := 6) h1 h2)]
  · unfold fX7_isReader
    rw [in_out (W := 5) (w := 5) rfl (by decide) h]
    rfl
theorem ck_reader_in {r : Nat} (h : r < 6) : fX6_checkReader (nI r) = some (.inr ()) ∧ fX7_isReader (nI r) = some 1 := by
  constructor
  · unfold fX6_checkReader
    rw [if_neg (nI_pos (by omega)), if_pos (show nI r < (6 : Int32) from nI_lt (b := 6) h (by omega))]
  · unfold fX7_isReader
    rw [in_in (W := 5) (w := 5) rfl (by decide) h]
    rfl
theorem ck_part_out {x size : Int32} {ms : Nat → Int32} {n : Nat} (hs : size = nI n) (hn : ms 0 = nI n) (h20 : n ≤ 20) (h : zOut n x) : fX6_checkPart size x = some (.inl "java/lang/IndexOutOfBoundsException") ∧ fX7_isPart ms x = some 0 := by
  constructor
  · unfold fX6_checkPart
    rcases h with h | ⟨j, h1, h2, rfl⟩
    · rw [if_pos h]
    · rw [if_neg (nI_pos h2), hs, if_neg (nI_nlt h1 h2)]
  · unfold fX7_isPart
    have e : ms (0 : Int32).toNatClampNeg = nI n := hn
    rw [e]
    rcases Nat.eq_zero_or_pos n with h0 | h0
    · subst h0
      have e2 : fX7_in x 0 (nI 0 - 1) = some 0 := by
        unfold fX7_in
        rcases h with h | ⟨j, h1, h2, rfl⟩
        · rw [if_pos h]
        · have h3 : nI 0 - 1 < nI j := Int32.lt_of_lt_of_le nI_neg1' (nI_pos' h2)
          rw [if_neg (nI_pos h2), if_pos h3]
      rw [e2]
      rfl
    · obtain ⟨W, rfl⟩ : ∃ W, n = W + 1 := ⟨n - 1, by omega⟩
      rw [nI_pred, in_out (W := W) rfl (by omega) h]
      rfl
theorem ck_part_in {p : Nat} {size : Int32} {ms : Nat → Int32} {n : Nat} (hs : size = nI n) (hn : ms 0 = nI n) (h20 : n ≤ 20) (h : p < n) : fX6_checkPart size (nI p) = some (.inr ()) ∧ fX7_isPart ms (nI p) = some 1 := by
  constructor
  · unfold fX6_checkPart
    rw [if_neg (nI_pos (by omega)), hs, if_pos (nI_lt h (by omega))]
  · unfold fX7_isPart
    have e : ms (0 : Int32).toNatClampNeg = nI n := hn
    obtain ⟨W, rfl⟩ : ∃ W, n = W + 1 := ⟨n - 1, by omega⟩
    rw [e, nI_pred, in_in (W := W) rfl (by omega) h]
    rfl
theorem ck_what_out {W : Nat} {x w : Int32} (hw : w = nI W) (hW : W < 1000) (h : zOut (W + 1) x) : fX6_checkWhat x w = some (.inl "java/lang/IllegalArgumentException") ∧ fX7_in x 0 w = some 0 := by
  refine ⟨?_, in_out hw hW h⟩
  unfold fX6_checkWhat
  rcases h with h | ⟨j, h1, h2, rfl⟩
  · rw [if_pos h]
  · rw [if_neg (nI_pos h2), hw, if_neg (nI_ge (by omega) h2)]
theorem ck_what_in {W r : Nat} {w : Int32} (hw : w = nI W) (hW : W < 1000) (h : r < W + 1) : fX6_checkWhat (nI r) w = some (.inr ()) ∧ fX7_in (nI r) 0 w = some 1 := by
  refine ⟨?_, in_in hw hW h⟩
  unfold fX6_checkWhat
  rw [if_neg (nI_pos (by omega)), hw, if_pos (nI_le (by omega) (by omega))]
theorem ck_set_out {x : Int32} (h : zOut 2 x) : fX6_checkSetting x = some (.inl "java/lang/IndexOutOfBoundsException") ∧ fX7_in x 0 1 = some 0 := by
  refine ⟨?_, in_out (W := 1) (w := 1) rfl (by decide) h⟩
  unfold fX6_checkSetting
  rcases h with h | ⟨j, h1, h2, rfl⟩
  · rw [if_pos h]
  · rw [if_neg (nI_pos h2), if_neg (show ¬ nI j < (2 : Int32) from nI_nlt (b := 2) h1 h2)]
theorem ck_set_in {r : Nat} (h : r < 2) : fX6_checkSetting (nI r) = some (.inr ()) ∧ fX7_in (nI r) 0 1 = some 1 := by
  refine ⟨?_, in_in (W := 1) (w := 1) rfl (by decide) h⟩
  unfold fX6_checkSetting
  rw [if_neg (nI_pos (by omega)), if_pos (show nI r < (2 : Int32) from nI_lt (b := 2) h (by omega))]
theorem p_ref0 (t : Int32) : fX7_refuses t 0 = some (0, 0) := if_pos (by decide)
theorem p_ref1 (t : Int32) : fX7_refuses t 1 = some (1, 1) := if_neg (by decide)
theorem p_ref2 (t : Int32) : fX7_refuses t 2 = some (1, 2) := if_neg (by decide)
/-- a look: what class and reference answer; first and second exception -/
def zLk (A B : String) (f6 : Option (String ⊕ Int32)) (f7 : Option (Int32 × Int32)) : Prop := (∃ r, f6 = some (.inr r) ∧ f7 = some (r, 0)) ∨ (f6 = some (.inl A) ∧ f7 = some (0, 1)) ∨ (f6 = some (.inl B) ∧ f7 = some (0, 2))
def zLk1 (A : String) (f6 : Option (String ⊕ Int32)) (f7 : Option (Int32 × Int32)) : Prop := (∃ r, f6 = some (.inr r) ∧ f7 = some (r, 0)) ∨ (f6 = some (.inl A) ∧ f7 = some (0, 1))
theorem ne01 : ¬ (1 : Int32) = 0 := by decide
theorem ne20 : ¬ (2 : Int32) = 0 := by decide
/-! PURE: the looks -/
section PQ
variable {n L c : Nat} {reached lost size : Int32} {plots cliffs words needs told rea wread ltold lout sets ms : Nat → Int32}
theorem zV.v_all6 (V : zV n L c reached lost size plots cliffs words needs told rea wread ltold lout sets ms) {p : Nat} (hp : p < n) : sA needs (((1 : Int32) <<< (size &&& 31)) - 1) p = sA (sN (mpl ms)) (-1) p := by
  have hn := V.1.1
  refine sA_congr (fun q hq => ?_)
  rw [V.nd (by omega), V.1.2.1]
  refine zand_low (p := q) (fun i hi h => sN_low (mpl ms) (by omega) hi h) (fun i hi => ?_)
  rw [zb_every n (by omega) i (by omega), decide_eq_true (by omega), zb_m1 i (by omega)]
theorem zV.v_part (V : zV n L c reached lost size plots cliffs words needs told rea wread ltold lout sets ms) {p w : Nat} (hp : p < n) (hw : w < 7) : ∃ v, fX3_ofPart size plots cliffs words needs rea (nI p) (nI w) = some v ∧ fX7_partOf ms (nI p) (nI w) = some v := by
  have hn := V.1.1
  obtain ⟨a1, a2, a3, a4, -⟩ := V.2.2.2.2.1 p hp
  have hz := zin_nI (a := p) (n := 20) (by omega) (by decide)
  have hc : (nI p).toNatClampNeg = p := nI_clamp (by omega)
  have e0 : fX7_of ms (nI p) 0 = some (mpl ms p) := p_of0 ms (by omega)
  have e1 : fX7_of ms (nI p) 1 = some (mcl ms p) := p_of1 ms (by omega)
  have e2 : fX7_of ms (nI p) 2 = some (mwd ms p) := p_of2 ms (by omega)
  unfold fX3_ofPart fX7_partOf
  rw [if_pos hz, if_pos hz, if_pos hz, if_pos hz, hc, a1, a2, a3, a4]
  have hw' : w = 0 ∨ w = 1 ∨ w = 2 ∨ w = 3 ∨ w = 4 ∨ w = 5 ∨ w = 6 := by omega
  rcases hw' with rfl | rfl | rfl | rfl | rfl | rfl | rfl
  · rw [if_pos (by decide), if_neg (by decide), if_neg (by decide), if_neg (by decide), if_neg (by decide), show nI 0 = 0 from rfl, e0]
    exact ⟨_, rfl, rfl⟩
  · rw [if_neg (by decide), if_pos (by decide), if_neg (by decide), if_neg (by decide), if_neg (by decide), if_neg (by decide), show nI 1 = 1 from rfl, e1]
    exact ⟨_, rfl, rfl⟩
  · rw [if_neg (by decide), if_neg (by decide), if_pos (by decide), if_neg (by decide), if_neg (by decide), if_neg (by decide), if_neg (by decide), show nI 2 = 2 from rfl, e2]
    exact ⟨_, rfl, rfl⟩
  · rw [if_neg (by decide), if_neg (by decide), if_neg (by decide), if_pos (by decide), if_pos (by decide), p_needs ms (by omega)]
    exact ⟨_, rfl, rfl⟩
  · obtain ⟨v, h1, h2⟩ := V.v_needing hp
    rw [if_neg (by decide), if_neg (by decide), if_neg (by decide), if_neg (by decide), if_pos (by decide), if_neg (by decide), if_pos (by decide), h1, h2]
    exact ⟨_, rfl, rfl⟩
  · obtain ⟨v, h1, h2⟩ := V.v_readersOf hp
    rw [if_neg (by decide), if_neg (by decide), if_neg (by decide), if_neg (by decide), if_neg (by decide), if_pos (by decide), if_neg (by decide), if_neg (by decide), if_pos (by decide), h1, h2]
    exact ⟨_, rfl, rfl⟩
  · have h1 : fX4_everyPart size = some (((1 : Int32) <<< (size &&& 31)) - 1) := rfl
    rw [if_neg (by decide), if_neg (by decide), if_neg (by decide), if_neg (by decide), if_neg (by decide), if_neg (by decide), if_neg (by decide), if_neg (by decide), if_neg (by decide), if_pos (by decide), h1, Option.bind_some, p_allNeeds needs _ (by omega), p_needsAmong ms _ (by omega), Option.bind_some, Option.bind_some, p_bitCount, V.v_all6 hp, p_ones (sA_20 (mpl ms) _ (by omega))]
    exact ⟨_, rfl, rfl⟩
theorem zV.s_part (V : zV n L c reached lost size plots cliffs words needs told rea wread ltold lout sets ms) (thr x1 x2 : Int32) : zLk "java/lang/IndexOutOfBoundsException" "java/lang/IllegalArgumentException" (fX6_part size plots cliffs words needs rea x1 x2) (fX7_part thr ms x1 x2) := by
  have hn := V.1.1
  unfold fX6_part fX7_part
  rcases z_rng x1 n with h | ⟨p, hp, rfl⟩
  · obtain ⟨h1, h2⟩ := ck_part_out V.1.2.1 V.1.2.2 hn h
    rw [h1, h2, zxb_l, Option.bind_some, if_pos rfl, p_ref1, Option.bind_some, if_neg ne01]
    exact Or.inr (Or.inl ⟨rfl, rfl⟩)
  · obtain ⟨h1, h2⟩ := ck_part_in V.1.2.1 V.1.2.2 hn hp
    rw [h1, h2, zxb_r, Option.bind_some, if_neg ne01]
    rcases z_rng x2 7 with h | ⟨w, hw, rfl⟩
    · obtain ⟨h3, h4⟩ := ck_what_out (W := 6) (w := 6) rfl (by decide) h
      rw [h3, h4, zxb_l, Option.bind_some, if_pos rfl, p_ref2, Option.bind_some, if_neg ne01]
      exact Or.inr (Or.inr ⟨rfl, rfl⟩)
    · obtain ⟨h3, h4⟩ := ck_what_in (W := 6) (w := 6) rfl (by decide) hw
      obtain ⟨v, h5, h6⟩ := V.v_part hp hw
      rw [h3, h4, zxb_r, Option.bind_some, if_neg ne01, p_ref0, Option.bind_some, if_pos rfl, h5, h6]
      exact Or.inl ⟨v, rfl, rfl⟩
theorem zV.v_knowledge (V : zV n L c reached lost size plots cliffs words needs told rea wread ltold lout sets ms) {r q : Nat} (hr : r < 6) (hq : q < n) : fX0_knowledge told rea (nI r) (nI q) = some (mkn ms r q) := by
  have hn := V.1.1
  obtain ⟨h1, -⟩ := V.2.2.2.2.2.1 r hr q (by omega)
  unfold fX0_knowledge
  rw [V.hasRead hr hq, Option.bind_some, if_pos (zin_nI hr (by decide)), nI_clamp (by omega), zb_isIn _ (by omega), h1, decide_eq_true hq, Bool.true_and, Option.bind_some]
  rcases V.2.2.2.2.2.2.1 r hr q hq with h | h | h <;> rw [h] <;> rfl
theorem zV.s_knows (V : zV n L c reached lost size plots cliffs words needs told rea wread ltold lout sets ms) (thr x1 x2 : Int32) : zLk1 "java/lang/IndexOutOfBoundsException" (fX6_knows size told rea x1 x2) (fX7_knows thr ms x1 x2) := by
  have hn := V.1.1
  unfold fX6_knows fX7_knows
  rcases z_rng x1 6 with h | ⟨r, hr, rfl⟩
  · obtain ⟨h1, h2⟩ := ck_reader_out h
    rw [h1, h2, zxb_l, Option.bind_some, if_pos rfl, p_ref1, Option.bind_some, if_neg ne01]
    exact Or.inr ⟨rfl, rfl⟩
  · obtain ⟨h1, h2⟩ := ck_reader_in hr
    rw [h1, h2, zxb_r, Option.bind_some, if_neg ne01]
    rcases z_rng x2 n with h | ⟨p, hp, rfl⟩
    · obtain ⟨h3, h4⟩ := ck_part_out V.1.2.1 V.1.2.2 hn h
      rw [h3, h4, zxb_l, Option.bind_some, if_pos rfl, p_ref1, Option.bind_some, if_neg ne01]
      exact Or.inr ⟨rfl, rfl⟩
    · obtain ⟨h3, h4⟩ := ck_part_in V.1.2.1 V.1.2.2 hn hp
      have hkn : fX7_known ms (nI r) (nI p) = some (mkn ms r p) := p_known ms (by omega)
      rw [h3, h4, zxb_r, Option.bind_some, if_neg ne01, p_ref0, Option.bind_some, if_pos rfl, V.v_knowledge hr hp, hkn]
      exact Or.inl ⟨_, rfl, rfl⟩
theorem zV.v_reader (V : zV n L c reached lost size plots cliffs words needs told rea wread ltold lout sets ms) {r w : Nat} (hr : r < 6) (hw : w < 7) : ∃ v, fX3_ofReader size plots cliffs told rea wread ltold lout (nI r) (nI w) = some v ∧ fX7_readerOf ms (nI r) (nI w) = some v := by
  have hn := V.1.1
  obtain ⟨a1, a2, a3⟩ := V.2.2.2.2.2.2.2 r hr
  have hz := zin_nI (a := r) (n := 6) hr (by decide)
  have hc : (nI r).toNatClampNeg = r := nI_clamp (by omega)
  have hkn : fX0_known told rea (nI r) = some (told r ||| rea r) := by
    unfold fX0_known
    rw [if_pos hz, if_pos hz, hc]
  obtain ⟨o1, o2⟩ := V.v_open hr
  have e4 : ∀ i, i < 3 → ((65 + 3 * nI r) + nI (4 + i)) - 4 = nI (65 + 3 * r + i) := fun i hi => by
    have h1 : (65 + 3 * nI r) + nI (4 + i) = nI (65 + 3 * r + i) + 4 := by
      rw [show (65 : Int32) = nI 65 from by decide, show (3 : Int32) = nI 3 from by decide, show (4 : Int32) = nI 4 from by decide, nI_mul, nI_add, nI_add, nI_add]
      exact congrArg nI (by omega)
    rw [h1, Int32.add_sub_cancel]
  unfold fX3_ofReader fX7_readerOf
  rw [if_pos hz, if_pos hz, if_pos hz, if_pos hz, if_pos hz, hc, hkn]
  simp only [p_bitCount, Option.bind_some]
  rw [o1, o2, a1, a2, a3]
  have hw' : w = 0 ∨ w = 1 ∨ w = 2 ∨ w = 3 ∨ w = 4 ∨ w = 5 ∨ w = 6 := by omega
  rcases hw' with rfl | rfl | rfl | rfl | rfl | rfl | rfl
  · rw [if_pos (by decide), if_pos (by decide), show (2 : Int32) - nI 0 = 2 from by decide, V.v_manyRead hr]
    exact ⟨_, rfl, rfl⟩
  · rw [if_neg (by decide), if_pos (by decide), if_neg (by decide), if_pos (by decide), show (2 : Int32) - nI 1 = 1 from by decide, V.v_manyTold hr]
    exact ⟨_, rfl, rfl⟩
  · rw [if_neg (by decide), if_neg (by decide), if_pos (by decide), if_neg (by decide), if_neg (by decide), if_pos (by decide), show (2 : Int32) - nI 2 = 0 from by decide, V.v_manyUnknown hr]
    exact ⟨_, rfl, rfl⟩
  · rw [if_neg (by decide), if_neg (by decide), if_neg (by decide), if_pos (by decide), if_neg (by decide), if_neg (by decide), if_neg (by decide), if_pos (by decide)]
    exact ⟨_, rfl, rfl⟩
  · rw [if_neg (by decide), if_neg (by decide), if_neg (by decide), if_neg (by decide), if_pos (by decide), if_neg (by decide), if_neg (by decide), if_neg (by decide), if_neg (by decide), e4 0 (by decide), if_pos (zin_nI (by omega) (by decide)), nI_clamp (by omega)]
    exact ⟨_, rfl, rfl⟩
  · rw [if_neg (by decide), if_neg (by decide), if_neg (by decide), if_neg (by decide), if_neg (by decide), if_pos (by decide), if_neg (by decide), if_neg (by decide), if_neg (by decide), if_neg (by decide), e4 1 (by decide), if_pos (zin_nI (by omega) (by decide)), nI_clamp (by omega)]
    exact ⟨_, rfl, rfl⟩
  · rw [if_neg (by decide), if_neg (by decide), if_neg (by decide), if_neg (by decide), if_neg (by decide), if_neg (by decide), if_neg (by decide), if_neg (by decide), if_neg (by decide), if_neg (by decide), e4 2 (by decide), if_pos (zin_nI (by omega) (by decide)), nI_clamp (by omega)]
    exact ⟨_, rfl, rfl⟩
theorem zV.s_reader (V : zV n L c reached lost size plots cliffs words needs told rea wread ltold lout sets ms) (thr x1 x2 : Int32) : zLk "java/lang/IndexOutOfBoundsException" "java/lang/IllegalArgumentException" (fX6_reader size plots cliffs told rea wread ltold lout x1 x2) (fX7_reader thr ms x1 x2) := by
  have hn := V.1.1
  unfold fX6_reader fX7_reader
  rcases z_rng x1 6 with h | ⟨p, hp, rfl⟩
  · obtain ⟨h1, h2⟩ := ck_reader_out h
    rw [h1, h2, zxb_l, Option.bind_some, if_pos rfl, p_ref1, Option.bind_some, if_neg ne01]
    exact Or.inr (Or.inl ⟨rfl, rfl⟩)
  · obtain ⟨h1, h2⟩ := ck_reader_in hp
    rw [h1, h2, zxb_r, Option.bind_some, if_neg ne01]
    rcases z_rng x2 7 with h | ⟨w, hw, rfl⟩
    · obtain ⟨h3, h4⟩ := ck_what_out (W := 6) (w := 6) rfl (by decide) h
      rw [h3, h4, zxb_l, Option.bind_some, if_pos rfl, p_ref2, Option.bind_some, if_neg ne01]
      exact Or.inr (Or.inr ⟨rfl, rfl⟩)
    · obtain ⟨h3, h4⟩ := ck_what_in (W := 6) (w := 6) rfl (by decide) hw
      obtain ⟨v, h5, h6⟩ := V.v_reader hp hw
      rw [h3, h4, zxb_r, Option.bind_some, if_neg ne01, p_ref0, Option.bind_some, if_pos rfl, h5, h6]
      exact Or.inl ⟨v, rfl, rfl⟩
theorem zV.s_plot (V : zV n L c reached lost size plots cliffs words needs told rea wread ltold lout sets ms) (thr x1 x2 : Int32) : zLk "java/lang/IndexOutOfBoundsException" "java/lang/IllegalArgumentException" (fX6_plot size plots cliffs told rea x1 x2) (fX7_plot thr ms x1 x2) := by
  have hn := V.1.1
  unfold fX6_plot fX7_plot
  rcases z_rng x1 6 with h | ⟨p, hp, rfl⟩
  · rw [in_out (W := 5) (w := 5) rfl (by decide) h, Option.bind_some, if_pos rfl, p_ref1, Option.bind_some, if_neg ne01]
    refine Or.inr (Or.inl ⟨?_, rfl⟩)
    rcases h with h | ⟨j, h1, h2, rfl⟩
    · rw [if_pos h]
    · rw [if_neg (nI_pos h2), if_neg (show ¬ nI j < (6 : Int32) from nI_nlt (b := 6) h1 h2)]
  · rw [in_in (W := 5) (w := 5) rfl (by decide) hp, Option.bind_some, if_neg ne01, if_neg (nI_pos (by omega)), if_pos (show nI p < (6 : Int32) from nI_lt (b := 6) hp (by omega))]
    rcases z_rng x2 4 with h | ⟨w, hw, rfl⟩
    · obtain ⟨h3, h4⟩ := ck_what_out (W := 3) (w := 3) rfl (by decide) h
      rw [h3, h4, zxb_l, Option.bind_some, if_pos rfl, p_ref2, Option.bind_some, if_neg ne01]
      exact Or.inr (Or.inr ⟨rfl, rfl⟩)
    · obtain ⟨h3, h4⟩ := ck_what_in (W := 3) (w := 3) rfl (by decide) hw
      have hw' : nI w = 0 ∨ nI w = 1 ∨ nI w = 2 ∨ nI w = 3 := by
        have : w = 0 ∨ w = 1 ∨ w = 2 ∨ w = 3 := by omega
        rcases this with h | h | h | h <;> rw [h] <;> decide
      obtain ⟨v, h5, h6⟩ := V.v_plot (y := p) (by omega) (nI w) hw'
      rw [h3, h4, zxb_r, Option.bind_some, if_neg ne01, p_ref0, Option.bind_some, if_pos rfl, h5, h6]
      exact Or.inl ⟨v, rfl, rfl⟩
theorem zV.v_count (V : zV n L c reached lost size plots cliffs words needs told rea wread ltold lout sets ms) (kept : Int32) {w : Nat} (hw : w < 7) : ∃ v, fX6_total reached lost size words told rea wread kept (nI w) = some v ∧ fX7_counted kept ms (nI w) = some v := by
  have hn := V.1.1
  have e0 : ms (0 : Int32).toNatClampNeg = size := V.1.2.2.trans V.1.2.1.symm
  have e2 : ms ((3 + nI 2) - 2).toNatClampNeg = reached := V.2.2.2.1.1.symm
  have e3 : ms ((3 + nI 3) - 2).toNatClampNeg = lost := V.2.2.2.1.2.symm
  unfold fX6_total fX3_ofAll fX7_counted
  rw [e0]
  have hw' : w = 0 ∨ w = 1 ∨ w = 2 ∨ w = 3 ∨ w = 4 ∨ w = 5 ∨ w = 6 := by omega
  rcases hw' with rfl | rfl | rfl | rfl | rfl | rfl | rfl
  · rw [if_neg (by decide), if_pos (by decide), if_pos (by decide)]
    exact ⟨_, rfl, rfl⟩
  · obtain ⟨v, h1, h2⟩ := V.v_allWords
    rw [if_neg (by decide), if_neg (by decide), if_pos (by decide), if_neg (by decide), if_pos (by decide), h1, h2]
    exact ⟨_, rfl, rfl⟩
  · rw [if_neg (by decide), if_neg (by decide), if_neg (by decide), if_pos (by decide), if_neg (by decide), if_neg (by decide), if_pos (by decide), if_pos (by decide), e2]
    exact ⟨_, rfl, rfl⟩
  · rw [if_neg (by decide), if_neg (by decide), if_neg (by decide), if_neg (by decide), if_pos (by decide), if_neg (by decide), if_neg (by decide), if_neg (by decide), if_pos (by decide), if_pos (by decide), e3]
    exact ⟨_, rfl, rfl⟩
  · obtain ⟨v, h1, h2⟩ := V.v_wordsRead
    rw [if_neg (by decide), if_neg (by decide), if_neg (by decide), if_neg (by decide), if_neg (by decide), if_pos (by decide), if_neg (by decide), if_neg (by decide), if_neg (by decide), if_neg (by decide), if_pos (by decide), h1, h2]
    exact ⟨_, rfl, rfl⟩
  · obtain ⟨v, h1, h2⟩ := V.v_knowAll
    have h0 : fX4_everyPart size = some (((1 : Int32) <<< (size &&& 31)) - 1) := rfl
    rw [if_neg (by decide), if_neg (by decide), if_neg (by decide), if_neg (by decide), if_neg (by decide), if_neg (by decide), if_neg (by decide), if_neg (by decide), if_neg (by decide), if_neg (by decide), if_neg (by decide), if_pos (by decide), h0, Option.bind_some, h1, h2]
    exact ⟨_, rfl, rfl⟩
  · rw [if_pos (by decide), if_neg (by decide), if_neg (by decide), if_neg (by decide), if_neg (by decide), if_neg (by decide), if_neg (by decide)]
    exact ⟨_, rfl, rfl⟩
theorem zV.s_count (V : zV n L c reached lost size plots cliffs words needs told rea wread ltold lout sets ms) (kept thr x1 : Int32) : zLk1 "java/lang/IllegalArgumentException" (fX6_count reached lost size words told rea wread kept x1) (fX7_count thr kept ms x1) := by
  unfold fX6_count fX7_count
  rcases z_rng x1 7 with h | ⟨w, hw, rfl⟩
  · obtain ⟨h3, h4⟩ := ck_what_out (W := 6) (w := 6) rfl (by decide) h
    rw [h3, h4, zxb_l, Option.bind_some, if_pos rfl, p_ref1, Option.bind_some, if_neg ne01]
    exact Or.inr ⟨rfl, rfl⟩
  · obtain ⟨h3, h4⟩ := ck_what_in (W := 6) (w := 6) rfl (by decide) hw
    obtain ⟨v, h5, h6⟩ := V.v_count kept hw
    rw [h3, h4, zxb_r, Option.bind_some, if_neg ne01, p_ref0, Option.bind_some, if_pos rfl, h5, h6]
    exact Or.inl ⟨v, rfl, rfl⟩
theorem zV.s_setting (V : zV n L c reached lost size plots cliffs words needs told rea wread ltold lout sets ms) (thr x1 : Int32) : zLk1 "java/lang/IndexOutOfBoundsException" (fX6_setting sets x1) (fX7_setting thr ms x1) := by
  unfold fX6_setting fX7_setting
  rcases z_rng x1 2 with h | ⟨w, hw, rfl⟩
  · obtain ⟨h3, h4⟩ := ck_set_out h
    rw [h3, h4, zxb_l, Option.bind_some, if_pos rfl, p_ref1, Option.bind_some, if_neg ne01]
    exact Or.inr ⟨rfl, rfl⟩
  · obtain ⟨h3, h4⟩ := ck_set_in hw
    rw [h3, h4, zxb_r, Option.bind_some, if_neg ne01, p_ref0, Option.bind_some, if_pos rfl, if_pos (zin_nI hw (by decide)), nI_clamp (by omega)]
    have hw' : w = 0 ∨ w = 1 := by omega
    rcases hw' with rfl | rfl
    · have e : ms (1 + nI 0).toNatClampNeg = sets 0 := V.2.1.2.2.trans V.2.1.2.1.symm
      rw [if_pos (by decide), e]
      exact Or.inl ⟨_, rfl, rfl⟩
    · have e : ms (1 + nI 1).toNatClampNeg = sets 1 := V.2.2.1.2.2.2.trans V.2.2.1.2.2.1.symm
      rw [if_pos (by decide), e]
      exact Or.inl ⟨_, rfl, rfl⟩
theorem zV.s_recap (V : zV n L c reached lost size plots cliffs words needs told rea wread ltold lout sets ms) (thr x1 x2 x3 : Int32) : zLk "java/lang/IndexOutOfBoundsException" "java/lang/IllegalArgumentException" (fX6_recap size words needs told rea sets x1 x2 x3) (fX7_recap thr ms x1 x2 x3) := by
  have hn := V.1.1
  unfold fX6_recap fX7_recap
  rcases z_rng x1 6 with h | ⟨r, hr, rfl⟩
  · obtain ⟨h1, h2⟩ := ck_reader_out h
    rw [h1, h2, zxb_l, Option.bind_some, if_pos rfl, p_ref1, Option.bind_some, if_neg ne01]
    exact Or.inr (Or.inl ⟨rfl, rfl⟩)
  · obtain ⟨h1, h2⟩ := ck_reader_in hr
    rw [h1, h2, zxb_r, Option.bind_some, if_neg ne01]
    rcases z_rng x2 n with h | ⟨p, hp, rfl⟩
    · obtain ⟨h3, h4⟩ := ck_part_out V.1.2.1 V.1.2.2 hn h
      rw [h3, h4, zxb_l, Option.bind_some, if_pos rfl, p_ref1, Option.bind_some, if_neg ne01]
      exact Or.inr (Or.inl ⟨rfl, rfl⟩)
    · obtain ⟨h3, h4⟩ := ck_part_in V.1.2.1 V.1.2.2 hn hp
      rw [h3, h4, zxb_r, Option.bind_some, if_neg ne01]
      rcases z_rng x3 5 with h | ⟨w, hw, rfl⟩
      · obtain ⟨h5, h6⟩ := ck_what_out (W := 4) (w := 4) rfl (by decide) h
        rw [h5, h6, zxb_l, Option.bind_some, if_pos rfl, p_ref2, Option.bind_some, if_neg ne01]
        exact Or.inr (Or.inr ⟨rfl, rfl⟩)
      · obtain ⟨h5, h6⟩ := ck_what_in (W := 4) (w := 4) rfl (by decide) hw
        obtain ⟨v, h7, h8⟩ := V.recap hr hp (nI w)
        rw [h5, h6, zxb_r, Option.bind_some, if_neg ne01, p_ref0, Option.bind_some, if_pos rfl, h7, h8]
        exact Or.inl ⟨v, rfl, rfl⟩
theorem zV.s_easiest (V : zV n L c reached lost size plots cliffs words needs told rea wread ltold lout sets ms) (thr x1 : Int32) : zLk1 "java/lang/IndexOutOfBoundsException" (fX6_easiest size words needs told rea sets x1) (fX7_easiest thr ms x1) := by
  unfold fX6_easiest fX7_easiest
  rcases z_rng x1 6 with h | ⟨r, hr, rfl⟩
  · obtain ⟨h1, h2⟩ := ck_reader_out h
    rw [h1, h2, zxb_l, Option.bind_some, if_pos rfl, p_ref1, Option.bind_some, if_neg ne01]
    exact Or.inr ⟨rfl, rfl⟩
  · obtain ⟨h1, h2⟩ := ck_reader_in hr
    obtain ⟨v, h5, h6⟩ := V.v_easiest hr
    rw [h1, h2, zxb_r, Option.bind_some, if_neg ne01, p_ref0, Option.bind_some, if_pos rfl, h5, h6]
    exact Or.inl ⟨v, rfl, rfl⟩
theorem zV.s_enough (V : zV n L c reached lost size plots cliffs words needs told rea wread ltold lout sets ms) (thr x1 : Int32) : zLk1 "java/lang/IndexOutOfBoundsException" (fX6_enough size needs told rea x1) (fX7_enough thr ms x1) := by
  unfold fX6_enough fX7_enough
  rcases z_rng x1 6 with h | ⟨r, hr, rfl⟩
  · obtain ⟨h1, h2⟩ := ck_reader_out h
    rw [h1, h2, zxb_l, Option.bind_some, if_pos rfl, p_ref1, Option.bind_some, if_neg ne01]
    exact Or.inr ⟨rfl, rfl⟩
  · obtain ⟨h1, h2⟩ := ck_reader_in hr
    obtain ⟨v, -, h5, h6⟩ := V.v_enough hr
    rw [h1, h2, zxb_r, Option.bind_some, if_neg ne01, p_ref0, Option.bind_some, if_pos rfl, h5, h6]
    exact Or.inl ⟨_, rfl, rfl⟩
end PQ
