/-! PURE: texts -/
theorem aBad.err {X : Nat → Nat} {t i : Nat} {s : zGr} (hi : i < t) (h : (tk s (nI (X i))).1 = 0) : aBad X t i s i := by
  unfold aBad
  obtain ⟨d, hd⟩ : ∃ d, t - i = d + 1 := ⟨t - i - 1, by omega⟩
  rw [hd, aRun, if_pos h]
  exact ⟨by omega, rfl, fun h => absurd h (by omega)⟩
def zClV (l : List (Int32 × Int32 × Int32)) : Prop := ∀ e, e ∈ l → e.2.1 = -1 ∨ ∃ y, y < 6 ∧ e.2.1 = nI y
def zRdV (l : List (Int32 × Int32 × Int32)) (j : Nat) (m : Nat → Int32) : Prop := ∀ i e, l[i]? = some e → m (3 * (j + i)) = e.1 ∧ m (3 * (j + i) + 1) = e.2.1 ∧ m (3 * (j + i) + 2) = e.2.2
section QA
variable {X : Nat → Nat} {t : Nat} {mlen len : Int32} {mtext codes : Nat → Int32}
theorem p_isText_12 (hT : zTX X t mtext) (hm : mlen = nI t) : ∀ (d i rd k : Nat) (mread : Nat → Int32), t - i ≤ d → i ≤ t → 2 * rd ≤ i → d + 1 < k →
    (∃ i' rd' m', fX7_isText_12 k mlen (nI i) (nI rd) mtext mread 1 = some (0, nI i', nI rd', m') ∧ aBad X t i (0, 0, -1, 10) i') ∨
    (∃ rd' m', fX7_isText_12 k mlen (nI i) (nI rd) mtext mread 1 = some (1, nI t, nI rd', m') ∧ (aRun X (t - i) i (0, 0, -1, 10)).1 = t ∧ fX1_mayEnd (aRun X (t - i) i (0, 0, -1, 10)).2.1 = some 1 ∧ rd' = rd + (aPts X (t - i) i (0, 0, -1, 10)).length ∧ 2 * rd' ≤ t + 1 ∧ zRdV (aPts X (t - i) i (0, 0, -1, 10)) rd m' ∧ (∀ j, j < 3 * rd → m' j = mread j) ∧ zClV (aPts X (t - i) i (0, 0, -1, 10)))
  | d, i, rd, 0, mread, _, _, _, hk => absurd hk (by omega)
  | d, i, rd, 1, mread, _, _, _, hk => absurd hk (by omega)
  | d, i, rd, k + 1 + 1, mread, hd, hi, hrd, hk => by
    have ht := hT.1
    rw [fX7_isText_12, if_neg ne01]
    rcases p_part hT hm (rd := rd) hi (by omega) mread with ⟨i', q1, q2⟩ | ⟨i', pl, ps, cl, wo, q1, q2, q3, q4, q5, q6, q7, q8⟩
    · rw [q1, Option.bind_some, if_pos rfl]
      exact Or.inl ⟨_, _, _, rfl, q2⟩
    · rw [q1, Option.bind_some, if_neg ne01, p_takes hT hm (c := 59) (ch := 59) q3 rfl (by decide), Option.bind_some]
      obtain ⟨j1, j2⟩ := q4
      by_cases h59 : i' < t ∧ X i' = 59
      · rw [if_pos h59]
        obtain ⟨d', rfl⟩ : ∃ d', d = d' + 1 := ⟨d - 1, by omega⟩
        obtain ⟨e, he⟩ : ∃ e, t - i' = e + 1 := ⟨t - i' - 1, by omega⟩
        have he2 : e = t - (i' + 1) := by omega
        have hr : aRun X (t - i') i' (pl, ps, cl, wo) = aRun X (t - (i' + 1)) (i' + 1) (0, 0, -1, 10) := by
          rw [he, aRun, h59.2, q6, if_neg ne01, he2]
        have hp : aPts X (t - i') i' (pl, ps, cl, wo) = (ps, cl, wo) :: aPts X (t - (i' + 1)) (i' + 1) (0, 0, -1, 10) := by
          rw [he, aPts, if_pos h59.2, h59.2, q6, he2]
        rw [hr] at j1
        rw [hp] at j2
        rcases p_isText_12 hT hm d' (i' + 1) (rd + 1) (k + 1) (mrd mread rd (ps, cl, wo)) (by omega) h59.1 (by omega) (by omega) with ⟨i2, rd2, m2, g1, g2⟩ | ⟨rd2, m2, g1, g2, g3, g4, g5, g6, g7, g8⟩
        · refine Or.inl ⟨i2, rd2, m2, g1, ?_⟩
          unfold aBad at *
          rw [j1]
          exact g2
        · refine Or.inr ⟨rd2, m2, g1, by rw [j1]; exact g2, by rw [j1]; exact g3, by rw [j2, List.length_cons]; omega, g5, ?_, fun j hj => ?_, ?_⟩
          · rw [j2]
            intro a e h
            rcases a with _ | a
            · have h' : (ps, cl, wo) = e := by simpa using h
              subst h'
              have f0 : m2 (3 * (rd + 0)) = mrd mread rd (ps, cl, wo) (3 * rd) := g7 _ (by omega)
              have f1 : m2 (3 * (rd + 0) + 1) = mrd mread rd (ps, cl, wo) (3 * rd + 1) := g7 _ (by omega)
              have f2 : m2 (3 * (rd + 0) + 2) = mrd mread rd (ps, cl, wo) (3 * rd + 2) := g7 _ (by omega)
              rw [f0, f1, f2]
              unfold mrd
              refine ⟨?_, ?_, ?_⟩
              · rw [upd_ne (by omega), upd_ne (by omega), upd_eq]
              · rw [upd_ne (by omega), upd_eq]
              · rw [upd_eq]
            · have h' : (aPts X (t - (i' + 1)) (i' + 1) (0, 0, -1, 10))[a]? = some e := by simpa using h
              have := g6 a e h'
              rw [show rd + (a + 1) = rd + 1 + a by omega]
              exact this
          · rw [g7 j (by omega)]
            unfold mrd
            rw [upd_ne (by omega), upd_ne (by omega), upd_ne (by omega)]
          · rw [j2]
            intro e he
            rcases List.mem_cons.mp he with h | h
            · rw [h]
              exact q8
            · exact g8 e h
      · rw [if_neg h59, fX7_isText_12, if_pos rfl]
        by_cases hit : i' = t
        · subst hit
          rw [if_pos hm.symm]
          have hr : aRun X (i' - i') i' (pl, ps, cl, wo) = (i', pl, ps, cl, wo) := by rw [Nat.sub_self]; rfl
          have hp : aPts X (i' - i') i' (pl, ps, cl, wo) = [(ps, cl, wo)] := by rw [Nat.sub_self]; rfl
          rw [hr] at j1
          rw [hp] at j2
          refine Or.inr ⟨rd + 1, mrd mread rd (ps, cl, wo), rfl, by rw [j1], by rw [j1]; exact q5, by rw [j2]; rfl, by omega, ?_, fun j hj => ?_, ?_⟩
          · rw [j2]
            intro a e h
            rcases a with _ | a
            · have h' : (ps, cl, wo) = e := by simpa using h
              subst h'
              rw [Nat.add_zero]
              unfold mrd
              refine ⟨?_, ?_, ?_⟩
              · rw [upd_ne (by omega), upd_ne (by omega), upd_eq]
              · rw [upd_ne (by omega), upd_eq]
              · rw [upd_eq]
            · exact absurd h (by simp)
          · unfold mrd
            rw [upd_ne (by omega), upd_ne (by omega), upd_ne (by omega)]
          · rw [j2]
            intro e he
            rw [List.mem_singleton.mp he]
            exact q8
        · have hne : ¬ nI i' = mlen := fun h => hit ((nI_eq (by omega) (by omega)).mp (h.trans hm))
          rw [if_neg hne]
          exact Or.inl ⟨_, _, _, rfl, aBad.of ⟨j1, j2⟩ (aBad.err (by omega) (q7 (by omega) (fun g => h59 ⟨by omega, g⟩)))⟩
theorem p_run (ht : t ≤ 60) (hX : ∀ i, i < t → codes i = nI (X i)) (hl : len = nI t) : ∀ (d i k : Nat) (s : zGr), i + d = t → d < k → fX5_readUntilError_9 k len codes s.1 s.2.1 s.2.2.1 s.2.2.2 (nI i) = some (nI (aRun X d i s).1, (aRun X d i s).2)
  | 0, i, k + 1, s, hi, _ => by
    have e1 : len ≤ nI i := by rw [hl]; exact nI_le (by omega) (by omega)
    have e2 : i = t := by omega
    unfold fX5_readUntilError_9
    rw [if_pos e1, hl, ← e2]
    rfl
  | d + 1, i, k + 1, s, hi, hk => by
    have e1 : ¬ len ≤ nI i := by rw [hl]; exact nI_ge (by omega) (by omega)
    unfold fX5_readUntilError_9
    rw [if_neg e1, if_pos (zin_nI (by omega) (by decide)), nI_clamp (by omega), hX i (by omega), tk_some, Option.bind_some, aRun, nI_1]
    by_cases h : (tk s (nI (X i))).1 = 0
    · rw [if_pos h, if_pos h]
    · rw [if_neg h, if_neg h]
      exact p_run ht hX hl d (i + 1) k (tk s (nI (X i))).2 (by omega) (by omega)
theorem p_complete (ht : t ≤ 60) (hX : ∀ i, i < t → X i < 127 ∧ codes i = nI (X i)) (hl : len = nI t) : ∀ (d i k a : Nat) (s : zGr), i + d = t → d < k → ∃ c, fX5_completeParts_4 k len codes (nI a) (nI i) = some (nI c) ∧ c + 1 = a + (aPts X d i s).length
  | 0, i, k + 1, a, s, hi, _ => by
    have e1 : len ≤ nI i := by rw [hl]; exact nI_le (by omega) (by omega)
    unfold fX5_completeParts_4
    rw [if_pos e1]
    exact ⟨a, rfl, rfl⟩
  | d + 1, i, k + 1, a, s, hi, hk => by
    have e1 : ¬ len ≤ nI i := by rw [hl]; exact nI_ge (by omega) (by omega)
    obtain ⟨x1, x2⟩ := hX i (by omega)
    unfold fX5_completeParts_4
    rw [if_neg e1, if_pos (zin_nI (by omega) (by decide)), nI_clamp (by omega), x2, nI_1, nI_1]
    by_cases h : X i = 59
    · obtain ⟨c, g1, g2⟩ := p_complete ht hX hl d (i + 1) k (a + 1) (tk s (nI (X i))).2 (by omega) (by omega)
      rw [if_pos (show nI (X i) = (59 : Int32) by rw [h]; rfl), g1, aPts, if_pos h, List.length_cons]
      exact ⟨c, rfl, by omega⟩
    · obtain ⟨c, g1, g2⟩ := p_complete ht hX hl d (i + 1) k a (tk s (nI (X i))).2 (by omega) (by omega)
      rw [if_neg (show ¬ nI (X i) = (59 : Int32) from fun g => h ((cxe (c := 59) x1 (by decide)).mp g)), g1, aPts, if_neg h]
      exact ⟨c, rfl, g2⟩
abbrev zS5 : Type := Int32 × (Nat → Int32) × (Nat → Int32) × (Nat → Int32) × (Nat → Int32)
def fPut : List (Int32 × Int32 × Int32) → zS5 → Option zS5
  | [], x => some x
  | e :: l, x => (fX4_put x.1 x.2.1 x.2.2.1 x.2.2.2.1 x.2.2.2.2 e.1 e.2.1 e.2.2).bind (fPut l)
def fAdds : List (Int32 × Int32 × Int32) → (Nat → Int32) → Option (Nat → Int32)
  | [], m => some m
  | e :: l, m => (fX7_adds m e.1 e.2.1 e.2.2).bind (fAdds l)
theorem p_tell (ht : t ≤ 60) (hX : ∀ i, i < t → X i < 127 ∧ codes i = nI (X i)) (hl : len = nI t) : ∀ (d i k : Nat) (s : zGr) (x : zS5), i + d = t → d < k → ∃ g : zGr, fX5_tellTo_9 k len codes s.1 s.2.1 s.2.2.1 s.2.2.2 x.1 x.2.1 x.2.2.1 x.2.2.2.1 x.2.2.2.2 (nI i) = (fPut (aPts X d i s) x).bind (fun q => some (g.1, g.2.1, g.2.2.1, g.2.2.2, q.1, q.2.1, q.2.2.1, q.2.2.2.1, q.2.2.2.2))
  | 0, i, k + 1, s, x, hi, _ => by
    have e1 : len ≤ nI i := by rw [hl]; exact nI_le (by omega) (by omega)
    unfold fX5_tellTo_9
    rw [if_pos e1]
    refine ⟨s, ?_⟩
    show _ = ((fX4_put x.1 x.2.1 x.2.2.1 x.2.2.2.1 x.2.2.2.2 s.2.1 s.2.2.1 s.2.2.2).bind (fPut [])).bind _
    cases fX4_put x.1 x.2.1 x.2.2.1 x.2.2.2.1 x.2.2.2.2 s.2.1 s.2.2.1 s.2.2.2 <;> rfl
  | d + 1, i, k + 1, s, x, hi, hk => by
    have e1 : ¬ len ≤ nI i := by rw [hl]; exact nI_ge (by omega) (by omega)
    obtain ⟨x1, x2⟩ := hX i (by omega)
    have z := zin_nI (a := i) (n := 60) (by omega) (by decide)
    unfold fX5_tellTo_9
    rw [if_neg e1, if_pos z, nI_clamp (by omega), x2, tk_some, nI_1, aPts]
    by_cases h : X i = 59
    · rw [if_pos (show nI (X i) = (59 : Int32) by rw [h]; rfl), if_pos h]
      have hf : fPut (s.2 :: aPts X d (i + 1) (tk s (nI (X i))).2) x = (fX4_put x.1 x.2.1 x.2.2.1 x.2.2.2.1 x.2.2.2.2 s.2.1 s.2.2.1 s.2.2.2).bind (fPut (aPts X d (i + 1) (tk s (nI (X i))).2)) := rfl
      rw [hf]
      cases fX4_put x.1 x.2.1 x.2.2.1 x.2.2.2.1 x.2.2.2.2 s.2.1 s.2.2.1 s.2.2.2 with
      | none => exact ⟨s, rfl⟩
      | some q =>
        rw [Option.bind_some, if_pos z, Option.bind_some, Option.bind_some]
        exact p_tell ht hX hl d (i + 1) k (tk s (nI (X i))).2 q (by omega) (by omega)
    · rw [if_neg (show ¬ nI (X i) = (59 : Int32) from fun g => h ((cxe (c := 59) x1 (by decide)).mp g)), if_neg h, if_pos z, Option.bind_some]
      exact p_tell ht hX hl d (i + 1) k (tk s (nI (X i))).2 x (by omega) (by omega)
end QA
theorem p_addAll_49 (thr saved mlen spot : Int32) (mpast mtext mread : Nat → Int32) {R : Nat} (hR : R ≤ 31) : ∀ (l : List (Int32 × Int32 × Int32)) (j k : Nat) (ms : Nat → Int32), j + l.length = R → zRdV l j mread → l.length < k → fX7_addAll_49 k thr saved mlen spot (nI R) ms mpast mtext mread (nI j) = (fAdds l ms).bind (fun m => some (m 0, thr, saved, 0, spot, nI R, m, mpast, mread))
  | [], j, k + 1, ms, hj, _, _ => by
    have hj : j = R := by simpa using hj
    unfold fX7_addAll_49
    rw [if_pos (nI_le (by omega) (by omega))]
    rfl
  | e :: l, j, k + 1, ms, hj, hm, hk => by
    have hj : j + (l.length + 1) = R := by simpa using hj
    have hk : l.length + 1 < k + 1 := by simpa using hk
    have e3 : (3 : Int32) * nI j = nI (3 * j) := by rw [show (3 : Int32) = nI 3 from rfl, nI_mul]
    have e31 : nI (3 * j) + 1 = nI (3 * j + 1) := nI_1 _
    have e32 : nI (3 * j) + 2 = nI (3 * j + 2) := nI_add (3 * j) 2
    obtain ⟨m0, m1, m2⟩ := hm 0 e rfl
    have m0 : mread (3 * j) = e.1 := m0
    have m1 : mread (3 * j + 1) = e.2.1 := m1
    have m2 : mread (3 * j + 2) = e.2.2 := m2
    unfold fX7_addAll_49
    rw [if_neg (nI_ge (by omega) (by omega)), e3, e31, e32, if_pos (zin_nI (by omega) (by decide)), if_pos (zin_nI (by omega) (by decide)), if_pos (zin_nI (by omega) (by decide)), nI_clamp (by omega), nI_clamp (by omega), nI_clamp (by omega), m0, m1, m2, nI_1]
    have hf : fAdds (e :: l) ms = (fX7_adds ms e.1 e.2.1 e.2.2).bind (fAdds l) := rfl
    rw [hf]
    cases fX7_adds ms e.1 e.2.1 e.2.2 with
    | none => rfl
    | some q =>
      rw [Option.bind_some, Option.bind_some]
      exact p_addAll_49 thr saved mlen spot mpast mtext mread hR l (j + 1) k q (by omega) (fun i f hf => by
        have := hm (i + 1) f (by simpa using hf)
        rw [show j + 1 + i = j + (i + 1) by omega]
        exact this) (by omega)
section QB
variable {L c : Nat} {reached lost : Int32} {told rea wread ltold lout sets : Nat → Int32}
theorem v_list : ∀ (l : List (Int32 × Int32 × Int32)) (n : Nat) (x : zS5) (ms : Nat → Int32), zV n L c reached lost x.1 x.2.1 x.2.2.1 x.2.2.2.1 x.2.2.2.2 told rea wread ltold lout sets ms → n + l.length ≤ 20 → zClV l → ∃ (y : zS5) (m : Nat → Int32), fPut l x = some y ∧ fAdds l ms = some m ∧ zV (n + l.length) L c reached lost y.1 y.2.1 y.2.2.1 y.2.2.2.1 y.2.2.2.2 told rea wread ltold lout sets m
  | [], n, x, ms, V, _, _ => ⟨x, ms, rfl, rfl, V⟩
  | e :: l, n, x, ms, V, hn, hv => by
    rw [List.length_cons] at hn
    obtain ⟨v, m, g1, g2, -, -, V'⟩ := V.v_put (by omega) e.1 e.2.1 e.2.2 (hv e List.mem_cons_self)
    obtain ⟨y, m', g3, g4, V''⟩ := v_list l (n + 1) v m V' (by omega) (fun f hf => hv f (List.mem_cons_of_mem _ hf))
    refine ⟨y, m', ?_, ?_, ?_⟩
    · show (fX4_put x.1 x.2.1 x.2.2.1 x.2.2.2.1 x.2.2.2.2 e.1 e.2.1 e.2.2).bind (fPut l) = some y
      rw [g1, Option.bind_some, g3]
    · show (fX7_adds ms e.1 e.2.1 e.2.2).bind (fAdds l) = some m'
      rw [g2, Option.bind_some, g4]
    · rw [List.length_cons, show n + (l.length + 1) = n + 1 + l.length by omega]
      exact V''
end QB
/-- the two buffers hold the same text -/
def zTx (len : Int32) (codes : Nat → Int32) (mlen : Int32) (mtext : Nat → Int32) : Prop := ∃ t X, len = nI t ∧ mlen = nI t ∧ zTX X t mtext ∧ ∀ i, i < t → codes i = nI (X i)
section QC
variable {len mlen : Int32} {codes mtext : Nat → Int32}
theorem zTx.parse (h : zTx len codes mlen mtext) (gpl gps gcl gwo spot reads : Int32) (mread : Nat → Int32) :
    (∃ e g sp rd m', fX5_readUntilError len codes gpl gps gcl gwo = some (nI e, g) ∧ fX7_isText mlen spot reads mtext mread = some (0, nI e, rd, m') ∧ sp = e ∧ ¬ (nI e = len ∧ fX1_mayEnd g.1 = some 1) ∧ (nI e = len → fX1_mayEnd g.1 = some 0)) ∨
    (∃ (g : zGr) (l : List (Int32 × Int32 × Int32)) (m' : Nat → Int32), fX5_readUntilError len codes gpl gps gcl gwo = some (len, g) ∧ fX7_isText mlen spot reads mtext mread = some (1, len, nI l.length, m') ∧ fX1_mayEnd g.1 = some 1 ∧ l.length ≤ 31 ∧ zRdV l 0 m' ∧ zClV l ∧ fX5_completeParts len codes = some (nI l.length) ∧ ∀ (a b c d : Int32) (x : zS5), ∃ g : zGr, fX5_tellTo len codes a b c d x.1 x.2.1 x.2.2.1 x.2.2.2.1 x.2.2.2.2 = (fPut l x).bind (fun q => some (g.1, g.2.1, g.2.2.1, g.2.2.2, q.1, q.2.1, q.2.2.1, q.2.2.2.1, q.2.2.2.2))) := by
  obtain ⟨t, X, hl, hm, hT, hc⟩ := h
  have ht := hT.1
  have hX : ∀ i, i < t → X i < 127 ∧ codes i = nI (X i) := fun i hi => ⟨(hT.2 i hi).1, hc i hi⟩
  have r1 := p_run (len := len) ht hc hl t 0 zfuel (0, 0, -1, 10) (by omega) (by have : zfuel = 5000 := rfl; omega)
  have r1 : fX5_readUntilError len codes gpl gps gcl gwo = some (nI (aRun X t 0 (0, 0, -1, 10)).1, (aRun X t 0 (0, 0, -1, 10)).2) := by
    unfold fX5_readUntilError
    rw [show fX1_restart gpl gps gcl gwo = some (0, 0, -1, 10) from rfl, Option.bind_some]
    exact r1
  rcases p_isText_12 hT hm t 0 0 zfuel mread (by omega) (by omega) (by omega) (by have : zfuel = 5000 := rfl; omega) with ⟨i', rd', m', g1, g2, g3, g4⟩ | ⟨rd', m', g1, g2, g3, g4, g5, g6, g7, g8⟩
  · left
    have g1 : fX7_isText mlen spot reads mtext mread = _ := g1
    rw [Nat.sub_zero] at g3 g4
    rw [g3] at r1
    have hi : nI i' = len → i' = t := fun h => (nI_eq (by omega) (by omega)).mp (h.trans hl)
    refine ⟨i', _, i', _, _, r1, g1, rfl, fun h => ?_, fun h => g4 (hi h)⟩
    have h1 := g4 (hi h.1)
    rw [h1] at h
    exact absurd h.2 (by decide)
  · right
    have g1 : fX7_isText mlen spot reads mtext mread = _ := g1
    rw [Nat.sub_zero] at g2 g3 g4 g6 g8
    rw [g2, ← hl] at r1
    rw [Nat.zero_add] at g4
    subst g4
    obtain ⟨c, c1, c2⟩ := p_complete (len := len) ht hX hl t 0 zfuel 1 (0, 0, -1, 10) (by omega) (by have : zfuel = 5000 := rfl; omega)
    have c3 : c = (aPts X t 0 (0, 0, -1, 10)).length := by omega
    subst c3
    have c1 : fX5_completeParts len codes = _ := c1
    rw [← hl] at g1
    refine ⟨_, _, _, r1, g1, g3, by omega, g6, g8, c1, fun a b c d x => ?_⟩
    obtain ⟨g, hg⟩ := p_tell (len := len) ht hX hl t 0 zfuel (0, 0, -1, 10) x (by omega) (by have : zfuel = 5000 := rfl; omega)
    refine ⟨g, ?_⟩
    unfold fX5_tellTo
    rw [show fX1_restart a b c d = some (0, 0, -1, 10) from rfl, Option.bind_some]
    exact hg
theorem zTx.s_firstError (h : zTx len codes mlen mtext) (gpl gps gcl gwo thr spot reads : Int32) (mread : Nat → Int32) : ∃ r v, fX6_firstError len codes gpl gps gcl gwo = some r ∧ fX7_firstError thr mlen spot reads mtext mread = some v ∧ v.1 = r.1 := by
  have hlm : mlen = len := by
    obtain ⟨t, X, hl, hm, -⟩ := h
    rw [hl, hm]
  unfold fX6_firstError fX7_firstError
  rcases h.parse gpl gps gcl gwo spot reads mread with ⟨e, g, sp, rd, m', g1, g2, -⟩ | ⟨g, l, m', g1, g2, -⟩
  · rw [g1, g2, Option.bind_some, Option.bind_some, if_pos rfl]
    exact ⟨_, _, rfl, rfl, rfl⟩
  · rw [g1, g2, Option.bind_some, Option.bind_some, if_neg ne01]
    exact ⟨_, _, rfl, rfl, hlm⟩
theorem nar_char : ∀ x, x < 127 → vp_nar .char (((nI x : Int32).toUInt32 % 65536).toInt32) = nI x := by decide +kernel
theorem zTx.s_append (h : zTx len codes mlen mtext) (thr x1 : Int32) : (∃ r v, fX6_append len codes x1 = some (.inr r) ∧ fX7_append thr mlen mtext x1 = some v ∧ v.1 = r.1 ∧ v.2.1 = 0 ∧ zTx r.2.1 r.2.2 v.2.2.1 v.2.2.2) ∨ (fX6_append len codes x1 = some (.inl "java/lang/IllegalArgumentException") ∧ fX7_append thr mlen mtext x1 = some (0, 1, mlen, mtext)) ∨ (fX6_append len codes x1 = some (.inl "java/lang/IllegalStateException") ∧ fX7_append thr mlen mtext x1 = some (0, 2, mlen, mtext)) := by
  obtain ⟨t, X, hl, hm, hT, hc⟩ := h
  have ht := hT.1
  unfold fX6_append fX7_append fX7_in
  by_cases h1 : x1 < 33
  · rw [if_pos h1, if_pos h1, Option.bind_some, if_pos rfl, p_ref1, Option.bind_some, if_neg ne01]
    exact Or.inr (Or.inl ⟨rfl, rfl⟩)
  · rw [if_neg h1, if_neg h1]
    by_cases h2 : x1 ≤ 126
    · have h0 : ¬ x1 < 0 := fun h => h1 (Int32.lt_trans h (by decide))
      obtain ⟨x, hx, rfl⟩ := nI_of2 (M := 126) (n := 126) (by decide) h0 h2
      have h3 : ¬ (126 : Int32) < nI x := nI_nlt (a := 126) hx (by omega)
      rw [if_pos h2, if_neg h3, Option.bind_some, if_neg ne01]
      by_cases h60 : t = 60
      · have e1 : ¬ len < 60 := by rw [hl, h60]; decide
        rw [if_neg e1, if_pos (by rw [hm, h60]; rfl), p_ref2, Option.bind_some, if_neg ne01]
        exact Or.inr (Or.inr ⟨rfl, rfl⟩)
      · have e1 : len < 60 := by rw [hl]; exact nI_lt (b := 60) (by omega) (by omega)
        have e2 : ¬ mlen = 60 := fun h => h60 ((nI_eq (b := 60) (by omega) (by omega)).mp (hm.symm.trans h))
        have z := zin_nI (a := t) (n := 60) (by omega) (by decide)
        have e3 : fX5_put len codes (nI x) = some (nI (t + 1), upd codes t (nI x)) := by
          unfold fX5_put
          rw [hl, if_pos z, nI_1, nI_clamp (by omega)]
        rw [if_pos e1, if_neg e2, p_ref0, Option.bind_some, if_pos rfl, e3, Option.bind_some, hm, if_pos z, nI_clamp (by omega), nI_1, nar_char x (by omega)]
        refine Or.inl ⟨_, _, rfl, rfl, rfl, rfl, t + 1, fun i => if i = t then x else X i, rfl, rfl, ⟨by omega, fun i hi => ?_⟩, fun i hi => ?_⟩
        · show (if i = t then x else X i) < 127 ∧ upd mtext t (nI x) i = nI (if i = t then x else X i)
          by_cases he : i = t
          · subst he
            rw [if_pos rfl]
            exact ⟨by omega, upd_eq _ _ _⟩
          · rw [if_neg he]
            exact ⟨(hT.2 i (by omega)).1, (upd_ne he).trans (hT.2 i (by omega)).2⟩
        · show upd codes t (nI x) i = nI (if i = t then x else X i)
          by_cases he : i = t
          · subst he
            rw [if_pos rfl]
            exact upd_eq _ _ _
          · rw [if_neg he]
            exact (upd_ne he).trans (hc i (by omega))
    · have h3 : (126 : Int32) < x1 := Int32.not_le.mp h2
      rw [if_neg h2, if_pos h3, Option.bind_some, if_pos rfl, p_ref1, Option.bind_some, if_neg ne01]
      exact Or.inr (Or.inl ⟨rfl, rfl⟩)
theorem zTx.empty (codes mtext : Nat → Int32) : zTx 0 codes 0 mtext := ⟨0, fun _ => 0, rfl, rfl, ⟨by decide, fun i hi => absurd hi (by omega)⟩, fun i hi => absurd hi (by omega)⟩
end QC
section QD
variable {n L c : Nat} {reached lost size : Int32} {plots cliffs words needs told rea wread ltold lout sets ms : Nat → Int32} {len mlen : Int32} {codes mtext : Nat → Int32}
theorem zV.s_addAll (V : zV n L c reached lost size plots cliffs words needs told rea wread ltold lout sets ms) (h : zTx len codes mlen mtext) {thr saved S : Int32} {mpast Pm : Nat → Int32} (hs : fX7_saves saved ms mpast = some (S, Pm)) (gpl gps gcl gwo spot reads : Int32) (mread : Nat → Int32) :
    (∃ r v, fX6_addAll size plots cliffs words needs len codes gpl gps gcl gwo = some (.inr r) ∧ fX7_addAll thr saved mlen spot reads ms mpast mtext mread = some v ∧ v.1 = r.1 ∧ v.2.1 = 0 ∧ v.2.2.1 = S ∧ v.2.2.2.1 = 0 ∧ r.2.2.2.2.2.2.1 = 0 ∧ v.2.2.2.2.2.2.2.1 = Pm ∧ zO (reached, lost, r.2.1, r.2.2.1, r.2.2.2.1, r.2.2.2.2.1, r.2.2.2.2.2.1, told, rea, wread, ltold, lout, sets) v.2.2.2.2.2.2.1) ∨
    (fX6_addAll size plots cliffs words needs len codes gpl gps gcl gwo = some (.inl "java/lang/IllegalArgumentException") ∧ ∃ sp rd m, fX7_addAll thr saved mlen spot reads ms mpast mtext mread = some (0, 1, saved, mlen, sp, rd, ms, mpast, m)) ∨
    (fX6_addAll size plots cliffs words needs len codes gpl gps gcl gwo = some (.inl "java/lang/IllegalStateException") ∧ ∃ sp rd m, fX7_addAll thr saved mlen spot reads ms mpast mtext mread = some (0, 2, saved, mlen, sp, rd, ms, mpast, m)) := by
  have hn := V.1.1
  have e : ms (0 : Int32).toNatClampNeg = nI n := V.1.2.2
  unfold fX6_addAll fX7_addAll fX5_isComplete
  rcases h.parse gpl gps gcl gwo spot reads mread with ⟨ee, g, sp, rd, m', g1, g2, -, g3, g4⟩ | ⟨g, l, m', g1, g2, g3, g4, g5, g6, g7, g8⟩
  · rw [g1, g2, Option.bind_some, Option.bind_some, if_pos rfl, p_ref1, Option.bind_some, if_neg ne01]
    refine Or.inr (Or.inl ⟨?_, _, _, _, rfl⟩)
    by_cases hl : nI ee = len
    · have h5 : fX1_mayEnd g.1 = some 0 := g4 hl
      rw [if_pos hl, h5, Option.bind_some, if_pos rfl, Option.bind_some, if_pos rfl]
    · rw [if_neg hl, Option.bind_some, if_pos rfl]
  · rw [g1, g2, Option.bind_some, Option.bind_some, if_pos rfl, g3, Option.bind_some, if_neg ne01, Option.bind_some, if_neg ne01, g7, Option.bind_some, if_neg ne01, e, V.1.2.1, nI_add]
    by_cases h20 : n + l.length ≤ 20
    · have e20 : nI (n + l.length) ≤ 20 := nI_le (b := 20) h20 (by omega)
      obtain ⟨y, m, y1, y2, V'⟩ := v_list l n (size, plots, cliffs, words, needs) ms V h20 g6
      obtain ⟨gg, t1⟩ := g8 g.1 g.2.1 g.2.2.1 g.2.2.2 (size, plots, cliffs, words, needs)
      rw [y1, Option.bind_some] at t1
      have t1 : fX5_tellTo len codes g.1 g.2.1 g.2.2.1 g.2.2.2 size plots cliffs words needs = _ := t1
      rw [V.1.2.1] at t1
      have q1 := p_addAll_49 0 S mlen len Pm mtext m' g4 l 0 zfuel ms (by omega) g5 (by have : zfuel = 5000 := rfl; omega)
      have q1 : fX7_addAll_49 zfuel 0 S mlen len (nI l.length) ms Pm mtext m' 0 = _ := q1
      rw [if_pos e20, if_pos e20, p_ref0, Option.bind_some, if_pos rfl, hs, Option.bind_some, t1, Option.bind_some, q1, y2, Option.bind_some]
      refine Or.inl ⟨_, _, rfl, rfl, ?_, rfl, rfl, rfl, rfl, rfl, n + l.length, L, c, V'⟩
      exact V'.1.2.2.trans V'.1.2.1.symm
    · have e20 : ¬ nI (n + l.length) ≤ 20 := nI_ge (a := 20) (by omega) (by omega)
      rw [if_neg e20, if_neg e20, p_ref2, Option.bind_some, if_neg ne01]
      exact Or.inr (Or.inr ⟨rfl, _, _, _, rfl⟩)
end QD
