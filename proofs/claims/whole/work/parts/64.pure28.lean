/-! PURE: saved states -/
theorem p_saves_52 (ms : Nat → Int32) {s : Nat} (hs : s < 6) : ∀ (d j k : Nat) (mp : Nat → Int32), j + d = 203 → d < k → ∃ mp' : Nat → Int32, fX7_saves_52 k (nI s) ms mp (nI j) = some (nI (s + 1), mp') ∧ ∀ i, mp' i = if 203 * s + j ≤ i ∧ i < 203 * s + 203 then ms (i - 203 * s) else mp i
  | 0, j, k + 1, mp, hj, _ => by
    have e6 : (203 : Int32) ≤ nI j := nI_le (a := 203) (by omega) (by omega)
    unfold fX7_saves_52
    rw [if_pos e6, nI_1]
    exact ⟨mp, rfl, fun i => (if_neg (by omega)).symm⟩
  | d + 1, j, k + 1, mp, hj, hk => by
    have e6 : ¬ (203 : Int32) ≤ nI j := nI_ge (b := 203) (by omega) (by omega)
    have e : (203 : Int32) * nI s + nI j = nI (203 * s + j) := by rw [show (203 : Int32) = nI 203 from rfl, nI_mul, nI_add]
    obtain ⟨mp', g1, g2⟩ := p_saves_52 ms hs d (j + 1) k (upd mp (203 * s + j) (ms j)) (by omega) (by omega)
    unfold fX7_saves_52
    rw [if_neg e6, e, if_pos (zin_nI (by omega) (by decide)), if_pos (zin_nI (by omega) (by decide)), nI_clamp (by omega), nI_clamp (by omega), nI_1, g1]
    refine ⟨mp', rfl, fun i => ?_⟩
    rw [g2 i]
    by_cases he : i = 203 * s + j
    · rw [if_neg (by omega), he, upd_eq, if_pos (by omega), show 203 * s + j - 203 * s = j by omega]
    · rw [upd_ne he]
      by_cases hl : 203 * s + j ≤ i ∧ i < 203 * s + 203
      · rw [if_pos hl, if_pos (by omega)]
      · rw [if_neg hl, if_neg (by omega)]
theorem p_saves_11 (ms : Nat → Int32) : ∀ (d j k : Nat) (mp : Nat → Int32), j + d = 1015 → d < k → ∃ mp' : Nat → Int32, fX7_saves_11 k (nI 6) ms mp (nI j) = fX7_saves_52 zfuel (nI 5) ms mp' 0 ∧ ∀ i, mp' i = if j ≤ i ∧ i < 1015 then mp (i + 203) else mp i
  | 0, j, k + 1, mp, hj, _ => by
    have e6 : (1015 : Int32) ≤ nI j := nI_le (a := 1015) (by omega) (by omega)
    unfold fX7_saves_11
    rw [if_pos e6, nI_pred]
    exact ⟨mp, rfl, fun i => (if_neg (by omega)).symm⟩
  | d + 1, j, k + 1, mp, hj, hk => by
    have e6 : ¬ (1015 : Int32) ≤ nI j := nI_ge (b := 1015) (by omega) (by omega)
    have e : nI j + 203 = nI (j + 203) := by rw [show (203 : Int32) = nI 203 from rfl, nI_add]
    obtain ⟨mp', g1, g2⟩ := p_saves_11 ms d (j + 1) k (upd mp j (mp (j + 203))) (by omega) (by omega)
    unfold fX7_saves_11
    rw [if_neg e6, e, if_pos (zin_nI (by omega) (by decide)), if_pos (zin_nI (by omega) (by decide)), nI_clamp (by omega), nI_clamp (by omega), nI_1, g1]
    refine ⟨mp', rfl, fun i => ?_⟩
    rw [g2 i]
    by_cases he : i = j
    · subst he
      rw [if_neg (by omega), upd_eq, if_pos (by omega)]
    · rw [upd_ne he]
      by_cases hl : j ≤ i ∧ i < 1015
      · rw [if_pos hl, if_pos (by omega), upd_ne (by omega)]
      · rw [if_neg hl, if_neg (by omega)]
theorem p_saves (ms mp : Nat → Int32) {k : Nat} (hk : k ≤ 6) : ∃ mp' : Nat → Int32, fX7_saves (nI k) ms mp = some (nI (zk k + 1), mp') ∧ ∀ i j, j < 203 → i ≤ zk k → mp' (203 * i + j) = if i = zk k then ms j else mp (203 * (if k = 6 then i + 1 else i) + j) := by
  unfold fX7_saves zk
  by_cases h6 : k = 6
  · subst h6
    obtain ⟨m1, g1, g2⟩ := p_saves_11 ms 1015 0 zfuel mp rfl (by decide)
    obtain ⟨m2, g3, g4⟩ := p_saves_52 ms (s := 5) (by decide) 203 0 zfuel m1 rfl (by decide)
    have g1 : fX7_saves_11 zfuel (nI 6) ms mp 0 = _ := g1
    have g3 : fX7_saves_52 zfuel (nI 5) ms m1 0 = _ := g3
    rw [if_pos (by decide), g1, g3, if_pos rfl]
    refine ⟨m2, rfl, fun i j hj hi => ?_⟩
    rw [if_pos rfl, g4]
    by_cases he : i = 5
    · subst he
      rw [if_pos (by omega), if_pos rfl, show 203 * 5 + j - 203 * 5 = j by omega]
    · rw [if_neg (by omega), if_neg he, g2, if_pos (by omega)]
      exact congrArg mp (by omega)
  · obtain ⟨m2, g3, g4⟩ := p_saves_52 ms (s := k) (by omega) 203 0 zfuel mp rfl (by decide)
    have g3 : fX7_saves_52 zfuel (nI k) ms mp 0 = _ := g3
    have h7 : ¬ nI k = 6 := fun h => h6 ((nI_eq (b := 6) (by omega) (by omega)).mp h)
    rw [if_neg h7, g3, if_neg h6]
    refine ⟨m2, rfl, fun i j hj hi => ?_⟩
    rw [if_neg h6, g4]
    by_cases he : i = k
    · subst he
      rw [if_pos (by omega), if_pos rfl, show 203 * i + j - 203 * i = j by omega]
    · rw [if_neg (by omega), if_neg he]
theorem p_undo_33 (thr : Int32) (mp : Nat → Int32) {s : Nat} (hs : s < 6) : ∀ (d j k : Nat) (m : Nat → Int32), j + d = 203 → d < k → ∃ m' : Nat → Int32, fX7_undo_33 k thr (nI s) m mp (nI j) = some (nI s, thr, nI s, m') ∧ ∀ i, m' i = if j ≤ i ∧ i < 203 then mp (203 * s + i) else m i
  | 0, j, k + 1, m, hj, _ => by
    have e6 : (203 : Int32) ≤ nI j := nI_le (a := 203) (by omega) (by omega)
    unfold fX7_undo_33
    rw [if_pos e6]
    exact ⟨m, rfl, fun i => (if_neg (by omega)).symm⟩
  | d + 1, j, k + 1, m, hj, hk => by
    have e6 : ¬ (203 : Int32) ≤ nI j := nI_ge (b := 203) (by omega) (by omega)
    have e : (203 : Int32) * nI s + nI j = nI (203 * s + j) := by rw [show (203 : Int32) = nI 203 from rfl, nI_mul, nI_add]
    obtain ⟨m', g1, g2⟩ := p_undo_33 thr mp hs d (j + 1) k (upd m j (mp (203 * s + j))) (by omega) (by omega)
    unfold fX7_undo_33
    rw [if_neg e6, e, if_pos (zin_nI (by omega) (by decide)), if_pos (zin_nI (by omega) (by decide)), nI_clamp (by omega), nI_clamp (by omega), nI_1, g1]
    refine ⟨m', rfl, fun i => ?_⟩
    rw [g2 i]
    by_cases he : i = j
    · subst he
      rw [if_neg (by omega), upd_eq, if_pos (by omega)]
    · rw [upd_ne he]
      by_cases hl : j ≤ i ∧ i < 203
      · rw [if_pos hl, if_pos (by omega)]
      · rw [if_neg hl, if_neg (by omega)]
section PY
variable {n L c : Nat} {reached lost size : Int32} {plots cliffs words needs told rea wread ltold lout sets ms : Nat → Int32}
theorem zV.cong (V : zV n L c reached lost size plots cliffs words needs told rea wread ltold lout sets ms) {plots' cliffs' words' needs' told' rea' wread' ltold' lout' sets' ms' : Nat → Int32} (h1 : ∀ q, q < 20 → plots' q = plots q) (h2 : ∀ q, q < 20 → cliffs' q = cliffs q) (h3 : ∀ q, q < 20 → words' q = words q) (h4 : ∀ q, q < 20 → needs' q = needs q) (h5 : ∀ r, r < 6 → told' r = told r) (h6 : ∀ r, r < 6 → rea' r = rea r) (h7 : ∀ r, r < 6 → wread' r = wread r) (h8 : ∀ r, r < 6 → ltold' r = ltold r) (h9 : ∀ r, r < 6 → lout' r = lout r) (h10 : ∀ r, r < 2 → sets' r = sets r) (hm : ∀ i, i < 203 → ms' i = ms i) : zV n L c reached lost size plots' cliffs' words' needs' told' rea' wread' ltold' lout' sets' ms' := by
  obtain ⟨⟨v1, v2, v3⟩, ⟨v4, v5, v6⟩, ⟨v7, v8, v9, v10⟩, ⟨vr, vl⟩, v11, vb, vk, vc⟩ := V
  refine ⟨⟨v1, v2, (hm 0 (by decide)).trans v3⟩, ⟨v4, (h10 0 (by decide)).trans v5, (hm 1 (by decide)).trans v6⟩, ⟨v7, v8, (h10 1 (by decide)).trans v9, (hm 2 (by decide)).trans v10⟩, ⟨vr.trans (hm 3 (by decide)).symm, vl.trans (hm 4 (by decide)).symm⟩, fun q hq => ?_, fun r hr q hq => ?_, fun r hr q hq => ?_, fun r hr => ?_⟩
  · obtain ⟨a1, a2, a3, a4, a5⟩ := v11 q hq
    rw [h1 q (by omega), h2 q (by omega), h3 q (by omega), h4 q (by omega)]
    exact ⟨a1.trans (hm (5 + 3 * q) (by omega)).symm, a2.trans (hm (5 + 3 * q + 1) (by omega)).symm, a3.trans (hm (5 + 3 * q + 2) (by omega)).symm, a4.trans (sN_congr (fun i hi => (hm (5 + 3 * i) (by omega)).symm)), a5⟩
  · rw [h5 r hr, h6 r hr]
    by_cases hl : q < n
    · have e : mkn ms' r q = mkn ms r q := hm _ (by omega)
      rw [e]
      exact vb r hr q hq
    · obtain ⟨b1, b2⟩ := vb r hr q hq
      rw [decide_eq_false hl, Bool.false_and] at b1 b2
      rw [decide_eq_false hl, Bool.false_and, Bool.false_and]
      exact ⟨b1, b2⟩
  · have e : mkn ms' r q = mkn ms r q := hm _ (by omega)
    rw [e]
    exact vk r hr q hq
  · rw [hm _ (by omega), hm _ (by omega), hm _ (by omega), h7 r hr, h8 r hr, h9 r hr]
    exact vc r hr
end PY
theorem zO.cong {x : zSC} {ms ms' : Nat → Int32} (h : zO x ms) (hm : ∀ i, i < 203 → ms' i = ms i) : zO x ms' := by
  obtain ⟨n, L, c, V⟩ := h
  exact ⟨n, L, c, V.cong (fun _ _ => rfl) (fun _ _ => rfl) (fun _ _ => rfl) (fun _ _ => rfl) (fun _ _ => rfl) (fun _ _ => rfl) (fun _ _ => rfl) (fun _ _ => rfl) (fun _ _ => rfl) (fun _ _ => rfl) hm⟩
theorem cpy_at (f g : Nat → Int32) {N : Int32} {M q : Nat} (hN : N.toNatClampNeg = M) (h : q < M) : va_cpy f g (0 : Int32).toNatClampNeg (0 : Int32).toNatClampNeg N.toNatClampNeg q = f q := by
  have e0 : (0 : Int32).toNatClampNeg = 0 := rfl
  unfold va_cpy
  rw [e0, hN, if_pos ⟨Nat.zero_le q, by omega⟩]
  exact congrArg f (by omega)
theorem zO.zcp {a b : zSC} {ms : Nat → Int32} (h : zO b ms) : zO (zcp a b) ms := by
  obtain ⟨n, L, c, V⟩ := h
  exact ⟨n, L, c, V.cong (fun q hq => cpy_at _ _ rfl hq) (fun q hq => cpy_at _ _ rfl hq) (fun q hq => cpy_at _ _ rfl hq) (fun q hq => cpy_at _ _ rfl hq) (fun q hq => cpy_at _ _ rfl hq) (fun q hq => cpy_at _ _ rfl hq) (fun q hq => cpy_at _ _ rfl hq) (fun q hq => cpy_at _ _ rfl hq) (fun q hq => cpy_at _ _ rfl hq) (fun q hq => cpy_at _ _ rfl hq) (fun _ _ => rfl)⟩
/-- the saved states are the reference's -/
def zHS (o k n : Nat) (σ : Nat → zSC) (mpast : Nat → Int32) : Prop := zH o k n ∧ ∀ i, i < k → zO (σ ((o + i) % 6)) (fun j => mpast (203 * i + j))
theorem zHS.keep {o k n : Nat} {σ : Nat → zSC} {mpast ms : Nat → Int32} {c0 : zSC} (H : zHS o k n σ mpast) (h : zO c0 ms) : ∃ mp' : Nat → Int32, fX7_saves (nI k) ms mpast = some (nI (zk k + 1), mp') ∧ zHS (zo o k) (zk k + 1) (zn n (zp o k)) (zkeep o k n σ c0) mp' := by
  obtain ⟨hH, hs⟩ := H
  obtain ⟨mp', g1, g2⟩ := p_saves ms mpast hH.2.1
  have ho := hH.1
  have hk6 := hH.2.1
  refine ⟨mp', g1, zH_keep hH, fun i hi => ?_⟩
  obtain ⟨p1, p2, p3, -⟩ := zH_place hH
  unfold zkeep
  by_cases he : i = zk k
  · subst he
    rw [if_pos (show (zo o k + zk k) % 6 = zp o k from rfl)]
    refine zO.zcp (h.cong (fun j hj => ?_))
    show mp' (203 * zk k + j) = _
    rw [g2 _ j hj (Nat.le_refl _), if_pos rfl]
  · have hp : ¬ (zo o k + i) % 6 = zp o k := by
      unfold zp
      omega
    rw [if_neg hp]
    by_cases h6 : k = 6
    · have e : (zo o k + i) % 6 = (o + (i + 1)) % 6 := by
        unfold zo
        rw [if_pos h6]
        omega
      have hzk : zk k = 5 := if_pos h6
      rw [e]
      refine (hs (i + 1) (by omega)).cong (fun j hj => ?_)
      show mp' (203 * i + j) = mpast (203 * (i + 1) + j)
      rw [g2 i j hj (by omega), if_neg he, if_pos h6]
    · have e : zo o k = o := if_neg h6
      have hzk : zk k = k := if_neg h6
      rw [e]
      refine (hs i (by omega)).cong (fun j hj => ?_)
      show mp' (203 * i + j) = mpast (203 * i + j)
      rw [g2 i j hj (by omega), if_neg he, if_neg h6]
theorem zHS.undo0 (o n : Nat) (thr : Int32) (ms mpast : Nat → Int32) : fX7_undo thr (nI 0) ms mpast = some (0, 1, nI 0, ms) := by
  unfold fX7_undo
  rw [if_pos (by decide), p_ref1, Option.bind_some, if_neg ne01]
theorem zHS.undo {o k n : Nat} {σ : Nat → zSC} {mpast ms : Nat → Int32} (now : zSC) (thr : Int32) (H : zHS o k n σ mpast) (hk : ¬ k = 0) : ∃ m : Nat → Int32, fX7_undo thr (nI k) ms mpast = some (nI (k - 1), 0, nI (k - 1), m) ∧ zO (zcp now (σ (zl o k))) m ∧ zHS o (k - 1) n σ mpast := by
  obtain ⟨hH, hs⟩ := H
  obtain ⟨h1, h2, h3, h4, h5⟩ := hH
  obtain ⟨K, rfl⟩ : ∃ K, k = K + 1 := ⟨k - 1, by omega⟩
  obtain ⟨m, g1, g2⟩ := p_undo_33 0 mpast (s := K) (by omega) 203 0 zfuel ms rfl (by decide)
  have g1 : fX7_undo_33 zfuel 0 (nI K) ms mpast 0 = _ := g1
  have e : zl o (K + 1) = (o + K) % 6 := by
    unfold zl
    exact congrArg (· % 6) (by omega)
  unfold fX7_undo
  rw [if_neg (nI_ne0 (by omega) (by omega)), p_ref0, Option.bind_some, if_pos rfl, nI_pred, g1, Nat.add_sub_cancel]
  refine ⟨m, rfl, ?_, ⟨h1, by omega, h3, by omega, h5⟩, fun i hi => hs i (by omega)⟩
  rw [e]
  refine zO.zcp ((hs K (by omega)).cong (fun j hj => ?_))
  show m j = mpast (203 * K + j)
  rw [g2 j, if_pos ⟨Nat.zero_le j, hj⟩]
