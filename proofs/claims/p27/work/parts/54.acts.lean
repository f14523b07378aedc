/-! PURE: what an act does to the object -/
def TP {α : Type} (P : α → Prop) (x : Option α) : Prop := ∃ v, x = some v ∧ P v
theorem TP.b {α β : Type} {P : β → Prop} {x : Option α} {f : α → Option β} (h : Tt x) (g : ∀ v, x = some v → TP P (f v)) : TP P (x.bind f) := by
  obtain ⟨v, rfl⟩ := h
  exact g v rfl
theorem TP.p {α β : Type} {Q : α → Prop} {P : β → Prop} {x : Option α} {f : α → Option β} (h : TP Q x) (g : ∀ v, Q v → TP P (f v)) : TP P (x.bind f) := by
  obtain ⟨v, rfl, hv⟩ := h
  exact g v hv
theorem TP.c {α : Type} {P : α → Prop} {c : Prop} [Decidable c] {a b : Option α} (h : c → TP P a) (g : ¬ c → TP P b) : TP P (if c then a else b) := by
  by_cases hc : c
  · rw [if_pos hc]
    exact h hc
  · rw [if_neg hc]
    exact g hc
theorem TP.i {α : Type} {P : α → Prop} {i : Int32} {n : Nat} {a : Option α} (h : zin i n = true) (g : TP P a) : TP P (if zin i n = true then a else none) := by
  rw [if_pos h]
  exact g
theorem n_ok {c : Nat} (h : c < 2 ^ 31) : ¬ nI c < -1 := fun g => nI_pos h (Int32.lt_trans g (by decide))
theorem t_find_14 (plots : Nat → Int32) : ∀ (p k : Nat) (v2 v3 : Int32), p < k → p ≤ 20 → Tt (fX4_findNeeds_14 k plots v2 v3 (nI p - 1))
  | 0, k + 1, v2, v3, _, _ => by
    rw [fX4_findNeeds_14.eq_2, if_pos nI_m0]
    exact Tt.s _
  | p + 1, k + 1, v2, v3, hk, hp => by
    have hz : zin (nI p) 20 = true := zin_nI (by omega) (by decide)
    rw [fX4_findNeeds_14.eq_2, nI_pred, if_neg (nI_pos (by omega)), nI_dn]
    exact Tt.c (fun _ => Tt.s _) (fun _ => Tt.i hz (Tt.c (fun _ => t_find_14 plots p k _ _ (by omega) (by omega)) (fun _ => Tt.i hz (t_find_14 plots p k _ _ (by omega) (by omega)))))
theorem t_find (plots : Nat → Int32) {p : Nat} (hp : p < 20) : Tt (fX4_findNeeds plots (nI p)) := Tt.i (zin_nI hp (by decide)) (t_find_14 plots p zfuel _ _ (t_zf (by omega)) (by omega))
theorem t_put {n : Nat} (hn : n < 20) (plots cliffs words needs : Nat → Int32) (x1 x2 x3 : Int32) : TP (fun q : Int32 × (Nat → Int32) × (Nat → Int32) × (Nat → Int32) × (Nat → Int32) => q.1 = nI (n + 1) ∧ q.2.1 = upd plots n x1) (fX4_put (nI n) plots cliffs words needs x1 x2 x3) := by
  have hz : zin (nI n) 20 = true := zin_nI hn (by decide)
  have hc : (nI n).toNatClampNeg = n := nI_clamp (by omega)
  exact TP.i hz (TP.i hz (TP.i hz (TP.b (t_find _ hn) (fun _ _ => TP.i hz ⟨_, rfl, nI_1 n, by rw [hc]⟩))))
theorem t_rew_25 {n : Nat} (hn : n ≤ 20) (plots cliffs : Nat → Int32) (v4 : Int32) : ∀ (d j k : Nat) (needs : Nat → Int32), j + d = n → d < k → TP (fun q : Int32 × (Nat → Int32) × (Nat → Int32) × (Nat → Int32) => q.1 = v4 ∧ q.2.1 = plots) (fX4_rewrite_25 k (nI n) plots cliffs needs v4 (nI j))
  | 0, j, k + 1, needs, hj, _ => by
    have e : nI n ≤ nI j := nI_le (by omega) (by omega)
    rw [fX4_rewrite_25.eq_2, if_pos e]
    exact ⟨_, rfl, rfl, rfl⟩
  | d + 1, j, k + 1, needs, hj, hk => by
    have e : ¬ nI n ≤ nI j := nI_ge (by omega) (by omega)
    rw [fX4_rewrite_25.eq_2, if_neg e, nI_1]
    exact TP.b (t_find plots (by omega)) (fun _ _ => TP.i (zin_nI (by omega) (by decide)) (t_rew_25 hn plots cliffs v4 d (j + 1) k _ (by omega) (by omega)))
theorem t_rew {n p : Nat} (hn : n ≤ 20) (hp : p < n) (plots cliffs needs : Nat → Int32) (x2 x3 : Int32) : TP (fun q : Int32 × (Nat → Int32) × (Nat → Int32) × (Nat → Int32) => q.1 = plots p ∧ q.2.1 = upd plots p x2) (fX4_rewrite (nI n) plots cliffs needs (nI p) x2 x3) := by
  have hz : zin (nI p) 20 = true := zin_nI (by omega) (by decide)
  have hc : (nI p).toNatClampNeg = p := nI_clamp (by omega)
  refine TP.i hz (TP.i hz (TP.i hz ?_))
  rw [hc]
  exact t_rew_25 hn _ _ _ (n - p) p zfuel _ (by omega) (Nat.lt_of_le_of_lt (Nat.sub_le n p) (t_zf hn))
theorem t_drop_8 (v2 : Int32) : ∀ (d j k : Nat) (told rea : Nat → Int32), j + d = 6 → d < k → Tt (fX0_dropPart_8 k told rea v2 (nI j))
  | 0, j, k + 1, told, rea, hj, _ => by
    have e : (6 : Int32) ≤ nI j := nI_le (a := 6) (by omega) (by omega)
    rw [fX0_dropPart_8.eq_2, if_pos e]
    exact Tt.s _
  | d + 1, j, k + 1, told, rea, hj, hk => by
    have e : ¬ (6 : Int32) ≤ nI j := nI_ge (b := 6) (by omega) (by omega)
    have hz : zin (nI j) 6 = true := zin_nI (by omega) (by decide)
    rw [fX0_dropPart_8.eq_2, if_neg e, nI_1]
    exact Tt.i hz (Tt.i hz (Tt.i hz (Tt.i hz (t_drop_8 v2 d (j + 1) k _ _ (by omega) (by omega)))))
theorem t_drop (told rea : Nat → Int32) (x1 : Int32) : Tt (fX0_dropPart told rea x1) := t_drop_8 _ 6 0 zfuel told rea rfl (by decide)
theorem t_take (told rea : Nat → Int32) {r : Nat} (hr : r < 6) (x2 x3 : Int32) : Tt (fX0_takeIn told rea (nI r) x2 x3) := by
  have hz : zin (nI r) 6 = true := zin_nI hr (by decide)
  exact Tt.i hz (Tt.i hz (Tt.i hz (Tt.i hz (Tt.i hz (Tt.s _)))))
theorem t_deliver {n r p : Nat} (hn : n ≤ 20) (hr : r < 6) (hp : p < n) (reached : Int32) (words needs told rea wread ltold lout : Nat → Int32) {sets : Nat → Int32} (hs : tSets sets) : TP (fun q : Int32 × Int32 × (Nat → Int32) × (Nat → Int32) × (Nat → Int32) × (Nat → Int32) × (Nat → Int32) => ∃ c, c ≤ 32 ∧ q.1 = nI c) (fX3_deliver reached (nI n) words needs told rea wread ltold lout sets (nI r) (nI p)) := by
  have hz : zin (nI r) 6 = true := zin_nI hr (by decide)
  have hq : zin (nI p) 20 = true := zin_nI (by omega) (by decide)
  unfold fX3_deliver
  refine TP.b (t_missed needs told rea hr (by omega)) (fun q1 _ => TP.b (t_told hs q1) (fun q2 _ => ?_))
  rw [p_bitCount, Option.bind_some]
  exact TP.b (t_take told rea hr _ _) (fun _ _ => TP.i hz (TP.i hq (TP.b (t_lineWords hn words sets _) (fun _ _ => TP.i hz (TP.i hz (TP.i hz (TP.i hz (TP.b (t_bit _) (fun _ _ => TP.i hz ⟨_, rfl, zpop q2, zpop_le q2, rfl⟩)))))))))
theorem t_all_5 {n p : Nat} (hn : n ≤ 20) (hp : p < n) (words needs : Nat → Int32) {sets : Nat → Int32} (hs : tSets sets) (v2 : Int32) : ∀ (d j k c : Nat) (reached lost : Int32) (told rea wread ltold lout : Nat → Int32), j + d = 6 → d < k → c ≤ j → TP (fun q : Int32 × Int32 × Int32 × (Nat → Int32) × (Nat → Int32) × (Nat → Int32) × (Nat → Int32) × (Nat → Int32) => ∃ c, c ≤ 6 ∧ q.1 = nI c) (fX3_deliverToAll_5 k reached lost (nI n) words needs told rea wread ltold lout sets (nI p) v2 (nI c) (nI j))
  | 0, j, k + 1, c, reached, lost, told, rea, wread, ltold, lout, hj, _, hc => by
    have e : (6 : Int32) ≤ nI j := nI_le (a := 6) (by omega) (by omega)
    rw [fX3_deliverToAll_5.eq_2, if_pos e]
    exact ⟨_, rfl, c, by omega, rfl⟩
  | d + 1, j, k + 1, c, reached, lost, told, rea, wread, ltold, lout, hj, hk, hc => by
    have e : ¬ (6 : Int32) ≤ nI j := nI_ge (b := 6) (by omega) (by omega)
    rw [fX3_deliverToAll_5.eq_2, if_neg e, nI_1, nI_1]
    refine TP.b (t_hasRead rea (by omega) _) (fun _ _ => TP.c (fun _ => TP.b (t_isIn _ _) (fun _ _ => TP.c (fun _ => TP.p (t_deliver hn (by omega) hp reached words needs told rea wread ltold lout hs) (fun _ _ => ?_)) (fun _ => ?_))) (fun _ => ?_))
    · exact t_all_5 hn hp words needs hs v2 d (j + 1) k (c + 1) _ _ _ _ _ _ _ (by omega) (by omega) (by omega)
    · exact t_all_5 hn hp words needs hs v2 d (j + 1) k c _ _ _ _ _ _ _ (by omega) (by omega) (by omega)
    · exact t_all_5 hn hp words needs hs v2 d (j + 1) k c _ _ _ _ _ _ _ (by omega) (by omega) (by omega)
/-- what holds of every state -/
def zI (t : tSC) : Prop := ∃ n, n ≤ 20 ∧ t.2.2.1 = nI n ∧ (∀ j, j < 20 → ∃ x, x < 64 ∧ tf t.2.2.2.1 j = nI x) ∧ (∃ m, m < 20 ∧ tf t.2.2.2.2.2.2.2.2.2.2.2.2 0 = nI m) ∧ ∃ m, m < 21 ∧ tf t.2.2.2.2.2.2.2.2.2.2.2.2 1 = nI m
theorem zI_tN {c : zSC} {n : Nat} (hn : n ≤ 20) (hs : c.2.2.1 = nI n) (hp : ∀ j, j < 20 → ∃ x, x < 64 ∧ c.2.2.2.1 j = nI x) (h0 : ∃ m, m < 20 ∧ c.2.2.2.2.2.2.2.2.2.2.2.2 0 = nI m) (h1 : ∃ m, m < 21 ∧ c.2.2.2.2.2.2.2.2.2.2.2.2 1 = nI m) : zI (tN c) := by
  refine ⟨n, hn, hs, fun j hj => ?_, ?_, ?_⟩
  · obtain ⟨x, hx, e⟩ := hp j hj
    exact ⟨x, hx, (tf_tl hj).trans e⟩
  · obtain ⟨m, hm, e⟩ := h0
    exact ⟨m, hm, (tf_tl (by decide)).trans e⟩
  · obtain ⟨m, hm, e⟩ := h1
    exact ⟨m, hm, (tf_tl (by decide)).trans e⟩
/-- what an act did: refused, all as it was; or done, the state saved -/
def zR (b : zOb) (v : Int32) (b' : zOb) : Prop := (v < -1 ∧ b' = b) ∨ (¬ v < -1 ∧ ∃ t, zI t ∧ tN (tF t) = t ∧ b' = zPush b t)
theorem st_l {b : zOb} {w x1 x2 x3 : Int32} {E : String} (h : s_call b w x1 x2 x3 = some (.inl E, b)) (hE : E = "java/lang/IllegalArgumentException" ∨ E = "java/lang/IllegalStateException" ∨ E = "java/lang/IndexOutOfBoundsException") : ∃ v b', s_told b w x1 x2 x3 = some (v, b') ∧ zR b v b' := by
  rcases hE with rfl | rfl | rfl
  · exact ⟨-11, b, s_refuse h (by decide +kernel), Or.inl ⟨by decide, rfl⟩⟩
  · exact ⟨-12, b, s_refuse h (by decide +kernel), Or.inl ⟨by decide, rfl⟩⟩
  · exact ⟨-13, b, s_refuse h (by decide +kernel), Or.inl ⟨by decide, rfl⟩⟩
theorem st_r {b : zOb} {w x1 x2 x3 v : Int32} {c : zSC} (h : s_call b w x1 x2 x3 = some (.inr v, zPush b (tN c))) (hv : ¬ v < -1) (hI : zI (tN c)) : ∃ v b', s_told b w x1 x2 x3 = some (v, b') ∧ zR b v b' := by
  refine ⟨v, zPush b (tN c), ?_, Or.inr ⟨hv, tN c, hI, tN_tN c, rfl⟩⟩
  unfold s_told
  rw [h]
  rfl
theorem upd_at (f : Nat → Int32) (k : Nat) (x : Int32) (j : Nat) : upd f k x j = if j = k then x else f j := rfl
theorem cp_all : ∀ x, x < 63 → fX6_checkPlots (nI (x + 1)) (-1) = some (.inr ()) := by decide +kernel
theorem c_npart {p n : Nat} (h : n ≤ p) (hp : p < 2 ^ 31) : fX6_checkPart (nI n) (nI p) = some (.inl "java/lang/IndexOutOfBoundsException") := by
  unfold fX6_checkPart
  rw [if_neg (nI_pos hp), if_neg (nI_nlt h hp)]
theorem st_add {b : zOb} (hI : zI b.1) {x y : Nat} (hx : x < 63) (hy : y < 99) : ∃ v b', s_told b 0 (nI (x + 1)) (-1) (nI (y + 1)) = some (v, b') ∧ zR b v b' := by
  obtain ⟨n, hn, hs, hp, h0, h1⟩ := hI
  have hs : (tF b.1).2.2.1 = nI n := hs
  have e1 : ¬ nI (y + 1) < 1 := nI_nlt (b := 1) (by omega) (by omega)
  have e2 : nI (y + 1) ≤ 99 := nI_le (b := 99) (by omega) (by decide)
  by_cases h20 : n < 20
  · have e3 : nI n < 20 := nI_lt (b := 20) h20 (by decide)
    obtain ⟨q, hq, q1, q2⟩ := t_put h20 (tF b.1).2.2.2.1 (tF b.1).2.2.2.2.1 (tF b.1).2.2.2.2.2.1 (tF b.1).2.2.2.2.2.2.1 (nI (x + 1)) (-1) (nI (y + 1))
    have hf : fX6_add (tF b.1).2.2.1 (tF b.1).2.2.2.1 (tF b.1).2.2.2.2.1 (tF b.1).2.2.2.2.2.1 (tF b.1).2.2.2.2.2.2.1 (nI (x + 1)) (-1) (nI (y + 1)) = some (.inr (q.1 - 1, q.1, q.2.1, q.2.2.1, q.2.2.2.1, q.2.2.2.2)) := by
      unfold fX6_add
      rw [cp_all x hx]
      show (if _ then _ else _) = _
      rw [if_neg e1, if_pos e2, hs, if_pos e3, hq]
      rfl
    refine st_r (v := q.1 - 1) (by rw [sc_0]; unfold s_add; rw [hf]; rfl) (by rw [q1, nI_pred]; exact n_ok (by omega)) ?_
    refine zI_tN (n := n + 1) (by omega) q1 (fun j hj => ?_) h0 h1
    show ∃ z, z < 64 ∧ q.2.1 j = nI z
    rw [q2, upd_at]
    by_cases hj2 : j = n
    · rw [if_pos hj2]
      exact ⟨x + 1, by omega, rfl⟩
    · rw [if_neg hj2]
      exact hp j hj
  · have e3 : ¬ nI n < 20 := nI_nlt (b := 20) (by omega) (by omega)
    have hf : fX6_add (tF b.1).2.2.1 (tF b.1).2.2.2.1 (tF b.1).2.2.2.2.1 (tF b.1).2.2.2.2.2.1 (tF b.1).2.2.2.2.2.2.1 (nI (x + 1)) (-1) (nI (y + 1)) = some (.inl "java/lang/IllegalStateException") := by
      unfold fX6_add
      rw [cp_all x hx]
      show (if _ then _ else _) = _
      rw [if_neg e1, if_pos e2, hs, if_neg e3]
    exact st_l (by rw [sc_0]; unfold s_add; rw [hf]; rfl) (Or.inr (Or.inl rfl))
theorem st_change {b : zOb} (hI : zI b.1) {p x : Nat} (hp9 : p < 12) (hx : x < 63) : ∃ v b', s_told b 1 (nI p) (nI (x + 1)) (-1) = some (v, b') ∧ zR b v b' := by
  obtain ⟨n, hn, hs, hp, h0, h1⟩ := hI
  have hs : (tF b.1).2.2.1 = nI n := hs
  by_cases hpn : p < n
  · obtain ⟨q, hq, q1, q2⟩ := t_rew hn hpn (tF b.1).2.2.2.1 (tF b.1).2.2.2.2.1 (tF b.1).2.2.2.2.2.2.1 (nI (x + 1)) (-1)
    have hf : fX6_change (tF b.1).2.2.1 (tF b.1).2.2.2.1 (tF b.1).2.2.2.2.1 (tF b.1).2.2.2.2.2.2.1 (nI p) (nI (x + 1)) (-1) = some (.inr (q.1, q.2.1, q.2.2.1, q.2.2.2)) := by
      unfold fX6_change
      rw [hs, c_part hpn hn, cp_all x hx, hq]
      rfl
    obtain ⟨z, hz, ez⟩ := hp p (by omega)
    have ez : (tF b.1).2.2.2.1 p = nI z := ez
    refine st_r (v := q.1) (by rw [sc_1]; unfold s_change; rw [hf]; rfl) (by rw [q1, ez]; exact n_ok (by omega)) ?_
    refine zI_tN (n := n) hn hs (fun j hj => ?_) h0 h1
    show ∃ z, z < 64 ∧ q.2.1 j = nI z
    rw [q2, upd_at]
    by_cases hj2 : j = p
    · rw [if_pos hj2]
      exact ⟨x + 1, by omega, rfl⟩
    · rw [if_neg hj2]
      exact hp j hj
  · have hf : fX6_change (tF b.1).2.2.1 (tF b.1).2.2.2.1 (tF b.1).2.2.2.2.1 (tF b.1).2.2.2.2.2.2.1 (nI p) (nI (x + 1)) (-1) = some (.inl "java/lang/IndexOutOfBoundsException") := by
      unfold fX6_change
      rw [hs, c_npart (by omega) (by omega)]
      rfl
    exact st_l (by rw [sc_1]; unfold s_change; rw [hf]; rfl) (Or.inr (Or.inr rfl))
theorem st_removeLast {b : zOb} (hI : zI b.1)  : ∃ v b', s_told b 2 0 0 0 = some (v, b') ∧ zR b v b' := by
  obtain ⟨n, hn, hs, hp, h0, h1⟩ := hI
  have hs : (tF b.1).2.2.1 = nI n := hs
  by_cases hn0 : n = 0
  · have hf : fX6_removeLast (tF b.1).2.2.1 (tF b.1).2.2.2.2.2.2.2.1 (tF b.1).2.2.2.2.2.2.2.2.1  = some (.inl "java/lang/IllegalStateException") := by
      unfold fX6_removeLast
      rw [hs, hn0, if_neg (by decide)]
    exact st_l (by rw [sc_2]; unfold s_removeLast; rw [hf]; rfl) (Or.inr (Or.inl rfl))
  · have e1 : (1 : Int32) ≤ nI n := nI_le (a := 1) (by omega) (by omega)
    obtain ⟨N, rfl⟩ : ∃ N, n = N + 1 := ⟨n - 1, by omega⟩
    obtain ⟨q1, hq1⟩ := t_whoRead (tF b.1).2.2.2.2.2.2.2.2.1 (nI N)
    obtain ⟨q3, hq3⟩ := t_drop (tF b.1).2.2.2.2.2.2.2.1 (tF b.1).2.2.2.2.2.2.2.2.1 (nI N)
    have hf : fX6_removeLast (tF b.1).2.2.1 (tF b.1).2.2.2.2.2.2.2.1 (tF b.1).2.2.2.2.2.2.2.2.1  = some (.inr (nI (zpop q1), nI N, q3.1, q3.2)) := by
      unfold fX6_removeLast
      rw [hs, if_pos e1, nI_pred, hq1, Option.bind_some, p_bitCount, Option.bind_some, hq3]
      rfl
    have hz := zpop_le q1
    refine st_r (v := nI (zpop q1)) (by rw [sc_2]; unfold s_removeLast; rw [hf]; rfl) (n_ok (by omega)) ?_
    exact zI_tN (n := N) (by omega) rfl hp h0 h1
theorem f_set0 (sets : Nat → Int32) {y : Nat} (hy : y < 22) : fX6_set sets 0 (nI y) = if y ≤ 19 then some (.inr (sets 0, upd sets 0 (nI y))) else some (.inl "java/lang/IllegalArgumentException") := by
  unfold fX6_set
  rw [show fX6_checkSetting 0 = some (.inr ()) by decide +kernel]
  show (if _ then _ else _) = _
  rw [if_neg (nI_pos (by omega))]
  by_cases h : y ≤ 19
  · have e : nI y ≤ 19 := nI_le (b := 19) h (by decide)
    rw [if_pos e, if_pos h]
    rfl
  · have e : ¬ nI y ≤ 19 := nI_ge (a := 19) (by omega) (by omega)
    rw [if_neg e, if_neg h]
theorem f_set1 (sets : Nat → Int32) {y : Nat} (hy : y < 22) : fX6_set sets 1 (nI y) = if 1 ≤ y ∧ y ≤ 20 then some (.inr (sets 1, upd sets 1 (nI y))) else some (.inl "java/lang/IllegalArgumentException") := by
  unfold fX6_set
  rw [show fX6_checkSetting 1 = some (.inr ()) by decide +kernel]
  show (if _ then _ else _) = _
  by_cases h0 : y = 0
  · subst h0
    rw [if_pos (by decide), if_neg (by omega)]
  · have e1 : ¬ nI y < 1 := nI_nlt (b := 1) (by omega) (by omega)
    rw [if_neg e1]
    by_cases h : y ≤ 20
    · have e : nI y ≤ 20 := nI_le (b := 20) h (by decide)
      rw [if_pos e, if_pos (show 1 ≤ y ∧ y ≤ 20 from ⟨by omega, h⟩)]
      rfl
    · have e : ¬ nI y ≤ 20 := nI_ge (a := 20) (by omega) (by omega)
      rw [if_neg e, if_neg (by omega)]
theorem st_set {b : zOb} (hI : zI b.1) {i y : Nat} (hi : i < 2) (hy : y < 22) : ∃ v b', s_told b 3 (nI i) (nI y) 0 = some (v, b') ∧ zR b v b' := by
  obtain ⟨n, hn, hs, hp, h0, h1⟩ := hI
  have hs : (tF b.1).2.2.1 = nI n := hs
  obtain ⟨m0, hm0, em0⟩ := h0
  obtain ⟨m1, hm1, em1⟩ := h1
  have em0 : (tF b.1).2.2.2.2.2.2.2.2.2.2.2.2 0 = nI m0 := em0
  have em1 : (tF b.1).2.2.2.2.2.2.2.2.2.2.2.2 1 = nI m1 := em1
  have hi2 : i = 0 ∨ i = 1 := by omega
  rcases hi2 with rfl | rfl
  · have hf := f_set0 (tF b.1).2.2.2.2.2.2.2.2.2.2.2.2 hy
    by_cases h : y ≤ 19
    · rw [if_pos h] at hf
      refine st_r (v := (tF b.1).2.2.2.2.2.2.2.2.2.2.2.2 0) (by rw [sc_3]; unfold s_set; rw [show nI 0 = 0 from rfl, hf]; rfl) (by rw [em0]; exact n_ok (by omega)) ?_
      exact zI_tN (n := n) hn hs hp ⟨y, by omega, rfl⟩ ⟨m1, hm1, em1⟩
    · rw [if_neg h] at hf
      exact st_l (by rw [sc_3]; unfold s_set; rw [show nI 0 = 0 from rfl, hf]; rfl) (Or.inl rfl)
  · have hf := f_set1 (tF b.1).2.2.2.2.2.2.2.2.2.2.2.2 hy
    by_cases h : 1 ≤ y ∧ y ≤ 20
    · rw [if_pos h] at hf
      refine st_r (v := (tF b.1).2.2.2.2.2.2.2.2.2.2.2.2 1) (by rw [sc_3]; unfold s_set; rw [show nI 1 = 1 from rfl, hf]; rfl) (by rw [em1]; exact n_ok (by omega)) ?_
      exact zI_tN (n := n) hn hs hp ⟨m0, hm0, em0⟩ ⟨y, by omega, rfl⟩
    · rw [if_neg h] at hf
      exact st_l (by rw [sc_3]; unfold s_set; rw [show nI 1 = 1 from rfl, hf]; rfl) (Or.inl rfl)
theorem st_mail {b : zOb} (hI : zI b.1) {r p : Nat} (hr : r < 6) (hp9 : p < 12) : ∃ v b', s_told b 4 (nI r) (nI p) 0 = some (v, b') ∧ zR b v b' := by
  obtain ⟨n, hn, hs, hp, h0, h1⟩ := hI
  have hs : (tF b.1).2.2.1 = nI n := hs
  by_cases hpn : p < n
  · obtain ⟨q3, hq3⟩ := t_hasRead (tF b.1).2.2.2.2.2.2.2.2.1 hr (nI p)
    by_cases h3 : q3 = 0
    · obtain ⟨q, hq, c, hc, ec⟩ := t_deliver hn hr hpn (tF b.1).1 (tF b.1).2.2.2.2.2.1 (tF b.1).2.2.2.2.2.2.1 (tF b.1).2.2.2.2.2.2.2.1 (tF b.1).2.2.2.2.2.2.2.2.1 (tF b.1).2.2.2.2.2.2.2.2.2.1 (tF b.1).2.2.2.2.2.2.2.2.2.2.1 (tF b.1).2.2.2.2.2.2.2.2.2.2.2.1 (sets := (tF b.1).2.2.2.2.2.2.2.2.2.2.2.2) h0
      have hf : fX6_mail (tF b.1).1 (tF b.1).2.2.1 (tF b.1).2.2.2.2.2.1 (tF b.1).2.2.2.2.2.2.1 (tF b.1).2.2.2.2.2.2.2.1 (tF b.1).2.2.2.2.2.2.2.2.1 (tF b.1).2.2.2.2.2.2.2.2.2.1 (tF b.1).2.2.2.2.2.2.2.2.2.2.1 (tF b.1).2.2.2.2.2.2.2.2.2.2.2.1 (tF b.1).2.2.2.2.2.2.2.2.2.2.2.2 (nI r) (nI p) = some (.inr (q.1, q.2.1, q.2.2.1, q.2.2.2.1, q.2.2.2.2.1, q.2.2.2.2.2.1, q.2.2.2.2.2.2)) := by
        unfold fX6_mail
        rw [hs, c_reader hr, c_part hpn hn, hq3]
        show (if _ then _ else _) = _
        rw [if_pos h3, hq]
        rfl
      refine st_r (v := q.1) (by rw [sc_4]; unfold s_mail; rw [hf]; rfl) (by rw [ec]; exact n_ok (by omega)) ?_
      exact zI_tN (n := n) hn hs hp h0 h1
    · have hf : fX6_mail (tF b.1).1 (tF b.1).2.2.1 (tF b.1).2.2.2.2.2.1 (tF b.1).2.2.2.2.2.2.1 (tF b.1).2.2.2.2.2.2.2.1 (tF b.1).2.2.2.2.2.2.2.2.1 (tF b.1).2.2.2.2.2.2.2.2.2.1 (tF b.1).2.2.2.2.2.2.2.2.2.2.1 (tF b.1).2.2.2.2.2.2.2.2.2.2.2.1 (tF b.1).2.2.2.2.2.2.2.2.2.2.2.2 (nI r) (nI p) = some (.inl "java/lang/IllegalStateException") := by
        unfold fX6_mail
        rw [hs, c_reader hr, c_part hpn hn, hq3]
        show (if _ then _ else _) = _
        rw [if_neg h3]
      exact st_l (by rw [sc_4]; unfold s_mail; rw [hf]; rfl) (Or.inr (Or.inl rfl))
  · have hf : fX6_mail (tF b.1).1 (tF b.1).2.2.1 (tF b.1).2.2.2.2.2.1 (tF b.1).2.2.2.2.2.2.1 (tF b.1).2.2.2.2.2.2.2.1 (tF b.1).2.2.2.2.2.2.2.2.1 (tF b.1).2.2.2.2.2.2.2.2.2.1 (tF b.1).2.2.2.2.2.2.2.2.2.2.1 (tF b.1).2.2.2.2.2.2.2.2.2.2.2.1 (tF b.1).2.2.2.2.2.2.2.2.2.2.2.2 (nI r) (nI p) = some (.inl "java/lang/IndexOutOfBoundsException") := by
      unfold fX6_mail
      rw [hs, c_reader hr, c_npart (by omega) (by omega)]
      rfl
    exact st_l (by rw [sc_4]; unfold s_mail; rw [hf]; rfl) (Or.inr (Or.inr rfl))
theorem st_mailAll {b : zOb} (hI : zI b.1) {p x : Nat} (hp9 : p < 12) (hx : x < 64) : ∃ v b', s_told b 5 (nI p) (nI x) 0 = some (v, b') ∧ zR b v b' := by
  obtain ⟨n, hn, hs, hp, h0, h1⟩ := hI
  have hs : (tF b.1).2.2.1 = nI n := hs
  have e1 : nI x ≤ 63 := nI_le (b := 63) (by omega) (by decide)
  by_cases hpn : p < n
  · obtain ⟨q, hq, c, hc, ec⟩ := t_all_5 hn hpn (tF b.1).2.2.2.2.2.1 (tF b.1).2.2.2.2.2.2.1 (sets := (tF b.1).2.2.2.2.2.2.2.2.2.2.2.2) h0 (nI x) 6 0 zfuel 0 (tF b.1).1 (tF b.1).2.1 (tF b.1).2.2.2.2.2.2.2.1 (tF b.1).2.2.2.2.2.2.2.2.1 (tF b.1).2.2.2.2.2.2.2.2.2.1 (tF b.1).2.2.2.2.2.2.2.2.2.2.1 (tF b.1).2.2.2.2.2.2.2.2.2.2.2.1 rfl (by decide) (by decide)
    have hq : fX3_deliverToAll (tF b.1).1 (tF b.1).2.1 (nI n) (tF b.1).2.2.2.2.2.1 (tF b.1).2.2.2.2.2.2.1 (tF b.1).2.2.2.2.2.2.2.1 (tF b.1).2.2.2.2.2.2.2.2.1 (tF b.1).2.2.2.2.2.2.2.2.2.1 (tF b.1).2.2.2.2.2.2.2.2.2.2.1 (tF b.1).2.2.2.2.2.2.2.2.2.2.2.1 (tF b.1).2.2.2.2.2.2.2.2.2.2.2.2 (nI p) (nI x) = some q := hq
    have hf : fX6_mailAll (tF b.1).1 (tF b.1).2.1 (tF b.1).2.2.1 (tF b.1).2.2.2.2.2.1 (tF b.1).2.2.2.2.2.2.1 (tF b.1).2.2.2.2.2.2.2.1 (tF b.1).2.2.2.2.2.2.2.2.1 (tF b.1).2.2.2.2.2.2.2.2.2.1 (tF b.1).2.2.2.2.2.2.2.2.2.2.1 (tF b.1).2.2.2.2.2.2.2.2.2.2.2.1 (tF b.1).2.2.2.2.2.2.2.2.2.2.2.2 (nI p) (nI x) = some (.inr (q.1, q.2.1, q.2.2.1, q.2.2.2.1, q.2.2.2.2.1, q.2.2.2.2.2.1, q.2.2.2.2.2.2.1, q.2.2.2.2.2.2.2)) := by
      unfold fX6_mailAll
      rw [hs, c_part hpn hn]
      show (if _ then _ else _) = _
      rw [if_neg (nI_pos (by omega)), if_pos e1, hq]
      rfl
    refine st_r (v := q.1) (by rw [sc_5]; unfold s_mailAll; rw [hf]; rfl) (by rw [ec]; exact n_ok (by omega)) ?_
    exact zI_tN (n := n) hn hs hp h0 h1
  · have hf : fX6_mailAll (tF b.1).1 (tF b.1).2.1 (tF b.1).2.2.1 (tF b.1).2.2.2.2.2.1 (tF b.1).2.2.2.2.2.2.1 (tF b.1).2.2.2.2.2.2.2.1 (tF b.1).2.2.2.2.2.2.2.2.1 (tF b.1).2.2.2.2.2.2.2.2.2.1 (tF b.1).2.2.2.2.2.2.2.2.2.2.1 (tF b.1).2.2.2.2.2.2.2.2.2.2.2.1 (tF b.1).2.2.2.2.2.2.2.2.2.2.2.2 (nI p) (nI x) = some (.inl "java/lang/IndexOutOfBoundsException") := by
      unfold fX6_mailAll
      rw [hs, c_npart (by omega) (by omega)]
      rfl
    exact st_l (by rw [sc_5]; unfold s_mailAll; rw [hf]; rfl) (Or.inr (Or.inr rfl))
theorem st_forget {b : zOb} (hI : zI b.1) {r : Nat} (hr : r < 6) : ∃ v b', s_told b 6 (nI r) 0 0 = some (v, b') ∧ zR b v b' := by
  obtain ⟨n, hn, hs, hp, h0, h1⟩ := hI
  have hs : (tF b.1).2.2.1 = nI n := hs
  have hz : zin (nI r) 6 = true := zin_nI hr (by decide)
  have hf : fX6_forget (tF b.1).2.2.2.2.2.2.2.1 (nI r) = some (.inr (nI (zpop ((tF b.1).2.2.2.2.2.2.2.1 (nI r).toNatClampNeg)), upd (tF b.1).2.2.2.2.2.2.2.1 (nI r).toNatClampNeg 0)) := by
    unfold fX6_forget
    rw [c_reader hr]
    show (fX0_dropTold _ _).bind _ = _
    unfold fX0_dropTold
    rw [if_pos hz, p_bitCount, Option.bind_some, if_pos hz]
    rfl
  have hq := zpop_le ((tF b.1).2.2.2.2.2.2.2.1 (nI r).toNatClampNeg)
  refine st_r (v := nI (zpop ((tF b.1).2.2.2.2.2.2.2.1 (nI r).toNatClampNeg))) (by rw [sc_6]; unfold s_forget; rw [hf]; rfl) (n_ok (by omega)) ?_
  exact zI_tN (n := n) hn hs hp h0 h1
