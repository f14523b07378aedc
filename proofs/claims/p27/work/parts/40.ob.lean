/-! THE OBJECT BY TABLES: its state as lists of numbers, the saved ones, the buffer -/
def tf (L : List Int32) : Nat → Int32 := fun j => L.getD j 0
def tl (f : Nat → Int32) : Nat → Nat → List Int32
  | 0, _ => []
  | n + 1, j => f j :: tl f n (j + 1)
theorem tl_get (f : Nat → Int32) : ∀ (n j k : Nat), k < n → (tl f n j).getD k 0 = f (j + k)
  | n + 1, j, 0, _ => rfl
  | n + 1, j, k + 1, h => by
    show (tl f n (j + 1)).getD k 0 = _
    rw [tl_get f n (j + 1) k (by omega)]
    exact congrArg f (by omega)
theorem tf_tl {f : Nat → Int32} {n k : Nat} (h : k < n) : tf (tl f n 0) k = f k := by
  have h1 := tl_get f n 0 k h
  rw [Nat.zero_add] at h1
  exact h1
theorem tl_ext {f g : Nat → Int32} : ∀ (n j : Nat), (∀ k, j ≤ k → k < j + n → f k = g k) → tl f n j = tl g n j
  | 0, _, _ => rfl
  | n + 1, j, h => by
    show f j :: tl f n (j + 1) = g j :: tl g n (j + 1)
    rw [h j (Nat.le_refl j) (by omega), tl_ext n (j + 1) (fun k h1 h2 => h k (by omega) (by omega))]
theorem tl_tl (f : Nat → Int32) (n : Nat) : tl (tf (tl f n 0)) n 0 = tl f n 0 := tl_ext n 0 (fun k _ h => tf_tl (by omega))
abbrev tSC : Type := Int32 × Int32 × Int32 × List Int32 × List Int32 × List Int32 × List Int32 × List Int32 × List Int32 × List Int32 × List Int32 × List Int32 × List Int32
def tF (t : tSC) : zSC := (t.1, t.2.1, t.2.2.1, tf t.2.2.2.1, tf t.2.2.2.2.1, tf t.2.2.2.2.2.1, tf t.2.2.2.2.2.2.1, tf t.2.2.2.2.2.2.2.1, tf t.2.2.2.2.2.2.2.2.1, tf t.2.2.2.2.2.2.2.2.2.1, tf t.2.2.2.2.2.2.2.2.2.2.1, tf t.2.2.2.2.2.2.2.2.2.2.2.1, tf t.2.2.2.2.2.2.2.2.2.2.2.2)
def tN (c : zSC) : tSC := (c.1, c.2.1, c.2.2.1, tl c.2.2.2.1 20 0, tl c.2.2.2.2.1 20 0, tl c.2.2.2.2.2.1 20 0, tl c.2.2.2.2.2.2.1 20 0, tl c.2.2.2.2.2.2.2.1 6 0, tl c.2.2.2.2.2.2.2.2.1 6 0, tl c.2.2.2.2.2.2.2.2.2.1 6 0, tl c.2.2.2.2.2.2.2.2.2.2.1 6 0, tl c.2.2.2.2.2.2.2.2.2.2.2.1 6 0, tl c.2.2.2.2.2.2.2.2.2.2.2.2 2 0)
theorem tN_tN (c : zSC) : tN (tF (tN c)) = tN c := by
  unfold tN tF
  simp only [tl_tl]
theorem tl_cpy (f g : Nat → Int32) {N : Int32} {n : Nat} (hN : N.toNatClampNeg = n) : tl (va_cpy f g (0 : Int32).toNatClampNeg (0 : Int32).toNatClampNeg N.toNatClampNeg) n 0 = tl f n 0 := tl_ext n 0 (fun k _ h => by
  have e0 : (0 : Int32).toNatClampNeg = 0 := rfl
  unfold va_cpy
  rw [e0, hN, if_pos ⟨Nat.zero_le k, by omega⟩]
  exact congrArg f (by omega))
theorem tN_zcp (a b : zSC) : tN (zcp a b) = tN b := by
  unfold tN zcp
  simp only []
  rw [tl_cpy _ _ (n := 20) rfl, tl_cpy _ _ (n := 20) rfl, tl_cpy _ _ (n := 20) rfl, tl_cpy _ _ (n := 20) rfl, tl_cpy _ _ (n := 6) rfl, tl_cpy _ _ (n := 6) rfl, tl_cpy _ _ (n := 6) rfl, tl_cpy _ _ (n := 6) rfl, tl_cpy _ _ (n := 6) rfl, tl_cpy _ _ (n := 2) rfl]
/-- cells that hold no less -/
def zc (Δ : zE) (q q' : Nat × va_E) : Prop := q'.1 = q.1 ∧ ∀ H : Heap, va_at Δ.1 vwCl q H → va_at Δ.1 vwCl q' H
def zSame (Δ : zE) (w w' : va_W) : Prop := w'.map Prod.fst = w.map Prod.fst ∧ ∀ H : Heap, va_P Δ.1 vwCl w H → va_P Δ.1 vwCl w' H
theorem zSame.rf {Δ : zE} {w : va_W} : zSame Δ w w := ⟨rfl, fun _ h => h⟩
theorem zc.rf {Δ : zE} {q : Nat × va_E} : zc Δ q q := ⟨rfl, fun _ h => h⟩
theorem zSame.cons {Δ : zE} {q q' : Nat × va_E} {w w' : va_W} (h1 : zc Δ q q') (h2 : zSame Δ w w') : zSame Δ (q :: w) (q' :: w') := by
  refine ⟨by rw [List.map_cons, List.map_cons, h1.1, h2.1], fun H h k x hx => ?_⟩
  match k, hx with
  | 0, hx =>
    obtain rfl := Option.some.inj hx
    exact h1.2 H (h 0 q rfl)
  | k + 1, hx => exact h2.2 H (fun j y hy => h (j + 1) y hy) k x hx
theorem va_P_left {D : va_G} {cl : List vw_C} {a b : va_W} {H : Heap} (h : va_P D cl (a ++ b) H) : va_P D cl a H := fun k q hq => h k q (by rw [List.getElem?_append_left (List.getElem?_eq_some_iff.mp hq).1]; exact hq)
theorem va_P_right {D : va_G} {cl : List vw_C} {a b : va_W} {H : Heap} (h : va_P D cl (a ++ b) H) : va_P D cl b H := fun k q hq => h (a.length + k) q (by rw [List.getElem?_append_right (Nat.le_add_right _ _), Nat.add_sub_cancel_left]; exact hq)
theorem zSame.app {Δ : zE} {a a' b b' : va_W} (h1 : zSame Δ a a') (h2 : zSame Δ b b') : zSame Δ (a ++ b) (a' ++ b') :=
  ⟨by rw [List.map_append, List.map_append, h1.1, h2.1], fun H h => va_P.app (h1.2 H (va_P_left h)) (h2.2 H (va_P_right h))⟩
theorem zc_arr {Δ : zE} {a n : Nat} {cid : ClassId} {f g : Nat → Int32} (h : ∀ j, j < n → g j = f j) : zc Δ (a, .inl (cid, n, .inl f)) (a, .inl (cid, n, .inl g)) := by
  refine ⟨rfl, fun H h1 => ?_⟩
  have e : vp_cell cid (n, .inl g) = vp_cell cid (n, .inl f) := by
    rw [vp_cell_i, vp_cell_i]
    unfold arrV
    congr 2
    funext j
    exact congrArg Value.int (h j.val j.isLt)
  have h2 : H[a]? = some (vp_cell cid (n, .inl f)) := h1
  show H[a]? = some (vp_cell cid (n, .inl g))
  rw [e]
  exact h2
theorem zW.same {Δ : zE} {A : Nat → Prop} {H0 H : Heap} {ws ws' : va_W} {locs : List Loc} (Z : zW Δ A H0 ws H locs) (h : zSame Δ ws ws') : zW Δ A H0 ws' H locs := ⟨h.2 H Z.1, va_D_fst h.1 Z.2.1, Z.2.2⟩
theorem zS_X6 {Δ : zE} (ad : Nat → Nat) (c : zSC) (ok kk : Int32) (rows : Nat → Option Nat) (len : Int32) {codes codes' : Nat → Int32} (hc : ∀ j, j < 60 → codes' j = codes j) (g1 g2 g3 g4 : Int32) : zSame Δ (wX6 Δ ad c.1 c.2.1 c.2.2.1 c.2.2.2.1 c.2.2.2.2.1 c.2.2.2.2.2.1 c.2.2.2.2.2.2.1 c.2.2.2.2.2.2.2.1 c.2.2.2.2.2.2.2.2.1 c.2.2.2.2.2.2.2.2.2.1 c.2.2.2.2.2.2.2.2.2.2.1 c.2.2.2.2.2.2.2.2.2.2.2.1 c.2.2.2.2.2.2.2.2.2.2.2.2 ok kk rows len codes g1 g2 g3 g4) (wX6 Δ ad (tF (tN c)).1 (tF (tN c)).2.1 (tF (tN c)).2.2.1 (tF (tN c)).2.2.2.1 (tF (tN c)).2.2.2.2.1 (tF (tN c)).2.2.2.2.2.1 (tF (tN c)).2.2.2.2.2.2.1 (tF (tN c)).2.2.2.2.2.2.2.1 (tF (tN c)).2.2.2.2.2.2.2.2.1 (tF (tN c)).2.2.2.2.2.2.2.2.2.1 (tF (tN c)).2.2.2.2.2.2.2.2.2.2.1 (tF (tN c)).2.2.2.2.2.2.2.2.2.2.2.1 (tF (tN c)).2.2.2.2.2.2.2.2.2.2.2.2 ok kk rows len codes' g1 g2 g3 g4) := by
  unfold wX6
  exact zSame.cons zc.rf (zSame.cons zc.rf (zSame.cons zc.rf (zSame.cons (zc_arr fun _ h => tf_tl h) (zSame.cons (zc_arr fun _ h => tf_tl h) (zSame.cons (zc_arr fun _ h => tf_tl h) (zSame.cons (zc_arr fun _ h => tf_tl h) (zSame.cons zc.rf (zSame.cons (zc_arr fun _ h => tf_tl h) (zSame.cons (zc_arr fun _ h => tf_tl h) (zSame.cons (zc_arr fun _ h => tf_tl h) (zSame.cons (zc_arr fun _ h => tf_tl h) (zSame.cons (zc_arr fun _ h => tf_tl h) (zSame.cons (zc_arr fun _ h => tf_tl h) (zSame.cons zc.rf (zSame.cons zc.rf (zSame.cons zc.rf (zSame.cons (zc_arr hc) (zSame.cons zc.rf zSame.rf))))))))))))))))))
/-- the saved states, the latest first -/
def zHl (o k n : Nat) (σ : Nat → zSC) (hs : List tSC) : Prop := zH o k n ∧ hs.length = k ∧ ∀ i t, hs[i]? = some t → t = tN (σ ((o + k - 1 - i) % 6))
/-- the object: state, saved states, length of the buffer, buffer -/
abbrev zOb : Type := tSC × List tSC × Int32 × List Int32
/-- the cells of an object whose first is at a -/
def wOb (Δ : zE) (a : Nat) (b : zOb) (ws : va_W) : Prop := ∃ (ad : Nat → Nat) (α : Nat → Nat → Nat) (o k n : Nat) (σ : Nat → zSC) (g1 g2 g3 g4 : Int32), ad 0 = a ∧ tN (tF b.1) = b.1 ∧ zHl o k n σ b.2.1 ∧ ws = wX6 Δ ad (tF b.1).1 (tF b.1).2.1 (tF b.1).2.2.1 (tF b.1).2.2.2.1 (tF b.1).2.2.2.2.1 (tF b.1).2.2.2.2.2.1 (tF b.1).2.2.2.2.2.2.1 (tF b.1).2.2.2.2.2.2.2.1 (tF b.1).2.2.2.2.2.2.2.2.1 (tF b.1).2.2.2.2.2.2.2.2.2.1 (tF b.1).2.2.2.2.2.2.2.2.2.2.1 (tF b.1).2.2.2.2.2.2.2.2.2.2.2.1 (tF b.1).2.2.2.2.2.2.2.2.2.2.2.2 (nI o) (nI k) (zRows n α) b.2.2.1 (tf b.2.2.2) g1 g2 g3 g4 ++ zPool Δ n α σ
theorem wOb.head {Δ : zE} {a : Nat} {b : zOb} {ws wr : va_W} (h : wOb Δ a b ws) : ∃ fs : List Value, (ws ++ wr)[0]? = some (a, .inr (6, fs)) := by
  obtain ⟨ad, α, o, k, n, σ, g1, g2, g3, g4, rfl, h1, h2, rfl⟩ := h
  exact ⟨_, rfl⟩
theorem zHl.push {o k n : Nat} {σ : Nat → zSC} {hs : List tSC} (h : zHl o k n σ hs) {t : tSC} (ht : tN (tF t) = t) : zHl (zo o k) (zk k + 1) (zn n (zp o k)) (zkeep o k n σ (tF t)) ((t :: hs).take 6) := by
  obtain ⟨hH, hl, hi⟩ := h
  have hk6 := hH.2.1
  have ho := hH.1
  refine ⟨zH_keep hH, ?_, fun i u hu => ?_⟩
  · rw [List.length_take, List.length_cons, hl]
    unfold zk
    by_cases h6 : k = 6
    · rw [if_pos h6]; omega
    · rw [if_neg h6]; omega
  · have hi6 : i < 6 := by
      have h1 := (List.getElem?_eq_some_iff.mp hu).1
      rw [List.length_take] at h1
      omega
    rw [List.getElem?_take, if_pos hi6] at hu
    unfold zkeep
    match i, hu with
    | 0, hu =>
      obtain rfl := Option.some.inj hu
      rw [if_pos (show (zo o k + (zk k + 1) - 1 - 0) % 6 = zp o k by unfold zp; congr 1), tN_zcp, ht]
    | i + 1, hu =>
      have h1 : hs[i]? = some u := hu
      have hil : i < k := by rw [← hl]; exact (List.getElem?_eq_some_iff.mp h1).1
      have h2 := hi i u h1
      have hne : ¬ (zo o k + (zk k + 1) - 1 - (i + 1)) % 6 = zp o k := by
        unfold zp zo zk
        by_cases h6 : k = 6
        · rw [if_pos h6, if_pos h6]; omega
        · rw [if_neg h6, if_neg h6]; omega
      rw [if_neg hne, h2]
      congr 2
      unfold zo zk
      by_cases h6 : k = 6
      · rw [if_pos h6, if_pos h6]; omega
      · rw [if_neg h6, if_neg h6]; omega
theorem zHl.pop {o k n : Nat} {σ : Nat → zSC} {t : tSC} {hs : List tSC} (h : zHl o k n σ (t :: hs)) : ¬ k = 0 ∧ k - 1 = hs.length ∧ t = tN (σ (zl o k)) ∧ zHl o (k - 1) n σ hs := by
  obtain ⟨⟨h1, h2, h3, h4, h5⟩, hl, hi⟩ := h
  have hl2 : hs.length + 1 = k := hl
  refine ⟨by omega, by omega, ?_, ⟨h1, by omega, h3, by omega, h5⟩, by omega, fun i u hu => ?_⟩
  · have h6 := hi 0 t rfl
    rw [h6]
    rfl
  · have h6 := hi (i + 1) u hu
    rw [h6]
    congr 2
    omega
/-- contracts by less -/
theorem zMX.weak {l : Launch} {Δ : zE} {y : MethodName} {cw : Cond} {fr lo mc ms : Nat} {av : List Value} {wc : va_W} {P P' : Option Value → va_W → Prop} {PX PX' : String → va_W → Prop} (h : zMX l Δ y cw fr lo mc ms av wc P PX) (hP : ∀ rv w, P rv w → ∃ w', zSame Δ w w' ∧ P' rv w') (hX : ∀ E w, PX E w → ∃ w', zSame Δ w w' ∧ PX' E w') : zMX l Δ y cw fr lo mc ms av wc P' PX' := by
  intro sz
  refine MetFree.mono (h sz) (fun _ _ h => h) (fun _ _ _ _ _ h => h) (fun a s o s' _ hq => ?_)
  rcases hq with ⟨⟨⟨rv, w1, h1, h2, h3, h4⟩, h5⟩, h6⟩ | ⟨q, h1, E, ce, L, ⟨⟨w, g1, g2, g3⟩, g4⟩, g5⟩
  · obtain ⟨w', k1, k2⟩ := hP rv w1 h2
    exact Or.inl ⟨⟨⟨rv, w', h1, k2, k1.2 _ h3, va_D_fst k1.1 h4⟩, h5⟩, h6⟩
  · obtain ⟨w', k1, k2⟩ := hX E w g1
    exact Or.inr ⟨q, h1, E, ce, L, ⟨⟨w', k2, k1.2 _ g2, va_D_fst k1.1 g3⟩, g4⟩, g5⟩
/-- a method that throws nothing and makes nothing -/
theorem zMet.toX {l : Launch} {Δ : zE} {y : MethodName} {bytes : ByteArray} {maxL : Nat} {ret : Option FieldType} {fr lo : Nat} {av : List Value} {wc w1 : va_W} {rv : Option Value} (h : zMet l Δ y bytes maxL ret fr lo av wc w1 rv) (hf : w1.map Prod.fst = wc.map Prod.fst) : zMX l Δ y (.code y bytes maxL ret) fr lo 0 0 av wc (fun r w => r = rv ∧ w = w1) (fun _ _ => False) := by
  intro sz
  refine MetFree.mono (h sz) (fun a s hp => ?_) (fun _ _ _ _ _ h => h) (fun a s o s' hp hq => ?_)
  · obtain ⟨q0, q1, q2, q3, q4, -⟩ := hp
    exact ⟨q0, q1, q2, q3, q4⟩
  · obtain ⟨q0, q1, q2, q3, q4, -⟩ := hp
    obtain ⟨⟨⟨h1, h2⟩, h3⟩, h4⟩ := hq
    exact Or.inl ⟨⟨⟨rv, w1, h1, ⟨rfl, rfl⟩, h2, va_D_fst hf q4.self⟩, h3⟩, h4⟩
theorem zMC.toX {l : Launch} {Δ : zE} {y : MethodName} {cw : Cond} {fr lo mc ms : Nat} {av : List Value} {wc : va_W} {P : Option Value → va_W → Prop} (h : zMC l Δ y cw fr lo mc ms av wc P) : zMX l Δ y cw fr lo mc ms av wc P (fun _ _ => False) := by
  intro sz
  refine MetFree.mono (h sz) (fun a s hp => ?_) (fun _ _ _ _ _ h => h) (fun a s o s' hp hq => Or.inl hq)
  obtain ⟨q0, q1, q2, q3, q4, -⟩ := hp
  exact ⟨q0, q1, q2, q3, q4⟩
/-- a method of the object: what it answers or throws (r), the object then (b') -/
def zCt (l : Launch) (Δ : zE) (y : MethodName) (cw : Cond) (fr lo mc ms : Nat) (args : List Value) (b : zOb) (r : String ⊕ Int32) (b' : zOb) : Prop :=
  ∀ (a : Nat) (ws : va_W), wOb Δ a b ws → zMX l Δ y cw fr lo mc ms (.ref a :: args) ws (fun rv w => ∃ v : Int32, r = .inr v ∧ rv = some (.int v) ∧ wOb Δ a b' w) (fun E w => r = .inl E ∧ wOb Δ a b' w)
theorem zmap_ok {α β : Type} {x : Option α} {f : α → β} {r : β} (h : x.map f = some r) : ∃ q, x = some q ∧ f q = r := by
  cases x with
  | none => cases h
  | some q => exact ⟨q, rfl, Option.some.inj h⟩
/-- an answer of a change -/
def zAns {α : Type} (b : zOb) (f : α → Int32 × zOb) : String ⊕ α → (String ⊕ Int32) × zOb
  | .inl E => (.inl E, b)
  | .inr q => (.inr (f q).1, (f q).2)
theorem zAns_r {α : Type} {b b' : zOb} {f : α → Int32 × zOb} {q : α} {r : String ⊕ Int32} (h : zAns b f (.inr q) = (r, b')) : r = .inr (f q).1 ∧ b' = (f q).2 := by
  cases h
  exact ⟨rfl, rfl⟩
theorem zAns_l {α : Type} {b b' : zOb} {f : α → Int32 × zOb} {E : String} {r : String ⊕ Int32} (h : zAns b f (.inl E) = (r, b')) : r = .inl E ∧ b' = b := by
  cases h
  exact ⟨rfl, rfl⟩
/-- a contract with cells beside its own -/
theorem zMX.frame {l : Launch} {Δ : zE} {y : MethodName} {cw : Cond} {fr lo mc ms : Nat} {av : List Value} {wc : va_W} {P : Option Value → va_W → Prop} {PX : String → va_W → Prop} (h : zMX l Δ y cw fr lo mc ms av wc P PX) (wr : va_W) : zMX l Δ y cw fr lo mc ms av (wc ++ wr) (fun rv w => ∃ w1, P rv w1 ∧ w = w1 ++ wr) (fun E w => ∃ w1, PX E w1 ∧ w = w1 ++ wr) := by
  intro sz
  have hA : ∀ q, va_A wc sz q → va_A (wc ++ wr) sz q := by
    rintro q (⟨k, e, h⟩ | h)
    · exact Or.inl ⟨k, e, by rw [List.getElem?_append_left (List.getElem?_eq_some_iff.mp h).1]; exact h⟩
    · exact Or.inr h
  have hD1 : ∀ {B : Nat → Prop}, va_D B (wc ++ wr) → va_D B wc := fun hD => ⟨fun i j p q hi hj e => hD.1 i j p q (by rw [List.getElem?_append_left (List.getElem?_eq_some_iff.mp hi).1]; exact hi) (by rw [List.getElem?_append_left (List.getElem?_eq_some_iff.mp hj).1]; exact hj) e, fun k q hq => hD.2 k q (by rw [List.getElem?_append_left (List.getElem?_eq_some_iff.mp hq).1]; exact hq)⟩
  have key : ∀ (st t : State) (w1 : va_W), st.heap.size = sz → va_P Δ.1 vwCl (wc ++ wr) st.heap → va_D (fun _ => True) (wc ++ wr) → va_P Δ.1 vwCl w1 t.heap → va_D (va_A wc sz) w1 → va_F (va_A wc sz) st t → va_P Δ.1 vwCl (w1 ++ wr) t.heap ∧ va_D (va_A (wc ++ wr) sz) (w1 ++ wr) ∧ va_F (va_A (wc ++ wr) sz) st t := by
    intro st t w1 hz hP hD hP1 hDw hF
    subst hz
    have hF2 : va_F (va_A (wc ++ wr) st.heap.size) st t := ⟨hF.1, fun q h1 h2 => hF.2 q h1 (fun z => h2 (hA q z))⟩
    have Z : zW Δ (va_A (wc ++ wr) st.heap.size) st.heap (wc ++ wr) st.heap [] := ⟨hP, hD.self, va_S.rf⟩
    have Z2 := z_afterG (H1 := t.heap) (locs1 := []) Z (fun q h => Or.inr h) (List.Perm.refl _) ⟨hF2.1, hF2.2, fun q hq => absurd hq List.not_mem_nil⟩ hF.2 hP1 hDw
    exact ⟨Z2.1, Z2.2.1, hF2⟩
  refine MetFree.mono (h sz) (fun a s hp => ?_) (fun _ _ _ _ _ h => h) (fun a s o s' hp hq => ?_)
  · obtain ⟨q0, q1, q2, q3, q4, q5⟩ := hp
    exact ⟨q0, q1, va_P_left q2, q3, hD1 q4, q5.1.narrow hA, q5.2.narrow hA⟩
  · obtain ⟨q0, q1, q2, q3, q4, q5⟩ := hp
    rcases hq with ⟨⟨⟨rv, w1, h1, h2, h3, h4⟩, h5⟩, L, h6, h7⟩ | ⟨q, h1, E, ce, L, ⟨⟨w, g1, g2, g3⟩, g4⟩, g5, g6, g7, g8, g9, g10⟩
    · obtain ⟨k1, k2, k3⟩ := key s s' w1 q1 q2 q4 h3 h4 h5
      exact Or.inl ⟨⟨⟨rv, _, h1, ⟨w1, h2, rfl⟩, k1, k2⟩, k3⟩, L, h6, fun z hz => hA _ (h7 z hz)⟩
    · obtain ⟨k1, k2, k3⟩ := key s s' w q1 q2 q4 g2 g3 g4
      exact Or.inr ⟨q, h1, E, ce, L, ⟨⟨_, ⟨w, g1, rfl⟩, k1, k2⟩, k3⟩, g5, g6, g7, g8, g9, fun z hz => hA _ (g10 z hz)⟩
/-- the object with a new state, the old one saved -/
def zPush (b : zOb) (t : tSC) : zOb := (t, (b.1 :: b.2.1).take 6, b.2.2)
