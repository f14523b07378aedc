/-! PURE: loops as folds, and what parts need -/
/-- upwards: d turns from j -/
def zup {α : Type} (g : Nat → α → α) : Nat → Nat → α → α
  | 0, _, a => a
  | d + 1, j, a => zup g d (j + 1) (g j a)
/-- downwards: p - 1 .. 0 -/
def zdn {α : Type} (g : Nat → α → α) : Nat → α → α
  | 0, a => a
  | p + 1, a => zdn g p (g p a)
theorem zup_rel {α β : Type} {g : Nat → α → α} {h : Nat → β → β} (I : Nat → α → β → Prop) : ∀ (d j : Nat) (a : α) (b : β), I j a b → (∀ i a b, j ≤ i → i < j + d → I i a b → I (i + 1) (g i a) (h i b)) → I (j + d) (zup g d j a) (zup h d j b)
  | 0, j, a, b, h0, _ => h0
  | d + 1, j, a, b, h0, hs => by
    have h1 := zup_rel I d (j + 1) (g j a) (h j b) (hs j a b (Nat.le_refl j) (by omega) h0) (fun i a b h2 h3 h4 => hs i a b (by omega) (by omega) h4)
    rw [show j + (d + 1) = j + 1 + d by omega]
    exact h1
theorem zup_inv {α : Type} {g : Nat → α → α} (I : Nat → α → Prop) (d j : Nat) (a : α) (h0 : I j a) (hs : ∀ i a, j ≤ i → i < j + d → I i a → I (i + 1) (g i a)) : I (j + d) (zup g d j a) :=
  zup_rel (g := g) (h := fun _ (u : Unit) => u) (fun i a _ => I i a) d j a () h0 (fun i a _ h1 h2 h3 => hs i a h1 h2 h3)
theorem zup_congr {α : Type} {g h : Nat → α → α} (d j : Nat) (a : α) (hs : ∀ i a, j ≤ i → i < j + d → g i a = h i a) : zup g d j a = zup h d j a :=
  zup_rel (fun _ x y => x = y) d j a a rfl (fun i x y h1 h2 h3 => by rw [h3]; exact hs i y h1 h2)
theorem zdn_rel {α β : Type} {g : Nat → α → α} {h : Nat → β → β} (I : Nat → α → β → Prop) : ∀ (p : Nat) (a : α) (b : β), I p a b → (∀ i a b, i < p → I (i + 1) a b → I i (g i a) (h i b)) → I 0 (zdn g p a) (zdn h p b)
  | 0, a, b, h0, _ => h0
  | p + 1, a, b, h0, hs => zdn_rel I p (g p a) (h p b) (hs p a b (by omega) h0) (fun i a b h2 h4 => hs i a b (by omega) h4)
theorem zdn_inv {α : Type} {g : Nat → α → α} (I : Nat → α → Prop) (p : Nat) (a : α) (h0 : I p a) (hs : ∀ i a, i < p → I (i + 1) a → I i (g i a)) : I 0 (zdn g p a) :=
  zdn_rel (g := g) (h := fun _ (u : Unit) => u) (fun i a _ => I i a) p a () h0 (fun i a _ h2 h3 => hs i a h2 h3)
theorem zdn_congr {α : Type} {g h : Nat → α → α} (p : Nat) (a : α) (hs : ∀ i a, i < p → g i a = h i a) : zdn g p a = zdn h p a :=
  zdn_rel (fun _ x y => x = y) p a a rfl (fun i x y h2 h3 => by rw [h3]; exact hs i y h2)
theorem nI_dn (p : Nat) : nI p + (-1) = nI p - 1 := (Int32.sub_eq_add_neg _ _).symm
theorem zand_not {a b : Int32} (h : a &&& b = 0) : a &&& (b ^^^ (-1)) = a := by
  apply zb_ext
  intro q hq
  have h1 : zb (a &&& b) q = false := by rw [h]; exact zb_0 q
  rw [zb_and] at h1
  rw [zb_and, zb_not b hq]
  cases ha : zb a q <;> cases hb : zb b q <;> simp_all
theorem zor_0 (a : Int32) : a ||| 0 = a := by
  apply zb_ext
  intro q _
  rw [zb_or, zb_0, Bool.or_false]
/-- the bit p as a mask -/
def zbit (p : Nat) : Int32 := (1 : Int32) <<< (nI p &&& 31)
theorem zb_zbit {p q : Nat} (hp : p < 32) (hq : q < 32) : zb (zbit p) q = decide (q = p) := zb_one p hp q hq
/-- one step of looking for what a part needs: of (open plots, found) -/
def gN (pl : Nat → Int32) (p : Nat) (x : Int32 × Int32) : Int32 × Int32 := if pl p &&& x.1 = 0 then x else (x.1 &&& (pl p ^^^ (-1)), x.2 ||| zbit p)
/-- what the part p needs -/
def sN (pl : Nat → Int32) (p : Nat) : Int32 := (zdn (gN pl) p (pl p, 0)).2
theorem gN_0 (pl : Nat → Int32) : ∀ (p : Nat) (f : Int32), (zdn (gN pl) p (0, f)).2 = f
  | 0, f => rfl
  | p + 1, f => by
    have h : gN pl p (0, f) = (0, f) := by
      unfold gN
      rw [if_pos]
      apply zb_ext
      intro q _
      rw [zb_and, zb_0, Bool.and_false]
    unfold zdn
    rw [h]
    exact gN_0 pl p f
theorem sN_congr {pl pl' : Nat → Int32} {p : Nat} (h : ∀ q, q ≤ p → pl q = pl' q) : sN pl p = sN pl' p := by
  unfold sN
  rw [h p (Nat.le_refl p), zdn_congr (h := gN pl') p _ (fun i a hi => by unfold gN; rw [h i (by omega)])]
theorem p_findNeeds_14 (pl : Nat → Int32) : ∀ (p k : Nat) (o f : Int32), p < k → p ≤ 20 → fX4_findNeeds_14 k pl f o (nI p - 1) = some (zdn (gN pl) p (o, f)).2
  | 0, k + 1, o, f, _, _ => by
    unfold fX4_findNeeds_14
    rw [if_pos nI_neg1']
    rfl
  | p + 1, k + 1, o, f, h, h20 => by
    unfold fX4_findNeeds_14
    rw [nI_pred, if_neg (nI_pos (by omega))]
    by_cases ho : o = 0
    · rw [if_pos ho, ho, gN_0]
    · rw [if_neg ho, if_pos (zin_nI (by omega) (by decide)), nI_clamp (by omega), nI_dn]
      unfold zdn
      by_cases hz : pl p &&& o = 0
      · have e : gN pl p (o, f) = (o, f) := if_pos hz
        rw [if_pos hz, e]
        exact p_findNeeds_14 pl p k o f (by omega) (by omega)
      · have e : gN pl p (o, f) = (o &&& (pl p ^^^ (-1)), f ||| zbit p) := if_neg hz
        rw [if_neg hz, if_pos (zin_nI (by omega) (by decide)), e]
        exact p_findNeeds_14 pl p k _ _ (by omega) (by omega)
theorem p_findNeeds (pl : Nat → Int32) {p : Nat} (h : p < 20) : fX4_findNeeds pl (nI p) = some (sN pl p) := by
  unfold fX4_findNeeds
  rw [if_pos (zin_nI h (by decide)), nI_clamp (by omega)]
  exact p_findNeeds_14 pl p zfuel (pl p) 0 (Nat.lt_of_lt_of_le h (by decide)) (by omega)
/-- places of the reference's row -/
theorem nI_mul (a b : Nat) : nI a * nI b = nI (a * b) := (Int32.ofNat_mul a b).symm
theorem p_of (ms : Nat → Int32) {p w : Nat} (h : 5 + 3 * p + w < 203) : fX7_of ms (nI p) (nI w) = some (ms (5 + 3 * p + w)) := by
  unfold fX7_of
  have e : 5 + 3 * nI p + nI w = nI (5 + 3 * p + w) := by
    rw [show (5 : Int32) = nI 5 from by decide, show (3 : Int32) = nI 3 from by decide, nI_mul, nI_add, nI_add]
  rw [e, if_pos (zin_nI h (by decide)), nI_clamp (by omega)]
theorem p_known (ms : Nat → Int32) {r p : Nat} (h : 83 + 20 * r + p < 203) : fX7_known ms (nI r) (nI p) = some (ms (83 + 20 * r + p)) := by
  unfold fX7_known
  have e : 83 + 20 * nI r + nI p = nI (83 + 20 * r + p) := by
    rw [show (83 : Int32) = nI 83 from by decide, show (20 : Int32) = nI 20 from by decide, nI_mul, nI_add, nI_add]
  rw [e, if_pos (zin_nI h (by decide)), nI_clamp (by omega)]
/-- the reference's plots -/
def mpl (ms : Nat → Int32) (q : Nat) : Int32 := ms (5 + 3 * q)
theorem p_of0 (ms : Nat → Int32) {p : Nat} (h : p < 20) : fX7_of ms (nI p) 0 = some (mpl ms p) := by
  have h1 := p_of ms (p := p) (w := 0) (by omega)
  exact h1
theorem p_needs_14 (ms : Nat → Int32) : ∀ (p k : Nat) (o f : Int32), p < k → p ≤ 20 → fX7_needs_14 k ms f o (nI p - 1) = some (zdn (gN (mpl ms)) p (o, f)).2
  | 0, k + 1, o, f, _, _ => by
    unfold fX7_needs_14
    rw [if_pos nI_neg1']
    rfl
  | p + 1, k + 1, o, f, h, h20 => by
    unfold fX7_needs_14
    rw [nI_pred, if_neg (nI_pos (by omega)), p_of0 ms (by omega), nI_dn]
    unfold zdn
    by_cases hz : mpl ms p &&& o = 0
    · have hz' : o &&& mpl ms p = 0 := by rw [Int32.and_comm]; exact hz
      have e : gN (mpl ms) p (o, f) = (o, f) := if_pos hz
      rw [e, Option.bind_some, if_pos hz', Option.bind_some, zand_not hz', zor_0]
      exact p_needs_14 ms p k o f (by omega) (by omega)
    · have hz' : ¬ o &&& mpl ms p = 0 := by rw [Int32.and_comm]; exact hz
      have e : gN (mpl ms) p (o, f) = (o &&& (mpl ms p ^^^ (-1)), f ||| zbit p) := if_neg hz
      rw [e, Option.bind_some, if_neg hz', Option.bind_some]
      exact p_needs_14 ms p k _ _ (by omega) (by omega)
theorem p_needs (ms : Nat → Int32) {p : Nat} (h : p < 20) : fX7_needs ms (nI p) = some (sN (mpl ms) p) := by
  unfold fX7_needs
  rw [p_of0 ms h, Option.bind_some]
  exact p_needs_14 ms p zfuel _ _ (Nat.lt_of_lt_of_le h (by decide)) (by omega)
/-- one step of looking for all that a part needs among some -/
def gA (nd : Nat → Int32) (am : Int32) (p : Nat) (f : Int32) : Int32 := if zb f p = true then f ||| (nd p &&& am) else f
def sA (nd : Nat → Int32) (am : Int32) (p : Nat) : Int32 := zdn (gA nd am) p (nd p &&& am)
theorem p_allNeeds_14 (nd : Nat → Int32) (am : Int32) : ∀ (p k : Nat) (f : Int32), p < k → p ≤ 20 → fX4_allNeeds_14 k nd am f (nI p - 1) = some (zdn (gA nd am) p f)
  | 0, k + 1, f, _, _ => by
    unfold fX4_allNeeds_14
    rw [if_pos nI_neg1']
    rfl
  | p + 1, k + 1, f, h, h20 => by
    unfold fX4_allNeeds_14
    rw [nI_pred, if_neg (nI_pos (by omega)), zb_isIn f (by omega), Option.bind_some, if_pos (zin_nI (by omega) (by decide)), nI_clamp (by omega), nI_dn]
    unfold zdn
    by_cases hb : zb f p = true
    · have e : gA nd am p f = f ||| (nd p &&& am) := if_pos hb
      rw [e, if_pos hb, if_neg (by decide)]
      exact p_allNeeds_14 nd am p k _ (by omega) (by omega)
    · have e : gA nd am p f = f := if_neg hb
      rw [e, if_neg hb, if_pos rfl]
      exact p_allNeeds_14 nd am p k _ (by omega) (by omega)
theorem p_allNeeds (nd : Nat → Int32) (am : Int32) {p : Nat} (h : p < 20) : fX4_allNeeds nd (nI p) am = some (sA nd am p) := by
  unfold fX4_allNeeds
  rw [if_pos (zin_nI h (by decide)), nI_clamp (by omega)]
  exact p_allNeeds_14 nd am p zfuel _ (Nat.lt_of_lt_of_le h (by decide)) (by omega)
theorem p_needsAmong_13 (ms : Nat → Int32) (am : Int32) : ∀ (p k : Nat) (f : Int32), p < k → p ≤ 20 → fX7_needsAmong_13 k ms am f (nI p - 1) = some (zdn (gA (sN (mpl ms)) am) p f)
  | 0, k + 1, f, _, _ => by
    unfold fX7_needsAmong_13
    rw [if_pos nI_neg1']
    rfl
  | p + 1, k + 1, f, h, h20 => by
    unfold fX7_needsAmong_13
    rw [nI_pred, if_neg (nI_pos (by omega)), zb_bit f (by omega), nI_dn, p_needs ms (by omega), Option.bind_some, zor_0]
    unfold zdn
    by_cases hb : zb f p = true
    · have e : gA (sN (mpl ms)) am p f = f ||| (sN (mpl ms) p &&& am) := if_pos hb
      rw [e, if_pos hb, if_pos rfl]
      exact p_needsAmong_13 ms am p k _ (by omega) (by omega)
    · have e : gA (sN (mpl ms)) am p f = f := if_neg hb
      rw [e, if_neg hb, if_neg (by decide)]
      exact p_needsAmong_13 ms am p k _ (by omega) (by omega)
theorem p_needsAmong (ms : Nat → Int32) (am : Int32) {p : Nat} (h : p < 20) : fX7_needsAmong ms (nI p) am = some (sA (sN (mpl ms)) am p) := by
  unfold fX7_needsAmong
  rw [p_needs ms h, Option.bind_some]
  exact p_needsAmong_13 ms am p zfuel _ (Nat.lt_of_lt_of_le h (by decide)) (by omega)
