/-! THE SAVED STATES -/
abbrev zSC : Type := Int32 × Int32 × Int32 × (Nat → Int32) × (Nat → Int32) × (Nat → Int32) × (Nat → Int32) × (Nat → Int32) × (Nat → Int32) × (Nat → Int32) × (Nat → Int32) × (Nat → Int32) × (Nat → Int32)
def wS (Δ : zE) (ad : Nat → Nat) (c : zSC) : va_W := wX3 Δ ad c.1 c.2.1 c.2.2.1 c.2.2.2.1 c.2.2.2.2.1 c.2.2.2.2.2.1 c.2.2.2.2.2.2.1 c.2.2.2.2.2.2.2.1 c.2.2.2.2.2.2.2.2.1 c.2.2.2.2.2.2.2.2.2.1 c.2.2.2.2.2.2.2.2.2.2.1 c.2.2.2.2.2.2.2.2.2.2.2.1 c.2.2.2.2.2.2.2.2.2.2.2.2
/-- one state copied over another -/
def zcp (a b : zSC) : zSC := (b.1, b.2.1, b.2.2.1, (va_cpy b.2.2.2.1 a.2.2.2.1 (0 : Int32).toNatClampNeg (0 : Int32).toNatClampNeg (20 : Int32).toNatClampNeg), (va_cpy b.2.2.2.2.1 a.2.2.2.2.1 (0 : Int32).toNatClampNeg (0 : Int32).toNatClampNeg (20 : Int32).toNatClampNeg), (va_cpy b.2.2.2.2.2.1 a.2.2.2.2.2.1 (0 : Int32).toNatClampNeg (0 : Int32).toNatClampNeg (20 : Int32).toNatClampNeg), (va_cpy b.2.2.2.2.2.2.1 a.2.2.2.2.2.2.1 (0 : Int32).toNatClampNeg (0 : Int32).toNatClampNeg (20 : Int32).toNatClampNeg), (va_cpy b.2.2.2.2.2.2.2.1 a.2.2.2.2.2.2.2.1 (0 : Int32).toNatClampNeg (0 : Int32).toNatClampNeg (6 : Int32).toNatClampNeg), (va_cpy b.2.2.2.2.2.2.2.2.1 a.2.2.2.2.2.2.2.2.1 (0 : Int32).toNatClampNeg (0 : Int32).toNatClampNeg (6 : Int32).toNatClampNeg), (va_cpy b.2.2.2.2.2.2.2.2.2.1 a.2.2.2.2.2.2.2.2.2.1 (0 : Int32).toNatClampNeg (0 : Int32).toNatClampNeg (6 : Int32).toNatClampNeg), (va_cpy b.2.2.2.2.2.2.2.2.2.2.1 a.2.2.2.2.2.2.2.2.2.2.1 (0 : Int32).toNatClampNeg (0 : Int32).toNatClampNeg (6 : Int32).toNatClampNeg), (va_cpy b.2.2.2.2.2.2.2.2.2.2.2.1 a.2.2.2.2.2.2.2.2.2.2.2.1 (0 : Int32).toNatClampNeg (0 : Int32).toNatClampNeg (6 : Int32).toNatClampNeg), (va_cpy b.2.2.2.2.2.2.2.2.2.2.2.2 a.2.2.2.2.2.2.2.2.2.2.2.2 (0 : Int32).toNatClampNeg (0 : Int32).toNatClampNeg (2 : Int32).toNatClampNeg))
theorem zcp_eq (a b : zSC) : fX3_copyFrom a.1 a.2.1 a.2.2.1 a.2.2.2.1 a.2.2.2.2.1 a.2.2.2.2.2.1 a.2.2.2.2.2.2.1 a.2.2.2.2.2.2.2.1 a.2.2.2.2.2.2.2.2.1 a.2.2.2.2.2.2.2.2.2.1 a.2.2.2.2.2.2.2.2.2.2.1 a.2.2.2.2.2.2.2.2.2.2.2.1 a.2.2.2.2.2.2.2.2.2.2.2.2 b.1 b.2.1 b.2.2.1 b.2.2.2.1 b.2.2.2.2.1 b.2.2.2.2.2.1 b.2.2.2.2.2.2.1 b.2.2.2.2.2.2.2.1 b.2.2.2.2.2.2.2.2.1 b.2.2.2.2.2.2.2.2.2.1 b.2.2.2.2.2.2.2.2.2.2.1 b.2.2.2.2.2.2.2.2.2.2.2.1 b.2.2.2.2.2.2.2.2.2.2.2.2 = some (zcp a b) := rfl
def zInit : zSC := (0, 0, 0, (fun _ => 0), (fun _ => 0), (fun _ => 0), (fun _ => 0), (fun _ => 0), (fun _ => 0), (fun _ => 0), (fun _ => 0), (fun _ => 0), (upd (upd (fun _ => 0) (0 : Int32).toNatClampNeg 4) (1 : Int32).toNatClampNeg 10))
/-- the cells of the states made so far, by their places -/
def zPool (Δ : zE) : Nat → (Nat → Nat → Nat) → (Nat → zSC) → va_W
  | 0, _, _ => []
  | n + 1, α, σ => zPool Δ n α σ ++ wS Δ (α n) (σ n)
/-- .. but those of one -/
def zBut (Δ : zE) : Nat → Nat → (Nat → Nat → Nat) → (Nat → zSC) → va_W
  | 0, _, _, _ => []
  | n + 1, j, α, σ => if j = n then zPool Δ n α σ else zBut Δ n j α σ ++ wS Δ (α n) (σ n)
def zRows (n : Nat) (α : Nat → Nat → Nat) : Nat → Option Nat := fun j => if j < n then some (α j 0) else none
theorem zPool_congr {Δ : zE} {α α' : Nat → Nat → Nat} {σ σ' : Nat → zSC} : ∀ {n : Nat}, (∀ i, i < n → α' i = α i ∧ σ' i = σ i) → zPool Δ n α' σ' = zPool Δ n α σ
  | 0, _ => rfl
  | n + 1, h => by
    have h1 := h n (Nat.lt_succ_self n)
    rw [zPool, zPool, zPool_congr (fun i hi => h i (Nat.lt_succ_of_lt hi)), h1.1, h1.2]
theorem zBut_congr {Δ : zE} {α : Nat → Nat → Nat} {σ σ' : Nat → zSC} {j : Nat} : ∀ {n : Nat}, (∀ i, i ≠ j → σ' i = σ i) → zBut Δ n j α σ' = zBut Δ n j α σ
  | 0, _ => rfl
  | n + 1, h => by
    rw [zBut, zBut]
    by_cases e : j = n
    · rw [if_pos e, if_pos e]
      exact zPool_congr (fun i hi => ⟨rfl, h i (by omega)⟩)
    · rw [if_neg e, if_neg e, zBut_congr h, h n (fun g => e g.symm)]
theorem zPool_at {Δ : zE} {α : Nat → Nat → Nat} {σ σ' : Nat → zSC} {j : Nat} : ∀ {n : Nat}, j < n → (∀ i, i ≠ j → σ' i = σ i) → (zPool Δ n α σ').Perm (wS Δ (α j) (σ' j) ++ zBut Δ n j α σ)
  | 0, h, _ => absurd h (Nat.not_lt_zero j)
  | n + 1, h, hs => by
    rw [zPool, zBut]
    by_cases e : j = n
    · subst e
      rw [if_pos rfl, zPool_congr (fun i hi => ⟨rfl, hs i (by omega)⟩)]
      exact List.perm_append_comm
    · rw [if_neg e]
      have h1 := zPool_at (Δ := Δ) (α := α) (n := n) (by omega) hs
      rw [hs n (fun g => e g.symm)]
      exact (h1.append_right _).trans (by rw [List.append_assoc])
theorem zPool_at' {Δ : zE} {α : Nat → Nat → Nat} {σ σ' : Nat → zSC} {j n : Nat} {v : zSC} (h : j < n) (hs : ∀ i, i ≠ j → σ' i = σ i) (hv : σ' j = v) : (zPool Δ n α σ').Perm (wS Δ (α j) v ++ zBut Δ n j α σ) := by
  subst hv
  exact zPool_at h hs
section ZHB
variable {p : Program} {l : Launch} {e : Env} {R : Room} {s : State} {m : MethodId} {args : Array Value} {below : List Frame} {meth : Method} {c : Code} {H : Heap} {locs : List Loc} {cells slots : Nat} {Q : State → Prop} {Δ : zE} {y0 : MethodName} {cc : ByteArray} {nL : Nat} {rt : Option FieldType} {A : Nat → Prop} {ws w' : va_W} {pc : Nat} {ls : Array Slot} {rest : List Value}
variable {y : MethodName} {bytes : ByteArray} {maxL index n : Nat} {ret : Option FieldType} {fr1 lo1 : Nat} {As : List Value} {wc w1 wr : va_W} {rv : Option Value} {st0 st1 : List Value} {b : Nat} {lvs : List (Nat × Value)}
theorem zQ_run {A1 : Nat → Prop} {g : JFrame} {a : Array Value} {free : Addr → Prop} {mc1 ms1 : Nat} (hD : va_D A1 w1) (hr : va_Run p l e R s m args below meth c H locs cells slots mc1 ms1 g rest (zQ Δ rv w1 A1 a) free) : va_Run p l e R s m args below meth c H locs cells slots mc1 ms1 g rest (zQG Δ (fun r w => r = rv ∧ w = w1) A1 a) free := by
  intro T hT X
  obtain ⟨v, st₀, t, T', L, h0, X', hL, e1, e2, ⟨⟨hv, hP1⟩, hF⟩, st⟩ := hr T hT X
  exact ⟨v, st₀, t, T', L, h0, X', hL, e1, e2, ⟨⟨rv, w1, hv, ⟨rfl, rfl⟩, hP1, hD⟩, hF⟩, st⟩
/-- an ordinary method is called, its world anywhere among the cells -/
theorem z_callVP (X : zX Δ p s m args meth c y0 cc nL rt A) (Z : zW Δ A s.heap ws H locs) (hl : lv_has ls nL lvs) (hM : zMet l Δ y bytes maxL ret fr1 lo1 (.ref b :: As) wc w1 rv) (h1 : Cond.methodLink y0.cls index y ∈ zG) (h2 : Cond.instanceMethod y ∈ zG) (h3 : Cond.selects y.cls y y ∈ zG) (h4 : Cond.initialized y.cls ∈ zG) (h5 : Cond.code y bytes maxL ret ∈ zG) (hd : zOK y n)
    (ci : Nat) {fs : List Value} {T : u_T} {N : Nat} (hcl : vwCl[ci]? = some (y.cls, T, N)) (q0 : Nat) (hb0 : ws[q0]? = some (b, .inr (ci, fs))) (hperm : ws.Perm (wc ++ wr)) (hfst : w1.map Prod.fst = wc.map Prod.fst) (hlen : As.length = n) (hst : st0 = As.reverse ++ .ref b :: rest) (hW : (rest.map fun v => v.category).sum ≤ 8) (hR : fr1 + 1 ≤ R.frames ∧ 8 + (maxL + 11) + lo1 ≤ R.locals) (hrc : cells ≤ R.cells ∧ slots ≤ R.slots) (hs1 : rv.toList ++ rest = st1) (hdg : decode cc pc = .ok (.invokevirtual index, 3))
    (kk : ∀ (H1 : Heap) (locs1 : List Loc), zW Δ A s.heap (w1 ++ wr) H1 locs1 → W p l e R s m args below meth c H1 locs1 cells slots Q (F0 m (pc + 3) ls st1)) : W p l e R s m args below meth c H locs cells slots Q (F0 m pc ls st0) := by
  subst hst
  subst hs1
  have hDc : va_D (va_A wc H.size) wc := by
    have Z2 := Z.perm hperm
    exact ⟨fun i j p q hi hj e => Z2.2.1.1 i j p q (by rw [List.getElem?_append_left (List.getElem?_eq_some_iff.mp hi).1]; exact hi) (by rw [List.getElem?_append_left (List.getElem?_eq_some_iff.mp hj).1]; exact hj) e, fun k q hq => Or.inl ⟨k, q.2, hq⟩⟩
  refine c_goes X Z hperm (zQ_run (va_D_fst hfst hDc) (va_runV (As := As) (rest := rest) (n := n) X.1 (hM H.size) (cwV n X.ts (x_gV h1 h2 h3 h4 h5) rfl rfl rfl ⟨rfl, hd.1, hd.2.1, hd.2.2⟩ hR) ⟨zBlind, va_recv X.K.1 Z.1 hcl hb0, cPre X Z hperm⟩ rfl hlen hl.1 rfl (lv_room hW) hdg ⟨hrc.1, hrc.2⟩)) (fun rv' w' H1 locs1 hP Z1 => ?_)
  obtain ⟨rfl, rfl⟩ := hP
  exact kk H1 locs1 Z1
theorem h_aald (X : zX Δ p s m args meth c y0 cc nL rt A) (Z : zW Δ A s.heap ws H locs) (q0 : Nat) {a n : Nat} {f : Nat → Option Nat} (ha : ws[q0]? = some (a, .inl (Δ.2.2.2.2, n, .inr (.inr (.inr (.inr f)))))) {i : Int32} (hin : vp_in i n) {v : Value} (hv : va_rf (f i.toNatClampNeg) = v) (hdg : decode cc pc = .ok (.aaload, 1))
    (kk : W p l e R s m args below meth c H locs cells slots Q (F0 m (pc + 1) ls (v :: rest))) : W p l e R s m args below meth c H locs cells slots Q (F0 m pc ls (.int i :: .ref a :: rest)) := by
  subst hv
  exact va_aldq X.x X.b X.K.1 Z.1 q0 3 ha rfl hin hdg kk
theorem h_aast (X : zX Δ p s m args meth c y0 cc nL rt A) (Z : zW Δ A s.heap ws H locs) (q0 qk : Nat) {a n v : Nat} {vs : List Value} {f : Nat → Option Nat} (ha : ws[q0]? = some (a, .inl (Δ.2.2.2.2, n, .inr (.inr (.inr (.inr f)))))) (hv : ws[qk]? = some (v, .inr (3, vs))) {i : Int32} (hin : vp_in i n) (hw : ws.set q0 (a, .inl (Δ.2.2.2.2, n, .inr (.inr (.inr (.inr (va_up f i.toNatClampNeg (some v))))))) = w') (hdg : decode cc pc = .ok (.aastore, 1))
    (kk : ∀ (H1 : Heap) (locs1 : List Loc), zW Δ A s.heap w' H1 locs1 → W p l e R s m args below meth c H1 locs1 cells slots Q (F0 m (pc + 1) ls rest)) : W p l e R s m args below meth c H locs cells slots Q (F0 m pc ls (.ref v :: .int i :: .ref a :: rest)) := by
  subst hw
  exact va_astq X.x X.b X.K.1 Z.1 Z.2.1 Z.2.2 q0 3 qk 3 (r := (RX3, TX3, 5)) ha rfl hv rfl hin hdg (fun H1 locs1 a b d => kk H1 locs1 ⟨a, b, d⟩)
end ZHB
/-- where the oldest one lies, how many are kept, behind the making of room; the place that is written; how many are made then -/
def zo (o k : Nat) : Nat := if k = 6 then (o + 1) % 6 else o
def zk (k : Nat) : Nat := if k = 6 then 5 else k
def zp (o k : Nat) : Nat := (zo o k + zk k) % 6
def zn (n pl : Nat) : Nat := if pl < n then n else n + 1
/-- how the saved states stand: the oldest at o, k of them, n states made -/
def zH (o k n : Nat) : Prop := o < 6 ∧ k ≤ 6 ∧ n ≤ 6 ∧ k ≤ n ∧ (o = 0 ∨ n = 6)
theorem zH_place {o k n : Nat} (h : zH o k n) : zo o k < 6 ∧ zk k < 6 ∧ zp o k < 6 ∧ zp o k ≤ n := by
  obtain ⟨h1, h2, h3, h4, h5⟩ := h
  unfold zp zo zk
  by_cases e : k = 6
  · rw [if_pos e, if_pos e]
    omega
  · rw [if_neg e, if_neg e]
    omega
theorem zH_keep {o k n : Nat} (h : zH o k n) : zH (zo o k) (zk k + 1) (zn n (zp o k)) := by
  have hp := zH_place h
  obtain ⟨h1, h2, h3, h4, h5⟩ := h
  unfold zn zH
  unfold zp zo zk at *
  by_cases e : k = 6
  · rw [if_pos e, if_pos e] at *
    by_cases g : ((o + 1) % 6 + 5) % 6 < n
    · rw [if_pos g]; omega
    · rw [if_neg g]; omega
  · rw [if_neg e, if_neg e] at *
    by_cases g : (o + k) % 6 < n
    · rw [if_pos g]; omega
    · rw [if_neg g]; omega
set_option maxRecDepth 100000 in
set_option maxHeartbeats 4000000 in
theorem mX2_keep (l : Launch) (Δ : zE) (ad ad2 : Nat → Nat) (o k n : Nat) (α : Nat → Nat → Nat) (σ : Nat → zSC) (c0 : zSC) (hH : zH o k n) : zMC l Δ yX2_keep (.code yX2_keep cX2_keep 4 none) 3 82 13 127 [.ref (ad 0), .ref (ad2 0)] ((wX2 Δ ad (nI o) (nI k) (zRows n α) ++ wS Δ ad2 c0) ++ zPool Δ n α σ) (fun rv w1 => rv = none ∧ ∃ α' : Nat → Nat → Nat, w1 = ((wX2 Δ ad (nI (zo o k)) (nI (zk k + 1)) (zRows (zn n (zp o k)) α') ++ wS Δ ad2 c0) ++ zPool Δ (zn n (zp o k)) α' (fun j => if j = zp o k then zcp (if zp o k < n then σ (zp o k) else zInit) c0 else σ j))) := by
  refine c_start (by decide +kernel) (Nat.le_of_ble_eq_true rfl) ?_
  intro p e s m args below meth c A ls X Z hl
  have hl : lv_has ls 4 [(0, .ref (ad 0)), (1, .ref (ad2 0))] := hl
  have hp := zH_place hH
  obtain ⟨ho, hk, hn, hkn, hon⟩ := id hH
  have K32 : ∀ (H : Heap) (locs : List Loc) (ls : Array Slot), zW Δ A s.heap ((wX2 Δ ad (nI (zo o k)) (nI (zk k)) (zRows n α) ++ wS Δ ad2 c0) ++ zPool Δ n α σ) H locs → lv_has ls 4 [(0, .ref (ad 0)), (1, .ref (ad2 0))] → W p l e { frames := 3, cells := 13, slots := 127, locals := 82 } s m args below meth c H locs 0 0 (zEndC Δ below args s 13 127 A (fun rv w1 => rv = none ∧ ∃ α' : Nat → Nat → Nat, w1 = ((wX2 Δ ad (nI (zo o k)) (nI (zk k + 1)) (zRows (zn n (zp o k)) α') ++ wS Δ ad2 c0) ++ zPool Δ (zn n (zp o k)) α' (fun j => if j = zp o k then zcp (if zp o k < n then σ (zp o k) else zInit) c0 else σ j)))) (F0 m 32 ls []) := by
    intro H locs ls Z hl
    refine lv_aload_n X.x X.b dX2_keep_32 rfl (lv_at hl 0 rfl) ?_
    refine z_gf inG_X2 (ci := 2) rfl 1 (Nat.le_of_ble_eq_true rfl) rfl X Z wd_133 0 rfl (v := .int (nI (zo o k))) rfl dX2_keep_33 ?_
    refine lv_aload_n X.x X.b dX2_keep_36 rfl (lv_at hl 0 rfl) ?_
    refine z_gf inG_X2 (ci := 2) rfl 2 (Nat.le_of_ble_eq_true rfl) rfl X Z wd_134 0 rfl (v := .int (nI (zk k))) rfl dX2_keep_37 ?_
    refine lv_iadd X.x X.b dX2_keep_40 ?_
    refine lv_bipush (v := 6) X.x X.b dX2_keep_41 kb_6 ?_
    refine lv_irem X.x X.b dX2_keep_43 (by decide) ?_
    refine lv_topi (fun x2 ex2 => ?_)
    have ex : x2 = nI (zp o k) := by
      rw [ex2, nI_add]
      exact pk_rem (d := 6) (by omega) (by decide) (by decide)
    subst ex2
    rw [ex]
    refine lv_istore_n (lv' := [(2, .int (nI (zp o k))), (0, .ref (ad 0)), (1, .ref (ad2 0))]) X.x X.b dX2_keep_44 rfl hl (Nat.le_of_ble_eq_true rfl) rfl (fun ls hl => ?_)
    refine lv_aload_n X.x X.b dX2_keep_45 rfl (lv_at hl 1 rfl) ?_
    refine z_gf inG_X2 (ci := 2) rfl 0 (Nat.le_of_ble_eq_true rfl) rfl X Z wd_132 0 rfl (v := .ref (ad 1)) rfl dX2_keep_46 ?_
    refine lv_iload_n X.x X.b dX2_keep_49 rfl (lv_at hl 0 rfl) ?_
    have hin : vp_in (nI (zp o k)) 6 := vp_in_nI hp.2.2.1 (by decide)
    have hcl : (nI (zp o k)).toNatClampNeg = zp o k := nI_clamp (by omega)
    by_cases hlt : zp o k < n
    · have hrow : va_rf (zRows n α (nI (zp o k)).toNatClampNeg) = .ref (α (zp o k) 0) := by rw [hcl, zRows, if_pos hlt]; rfl
      refine h_aald X Z 1 rfl hin hrow dX2_keep_50 ?_
      refine lv_astore_n (lv' := [(3, .ref (α (zp o k) 0)), (2, .int (nI (zp o k))), (0, .ref (ad 0)), (1, .ref (ad2 0))]) X.x X.b dX2_keep_51 rfl hl (Nat.le_of_ble_eq_true rfl) rfl (fun ls hl => ?_)
      refine lv_aload_n X.x X.b dX2_keep_52 rfl (lv_at hl 0 rfl) ?_
      refine lv_ifnonnull (tgt := 71) X.x X.b dX2_keep_53 (by decide) ?_
      have Z : zW Δ A s.heap ((wS Δ (α (zp o k)) (σ (zp o k)) ++ wS Δ ad2 c0) ++ (wX2 Δ ad (nI (zo o k)) (nI (zk k)) (zRows n α) ++ zBut Δ n (zp o k) α σ)) _ _ := Z.perm (zPerm (fun x => by have hq := (zPool_at (Δ := Δ) (α := α) (σ := σ) hlt (fun _ _ => rfl)).count_eq x; simp only [List.count_append] at hq ⊢; omega))
      refine lv_aload_n X.x X.b dX2_keep_71 rfl (lv_at hl 0 rfl) ?_
      refine lv_aload_n X.x X.b dX2_keep_72 rfl (lv_at hl 3 rfl) ?_
      refine z_callVP X Z hl (mX3_copyFrom l Δ (α (zp o k)) ad2 (σ (zp o k)).1 (σ (zp o k)).2.1 (σ (zp o k)).2.2.1 (σ (zp o k)).2.2.2.1 (σ (zp o k)).2.2.2.2.1 (σ (zp o k)).2.2.2.2.2.1 (σ (zp o k)).2.2.2.2.2.2.1 (σ (zp o k)).2.2.2.2.2.2.2.1 (σ (zp o k)).2.2.2.2.2.2.2.2.1 (σ (zp o k)).2.2.2.2.2.2.2.2.2.1 (σ (zp o k)).2.2.2.2.2.2.2.2.2.2.1 (σ (zp o k)).2.2.2.2.2.2.2.2.2.2.2.1 (σ (zp o k)).2.2.2.2.2.2.2.2.2.2.2.2 c0.1 c0.2.1 c0.2.2.1 c0.2.2.2.1 c0.2.2.2.2.1 c0.2.2.2.2.2.1 c0.2.2.2.2.2.2.1 c0.2.2.2.2.2.2.2.1 c0.2.2.2.2.2.2.2.2.1 c0.2.2.2.2.2.2.2.2.2.1 c0.2.2.2.2.2.2.2.2.2.2.1 c0.2.2.2.2.2.2.2.2.2.2.2.1 c0.2.2.2.2.2.2.2.2.2.2.2.2 (zcp_eq (σ (zp o k)) c0)) wd_377 wd_270 wd_271 wd_20 wd_272 ok_X3_copyFrom 3 rfl 0 rfl (List.Perm.refl _) rfl rfl (rest := []) rfl (Nat.le_of_ble_eq_true rfl) ⟨Nat.le_of_ble_eq_true rfl, Nat.le_of_ble_eq_true rfl⟩ ⟨Nat.le_of_ble_eq_true rfl, Nat.le_of_ble_eq_true rfl⟩ (st1 := []) rfl dX2_keep_73 (fun H locs Z => ?_)
      have hz : (fun j => if j = zp o k then zcp (if zp o k < n then σ (zp o k) else zInit) c0 else σ j) (zp o k) = zcp (σ (zp o k)) c0 := by show (if zp o k = zp o k then zcp (if zp o k < n then σ (zp o k) else zInit) c0 else σ (zp o k)) = _; rw [if_pos rfl, if_pos hlt]
      have Z : zW Δ A s.heap ((wX2 Δ ad (nI (zo o k)) (nI (zk k)) (zRows n α) ++ wS Δ ad2 c0) ++ zPool Δ n α (fun j => if j = zp o k then zcp (if zp o k < n then σ (zp o k) else zInit) c0 else σ j)) _ _ := Z.perm (zPerm (fun x => by have hq := (zPool_at' (Δ := Δ) (α := α) (σ := σ) (σ' := fun j => if j = zp o k then zcp (if zp o k < n then σ (zp o k) else zInit) c0 else σ j) (v := zcp (σ (zp o k)) c0) hlt (fun i hi => if_neg hi) hz).count_eq x; have e9 : wX3 Δ (α (zp o k)) (zcp (σ (zp o k)) c0).1 (zcp (σ (zp o k)) c0).2.1 (zcp (σ (zp o k)) c0).2.2.1 (zcp (σ (zp o k)) c0).2.2.2.1 (zcp (σ (zp o k)) c0).2.2.2.2.1 (zcp (σ (zp o k)) c0).2.2.2.2.2.1 (zcp (σ (zp o k)) c0).2.2.2.2.2.2.1 (zcp (σ (zp o k)) c0).2.2.2.2.2.2.2.1 (zcp (σ (zp o k)) c0).2.2.2.2.2.2.2.2.1 (zcp (σ (zp o k)) c0).2.2.2.2.2.2.2.2.2.1 (zcp (σ (zp o k)) c0).2.2.2.2.2.2.2.2.2.2.1 (zcp (σ (zp o k)) c0).2.2.2.2.2.2.2.2.2.2.2.1 (zcp (σ (zp o k)) c0).2.2.2.2.2.2.2.2.2.2.2.2 = wS Δ (α (zp o k)) (zcp (σ (zp o k)) c0) := rfl; rw [e9]; simp only [List.count_append] at hq ⊢; have e8 : wX3 Δ ad2 c0.1 c0.2.1 c0.2.2.1 c0.2.2.2.1 c0.2.2.2.2.1 c0.2.2.2.2.2.1 c0.2.2.2.2.2.2.1 c0.2.2.2.2.2.2.2.1 c0.2.2.2.2.2.2.2.2.1 c0.2.2.2.2.2.2.2.2.2.1 c0.2.2.2.2.2.2.2.2.2.2.1 c0.2.2.2.2.2.2.2.2.2.2.2.1 c0.2.2.2.2.2.2.2.2.2.2.2.2 = wS Δ ad2 c0 := rfl; rw [e8]; omega))
      refine lv_aload_n X.x X.b dX2_keep_76 rfl (lv_at hl 2 rfl) ?_
      refine lv_dup X.x X.b dX2_keep_77 rfl ?_
      refine z_gf inG_X2 (ci := 2) rfl 2 (Nat.le_of_ble_eq_true rfl) rfl X Z wd_134 0 rfl (v := .int (nI (zk k))) rfl dX2_keep_78 ?_
      refine lv_iconst (v := 1) X.x X.b dX2_keep_81 ki_1 ?_
      refine lv_iadd X.x X.b dX2_keep_82 ?_
      rw [nI_1]
      refine z_pf (w' := ((wX2 Δ ad (nI (zo o k)) (nI (zk k + 1)) (zRows n α) ++ wS Δ ad2 c0) ++ zPool Δ n α (fun j => if j = zp o k then zcp (if zp o k < n then σ (zp o k) else zInit) c0 else σ j))) inG_X2 (ci := 2) rfl tyX2 tyX2_ok nmX2 2 (Nat.le_of_ble_eq_true rfl) rfl rfl X Z wd_134 0 rfl rfl rfl (Nat.le_of_ble_eq_true rfl) rfl dX2_keep_83 (fun H locs Z => ?_)
      have hzn : zn n (zp o k) = n := if_pos hlt
      exact c_vret X Z ⟨rfl, α, by rw [hzn]⟩ (Nat.le_of_ble_eq_true rfl) (Nat.le_of_ble_eq_true rfl) dX2_keep_86
    · have hrow : va_rf (zRows n α (nI (zp o k)).toNatClampNeg) = .null := by rw [hcl, zRows, if_neg hlt]; rfl
      have hpn : zp o k = n := by omega
      refine h_aald X Z 1 rfl hin hrow dX2_keep_50 ?_
      refine lv_astore_nN (lv' := [(3, .null), (2, .int (nI (zp o k))), (0, .ref (ad 0)), (1, .ref (ad2 0))]) X.x X.b dX2_keep_51 rfl hl (Nat.le_of_ble_eq_true rfl) rfl (fun ls hl => ?_)
      refine lv_aload_nN X.x X.b dX2_keep_52 rfl (lv_at hl 0 rfl) ?_
      refine lv_ifnonnullN X.x X.b dX2_keep_53 ?_
      refine c_new (fs := [.null, .null, .null, .int 0, .int 0]) inG_X3 (ci := 3) rfl tyX3 tyX3_ok (fun j hj => by match j, hj with | 0, _ => rfl | 1, _ => rfl | 2, _ => rfl | 3, _ => rfl | 4, _ => rfl | j + 5, hj => exact absurd hj (by omega)) X Z wd_130 wd_44 wd_20 (Nat.le_of_ble_eq_true rfl) (Nat.le_of_ble_eq_true rfl) dX2_keep_56 (fun qn H Z => ?_)
      refine lv_dup X.x X.b dX2_keep_59 rfl ?_
      refine c_callI X Z hl (mX3_init l Δ qn) wd_376 wd_46 wd_20 wd_47 ok_X3_init rfl (wr := ((wX2 Δ ad (nI (zo o k)) (nI (zk k)) (zRows n α) ++ wS Δ ad2 c0) ++ zPool Δ n α σ)) List.perm_append_comm rfl (rest := [.ref qn]) rfl (Nat.le_of_ble_eq_true rfl) ⟨Nat.le_of_ble_eq_true rfl, Nat.le_of_ble_eq_true rfl⟩ ⟨Nat.le_of_ble_eq_true rfl, Nat.le_of_ble_eq_true rfl⟩ dX2_keep_60 (fun rv w1 H locs hP Z9 => ?_)
      obtain ⟨rfl, adn, ha, rfl⟩ := hP
      subst ha
      refine W.eq (g2 := F0 m 63 ls [.ref (adn 0)]) rfl ?_
      refine lv_astore_n (lv' := [(3, .ref (adn 0)), (2, .int (nI (zp o k))), (0, .ref (ad 0)), (1, .ref (ad2 0))]) X.x X.b dX2_keep_63 rfl hl (Nat.le_of_ble_eq_true rfl) rfl (fun ls hl => ?_)
      have Z : zW Δ A s.heap ((wX2 Δ ad (nI (zo o k)) (nI (zk k)) (zRows n α) ++ wS Δ adn zInit) ++ (wS Δ ad2 c0 ++ zPool Δ n α σ)) _ _ := Z9.perm (zPerm (fun x => by have e9 : wX3 Δ adn 0 0 0 (fun _ => 0) (fun _ => 0) (fun _ => 0) (fun _ => 0) (fun _ => 0) (fun _ => 0) (fun _ => 0) (fun _ => 0) (fun _ => 0) (upd (upd (fun _ => 0) (0 : Int32).toNatClampNeg 4) (1 : Int32).toNatClampNeg 10) = wS Δ adn zInit := rfl; rw [e9]; simp only [List.count_append]; omega))
      refine lv_aload_n X.x X.b dX2_keep_64 rfl (lv_at hl 2 rfl) ?_
      refine z_gf inG_X2 (ci := 2) rfl 0 (Nat.le_of_ble_eq_true rfl) rfl X Z wd_132 0 rfl (v := .ref (ad 1)) rfl dX2_keep_65 ?_
      refine lv_iload_n X.x X.b dX2_keep_68 rfl (lv_at hl 1 rfl) ?_
      refine lv_aload_n X.x X.b dX2_keep_69 rfl (lv_at hl 0 rfl) ?_
      refine h_aast (w' := ((wX2 Δ ad (nI (zo o k)) (nI (zk k)) (va_up (zRows n α) (nI (zp o k)).toNatClampNeg (some (adn 0))) ++ wS Δ adn zInit) ++ (wS Δ ad2 c0 ++ zPool Δ n α σ))) X Z 1 2 rfl rfl hin rfl dX2_keep_70 (fun H locs Z => ?_)
      have hrw : va_up (zRows n α) (nI (zp o k)).toNatClampNeg (some (adn 0)) = zRows (n + 1) (fun j => if j = n then adn else α j) := by
        rw [hcl, hpn]
        funext j
        unfold va_up zRows
        by_cases g1 : j = n
        · rw [if_pos g1, if_pos (by omega)]
          show some (adn 0) = some ((if j = n then adn else α j) 0)
          rw [if_pos g1]
        · rw [if_neg g1]
          by_cases g2 : j < n
          · rw [if_pos g2, if_pos (by omega)]
            show some (α j 0) = some ((if j = n then adn else α j) 0)
            rw [if_neg g1]
          · rw [if_neg g2, if_neg (by omega)]
      rw [hrw] at Z
      have Z : zW Δ A s.heap ((wS Δ adn zInit ++ wS Δ ad2 c0) ++ (wX2 Δ ad (nI (zo o k)) (nI (zk k)) (zRows (n + 1) (fun j => if j = n then adn else α j)) ++ zPool Δ n α σ)) _ _ := Z.perm (zPerm (fun x => by simp only [List.count_append]; omega))
      refine lv_aload_n X.x X.b dX2_keep_71 rfl (lv_at hl 0 rfl) ?_
      refine lv_aload_n X.x X.b dX2_keep_72 rfl (lv_at hl 3 rfl) ?_
      refine z_callVP X Z hl (mX3_copyFrom l Δ adn ad2 zInit.1 zInit.2.1 zInit.2.2.1 zInit.2.2.2.1 zInit.2.2.2.2.1 zInit.2.2.2.2.2.1 zInit.2.2.2.2.2.2.1 zInit.2.2.2.2.2.2.2.1 zInit.2.2.2.2.2.2.2.2.1 zInit.2.2.2.2.2.2.2.2.2.1 zInit.2.2.2.2.2.2.2.2.2.2.1 zInit.2.2.2.2.2.2.2.2.2.2.2.1 zInit.2.2.2.2.2.2.2.2.2.2.2.2 c0.1 c0.2.1 c0.2.2.1 c0.2.2.2.1 c0.2.2.2.2.1 c0.2.2.2.2.2.1 c0.2.2.2.2.2.2.1 c0.2.2.2.2.2.2.2.1 c0.2.2.2.2.2.2.2.2.1 c0.2.2.2.2.2.2.2.2.2.1 c0.2.2.2.2.2.2.2.2.2.2.1 c0.2.2.2.2.2.2.2.2.2.2.2.1 c0.2.2.2.2.2.2.2.2.2.2.2.2 (zcp_eq zInit c0)) wd_377 wd_270 wd_271 wd_20 wd_272 ok_X3_copyFrom 3 rfl 0 rfl (List.Perm.refl _) rfl rfl (rest := []) rfl (Nat.le_of_ble_eq_true rfl) ⟨Nat.le_of_ble_eq_true rfl, Nat.le_of_ble_eq_true rfl⟩ ⟨Nat.le_of_ble_eq_true rfl, Nat.le_of_ble_eq_true rfl⟩ (st1 := []) rfl dX2_keep_73 (fun H locs Z => ?_)
      have hpool : zPool Δ (n + 1) (fun j => if j = n then adn else α j) (fun j => if j = zp o k then zcp (if zp o k < n then σ (zp o k) else zInit) c0 else σ j) = zPool Δ n α σ ++ wS Δ adn (zcp zInit c0) := by
        rw [zPool, zPool_congr (α := α) (σ := σ) (fun i hi => ⟨if_neg (by omega), if_neg (by omega)⟩)]
        simp only [if_true, hpn, Nat.lt_irrefl, if_false]
      have Z : zW Δ A s.heap ((wX2 Δ ad (nI (zo o k)) (nI (zk k)) (zRows (n + 1) (fun j => if j = n then adn else α j)) ++ wS Δ ad2 c0) ++ zPool Δ (n + 1) (fun j => if j = n then adn else α j) (fun j => if j = zp o k then zcp (if zp o k < n then σ (zp o k) else zInit) c0 else σ j)) _ _ := Z.perm (zPerm (fun x => by rw [hpool]; have e9 : wX3 Δ adn (zcp zInit c0).1 (zcp zInit c0).2.1 (zcp zInit c0).2.2.1 (zcp zInit c0).2.2.2.1 (zcp zInit c0).2.2.2.2.1 (zcp zInit c0).2.2.2.2.2.1 (zcp zInit c0).2.2.2.2.2.2.1 (zcp zInit c0).2.2.2.2.2.2.2.1 (zcp zInit c0).2.2.2.2.2.2.2.2.1 (zcp zInit c0).2.2.2.2.2.2.2.2.2.1 (zcp zInit c0).2.2.2.2.2.2.2.2.2.2.1 (zcp zInit c0).2.2.2.2.2.2.2.2.2.2.2.1 (zcp zInit c0).2.2.2.2.2.2.2.2.2.2.2.2 = wS Δ adn (zcp zInit c0) := rfl; rw [e9]; have e8 : wX3 Δ ad2 c0.1 c0.2.1 c0.2.2.1 c0.2.2.2.1 c0.2.2.2.2.1 c0.2.2.2.2.2.1 c0.2.2.2.2.2.2.1 c0.2.2.2.2.2.2.2.1 c0.2.2.2.2.2.2.2.2.1 c0.2.2.2.2.2.2.2.2.2.1 c0.2.2.2.2.2.2.2.2.2.2.1 c0.2.2.2.2.2.2.2.2.2.2.2.1 c0.2.2.2.2.2.2.2.2.2.2.2.2 = wS Δ ad2 c0 := rfl; rw [e8]; simp only [List.count_append]; omega))
      refine lv_aload_n X.x X.b dX2_keep_76 rfl (lv_at hl 2 rfl) ?_
      refine lv_dup X.x X.b dX2_keep_77 rfl ?_
      refine z_gf inG_X2 (ci := 2) rfl 2 (Nat.le_of_ble_eq_true rfl) rfl X Z wd_134 0 rfl (v := .int (nI (zk k))) rfl dX2_keep_78 ?_
      refine lv_iconst (v := 1) X.x X.b dX2_keep_81 ki_1 ?_
      refine lv_iadd X.x X.b dX2_keep_82 ?_
      rw [nI_1]
      refine z_pf (w' := ((wX2 Δ ad (nI (zo o k)) (nI (zk k + 1)) (zRows (n + 1) (fun j => if j = n then adn else α j)) ++ wS Δ ad2 c0) ++ zPool Δ (n + 1) (fun j => if j = n then adn else α j) (fun j => if j = zp o k then zcp (if zp o k < n then σ (zp o k) else zInit) c0 else σ j))) inG_X2 (ci := 2) rfl tyX2 tyX2_ok nmX2 2 (Nat.le_of_ble_eq_true rfl) rfl rfl X Z wd_134 0 rfl rfl rfl (Nat.le_of_ble_eq_true rfl) rfl dX2_keep_83 (fun H locs Z => ?_)
      have hzn : zn n (zp o k) = n + 1 := if_neg hlt
      exact c_vret X Z ⟨rfl, (fun j => if j = n then adn else α j), by rw [hzn]⟩ (Nat.le_of_ble_eq_true rfl) (Nat.le_of_ble_eq_true rfl) dX2_keep_86
  refine lv_aload_n X.x X.b dX2_keep_0 rfl (lv_at hl 0 rfl) ?_
  refine z_gf inG_X2 (ci := 2) rfl 2 (Nat.le_of_ble_eq_true rfl) rfl X Z wd_134 0 rfl (v := .int (nI k)) rfl dX2_keep_1 ?_
  refine lv_bipush (v := 6) X.x X.b dX2_keep_4 kb_6 ?_
  refine lv_icmp_lt (tgt := 32) X.x X.b dX2_keep_6 (by decide) (fun b1 => ?_) (fun b1 => ?_)
  · have hk6 : ¬ k = 6 := by rintro rfl; exact absurd b1 (by decide)
    have e1 : zo o k = o := if_neg hk6
    have e2 : zk k = k := if_neg hk6
    exact K32 _ _ _ (by rw [e1, e2]; exact Z) hl
  · have hk6 : k = 6 := by
      rcases Nat.lt_or_ge k 6 with q | q
      · exact absurd (nI_lt q (by decide)) b1
      · omega
    have e1 : zo o k = (o + 1) % 6 := if_pos hk6
    have e2 : zk k = 5 := if_pos hk6
    subst hk6
    refine lv_aload_n X.x X.b dX2_keep_9 rfl (lv_at hl 0 rfl) ?_
    refine lv_aload_n X.x X.b dX2_keep_10 rfl (lv_at hl 0 rfl) ?_
    refine z_gf inG_X2 (ci := 2) rfl 1 (Nat.le_of_ble_eq_true rfl) rfl X Z wd_133 0 rfl (v := .int (nI o)) rfl dX2_keep_11 ?_
    refine lv_iconst (v := 1) X.x X.b dX2_keep_14 ki_1 ?_
    refine lv_iadd X.x X.b dX2_keep_15 ?_
    refine lv_bipush (v := 6) X.x X.b dX2_keep_16 kb_6 ?_
    refine lv_irem X.x X.b dX2_keep_18 (by decide) ?_
    have er : nI o + 1 - (nI o + 1) / 6 * 6 = nI ((o + 1) % 6) := by rw [nI_1]; exact pk_rem (d := 6) (by omega) (by decide) (by decide)
    rw [er]
    refine z_pf (w' := ((wX2 Δ ad (nI ((o + 1) % 6)) (nI 6) (zRows n α) ++ wS Δ ad2 c0) ++ zPool Δ n α σ)) inG_X2 (ci := 2) rfl tyX2 tyX2_ok nmX2 1 (Nat.le_of_ble_eq_true rfl) rfl rfl X Z wd_133 0 rfl rfl rfl (Nat.le_of_ble_eq_true rfl) rfl dX2_keep_19 (fun H locs Z => ?_)
    refine lv_aload_n X.x X.b dX2_keep_22 rfl (lv_at hl 0 rfl) ?_
    refine lv_dup X.x X.b dX2_keep_23 rfl ?_
    refine z_gf inG_X2 (ci := 2) rfl 2 (Nat.le_of_ble_eq_true rfl) rfl X Z wd_134 0 rfl (v := .int (nI 6)) rfl dX2_keep_24 ?_
    refine lv_iconst (v := 1) X.x X.b dX2_keep_27 ki_1 ?_
    refine lv_isub X.x X.b dX2_keep_28 ?_
    have es : nI 6 - 1 = nI 5 := by decide
    rw [es]
    refine z_pf (w' := ((wX2 Δ ad (nI ((o + 1) % 6)) (nI 5) (zRows n α) ++ wS Δ ad2 c0) ++ zPool Δ n α σ)) inG_X2 (ci := 2) rfl tyX2 tyX2_ok nmX2 2 (Nat.le_of_ble_eq_true rfl) rfl rfl X Z wd_134 0 rfl rfl rfl (Nat.le_of_ble_eq_true rfl) rfl dX2_keep_29 (fun H locs Z => ?_)
    exact K32 _ _ _ (by rw [e1, e2]; exact Z) hl
/-- the saved states behind keep -/
def zkeep (o k n : Nat) (σ : Nat → zSC) (c0 : zSC) : Nat → zSC := fun j => if j = zp o k then zcp (if zp o k < n then σ (zp o k) else zInit) c0 else σ j
/-- where the latest lies -/
def zl (o k : Nat) : Nat := (o + k - 1) % 6
theorem zSub_tail {ws wc pl : va_W} {isC : List Nat} (h : zSub ws wc isC) : zSub (ws ++ pl) wc isC := by
  refine ⟨?_, h.2⟩
  rw [← h.1]
  apply List.map_congr_left
  intro i hi
  have h1 : ws[i]? ∈ isC.map (fun i => ws[i]?) := List.mem_map.mpr ⟨i, hi, rfl⟩
  rw [h.1] at h1
  obtain ⟨q, -, hq⟩ := List.mem_map.mp h1
  exact List.getElem?_append_left (List.getElem?_eq_some_iff.mp hq.symm).1
theorem zput_tail {ws wc w1 w' pl : va_W} {isC : List Nat} (h : zSub ws wc isC) (hw : zput ws isC w1 = w') : zput (ws ++ pl) isC w1 = w' ++ pl := by
  rw [← hw]
  have hlt : ∀ i ∈ isC, i < ws.length := by
    intro i hi
    have h1 : ws[i]? ∈ isC.map (fun i => ws[i]?) := List.mem_map.mpr ⟨i, hi, rfl⟩
    rw [h.1] at h1
    obtain ⟨q, -, hq⟩ := List.mem_map.mp h1
    exact (List.getElem?_eq_some_iff.mp hq.symm).1
  clear h hw
  induction isC generalizing w1 with
  | nil => rfl
  | cons i is ih =>
    cases w1 with
    | nil => rfl
    | cons x xs =>
      rw [zput, zput, ih (fun j hj => hlt j (List.mem_cons_of_mem _ hj)), List.set_append_left _ _ (by rw [zput_len]; exact hlt i List.mem_cons_self)]
section ZHC
variable {p : Program} {l : Launch} {e : Env} {R : Room} {s : State} {m : MethodId} {args : Array Value} {below : List Frame} {meth : Method} {c : Code} {H : Heap} {locs : List Loc} {cells slots : Nat} {Q : State → Prop} {Δ : zE} {y0 : MethodName} {cc : ByteArray} {nL : Nat} {rt : Option FieldType} {A : Nat → Prop} {pc : Nat} {ls : Array Slot} {rest : List Value} {index : Nat} {lvs : List (Nat × Value)}
theorem z_aret {v : Value} {rt1 : FieldType} {w1 : va_W} (X : zX Δ p s m args meth c y0 cc nL (some rt1) A) (Z : zW Δ A s.heap w1 H locs) (hrt : (∃ n, rt1 = .object n) ∨ ∃ t, rt1 = .array t) (hv : v = .null ∨ ∃ a, v = .ref a) (hdg : decode cc pc = .ok (.areturn, 1)) : W p l e R s m args below meth c H locs cells slots (zEnd Δ below args s cells slots A (some v) w1) (F0 m pc ls [v]) :=
  W.aret X.x X.b X.2.2.2.1 hrt hv (fun t ht _ => ⟨⟨rfl, by rw [ht]; exact Z.1⟩, Z.2.2.F ht⟩) Z.2.2.2.2 hdg X.2.2.2.2.1
set_option maxHeartbeats 4000000 in
/-- the state is saved -/
theorem x_keep {ad : Nat → Nat} {reached : Int32} {lost : Int32} {size : Int32} {plots : Nat → Int32} {cliffs : Nat → Int32} {words : Nat → Int32} {needs : Nat → Int32} {told : Nat → Int32} {rea : Nat → Int32} {wread : Nat → Int32} {ltold : Nat → Int32} {lout : Nat → Int32} {sets : Nat → Int32} {len : Int32} {codes : Nat → Int32} {gpl : Int32} {gps : Int32} {gcl : Int32} {gwo : Int32} {o k n : Nat} {α : Nat → Nat → Nat} {σ : Nat → zSC} (X : zX Δ p s m args meth c y0 cc nL rt A) (Z : zW Δ A s.heap ((wX6 Δ ad reached lost size plots cliffs words needs told rea wread ltold lout sets (nI o) (nI k) (zRows n α) len codes gpl gps gcl gwo) ++ zPool Δ n α σ) H locs) (hl : lv_has ls nL lvs) (hH : zH o k n) (h1 : Cond.methodLink y0.cls index yX2_keep ∈ zG) (h2 : Cond.instanceMethod yX2_keep ∈ zG) (h3 : Cond.selects yX2_keep.cls yX2_keep yX2_keep ∈ zG) (h4 : Cond.initialized yX2_keep.cls ∈ zG) (h5 : Cond.code yX2_keep cX2_keep 4 none ∈ zG) (hd : zOK yX2_keep 1)
    (hW : (rest.map fun v => v.category).sum ≤ 8) (hR : 3 + 1 ≤ R.frames ∧ 8 + (4 + 11) + 82 ≤ R.locals) (hrc : cells + 13 ≤ R.cells ∧ slots + 127 ≤ R.slots) (hdg : decode cc pc = .ok (.invokevirtual index, 3))
    (kk : ∀ (α1 : Nat → Nat → Nat) (H1 : Heap) (locs1 : List Loc), zW Δ A s.heap ((wX6 Δ ad reached lost size plots cliffs words needs told rea wread ltold lout sets (nI (zo o k)) (nI (zk k + 1)) (zRows (zn n (zp o k)) α1) len codes gpl gps gcl gwo) ++ zPool Δ (zn n (zp o k)) α1 (zkeep o k n σ (reached, lost, size, plots, cliffs, words, needs, told, rea, wread, ltold, lout, sets))) H1 locs1 → W p l e R s m args below meth c H1 locs1 (cells + 13) (slots + 127) Q (F0 m (pc + 3) ls rest)) : W p l e R s m args below meth c H locs cells slots Q (F0 m pc ls (.ref (ad 1) :: .ref (ad 14) :: rest)) := by
  have e1 : ∀ (ok kk : Int32) (rw : Nat → Option Nat), wX6 Δ ad reached lost size plots cliffs words needs told rea wread ltold lout sets ok kk rw len codes gpl gps gcl gwo = (([(ad 0, .inr (6, [.ref (ad 1), .ref (ad 14), .ref (ad 16)]))] ++ wS Δ (fun j => ad (j + 1)) (reached, lost, size, plots, cliffs, words, needs, told, rea, wread, ltold, lout, sets)) ++ wX2 Δ (fun j => ad (j + 14)) ok kk rw) ++ wX5 Δ (fun j => ad (j + 16)) len codes gpl gps gcl gwo := fun _ _ _ => rfl
  refine c_callV (wr := [(ad 0, .inr (6, [.ref (ad 1), .ref (ad 14), .ref (ad 16)]))] ++ wX5 Δ (fun j => ad (j + 16)) len codes gpl gps gcl gwo) X Z hl (mX2_keep l Δ (fun j => ad (j + 14)) (fun j => ad (j + 1)) o k n α σ (reached, lost, size, plots, cliffs, words, needs, told, rea, wread, ltold, lout, sets) hH) h1 h2 h3 h4 h5 hd 2 rfl 14 rfl (zPerm (fun x => by rw [e1]; simp only [List.count_append]; omega)) rfl rfl hW hR hrc hdg (fun rv w1 H1 locs1 hP Z1 => ?_)
  obtain ⟨rfl, α1, rfl⟩ := hP
  refine W.eq (g2 := F0 m (pc + 3) ls rest) rfl (kk α1 H1 locs1 (Z1.perm (zPerm (fun x => by rw [e1]; simp only [List.count_append]; unfold zkeep; omega))))
end ZHC
set_option maxRecDepth 100000 in
set_option maxHeartbeats 4000000 in
theorem mX2_latest (l : Launch) (Δ : zE) (ad : Nat → Nat) (o k n : Nat) (α : Nat → Nat → Nat) (hH : zH o k n) : zMet l Δ yX2_latest cX2_latest 1 (some (.object "SerialRecaps$State")) 0 0 [.ref (ad 0)] (wX2 Δ ad (nI o) (nI k) (zRows n α)) (wX2 Δ ad (nI o) (nI k) (zRows n α)) (some (if k = 0 then Value.null else .ref (α (zl o k) 0))) := by
  refine z_start (by decide +kernel) (Nat.le_of_ble_eq_true rfl) ?_
  intro p e s m args below meth c A ls X Z hl
  have hl : lv_has ls 1 [(0, .ref (ad 0))] := hl
  obtain ⟨ho, hk, hn, hkn, hon⟩ := id hH
  refine lv_aload_n X.x X.b dX2_latest_0 rfl (lv_at hl 0 rfl) ?_
  refine z_gf inG_X2 (ci := 2) rfl 2 (Nat.le_of_ble_eq_true rfl) rfl X Z wd_134 0 rfl (v := .int (nI k)) rfl dX2_latest_1 ?_
  refine lv_iconst (v := 1) X.x X.b dX2_latest_4 ki_1 ?_
  refine lv_icmp_ge (tgt := 10) X.x X.b dX2_latest_5 (by decide) (fun b1 => ?_) (fun b1 => ?_)
  · have hk0 : ¬ k = 0 := by rintro rfl; exact absurd b1 (by decide)
    rw [if_neg hk0]
    refine lv_aload_n X.x X.b dX2_latest_10 rfl (lv_at hl 0 rfl) ?_
    refine z_gf inG_X2 (ci := 2) rfl 0 (Nat.le_of_ble_eq_true rfl) rfl X Z wd_132 0 rfl (v := .ref (ad 1)) rfl dX2_latest_11 ?_
    refine lv_aload_n X.x X.b dX2_latest_14 rfl (lv_at hl 0 rfl) ?_
    refine z_gf inG_X2 (ci := 2) rfl 1 (Nat.le_of_ble_eq_true rfl) rfl X Z wd_133 0 rfl (v := .int (nI o)) rfl dX2_latest_15 ?_
    refine lv_aload_n X.x X.b dX2_latest_18 rfl (lv_at hl 0 rfl) ?_
    refine z_gf inG_X2 (ci := 2) rfl 2 (Nat.le_of_ble_eq_true rfl) rfl X Z wd_134 0 rfl (v := .int (nI k)) rfl dX2_latest_19 ?_
    refine lv_iadd X.x X.b dX2_latest_22 ?_
    refine lv_iconst (v := 1) X.x X.b dX2_latest_23 ki_1 ?_
    refine lv_isub X.x X.b dX2_latest_24 ?_
    refine lv_bipush (v := 6) X.x X.b dX2_latest_25 kb_6 ?_
    refine lv_irem X.x X.b dX2_latest_27 (by decide) ?_
    have e0 : nI o + nI k - 1 = nI (o + k - 1) := by
      obtain ⟨j, rfl⟩ : ∃ j, k = j + 1 := ⟨k - 1, by omega⟩
      rw [nI_add]
      exact nI_pred (o + j)
    have er : (nI o + nI k - 1) - (nI o + nI k - 1) / 6 * 6 = nI (zl o k) := by rw [e0]; exact pk_rem (d := 6) (by omega) (by decide) (by decide)
    rw [er]
    have hin : vp_in (nI (zl o k)) 6 := vp_in_nI (Nat.mod_lt _ (by decide)) (by decide)
    have hz6 : zl o k < 6 := Nat.mod_lt _ (by decide)
    have hlt : zl o k < n := by have hz : zl o k = (o + k - 1) % 6 := rfl; omega
    have hrow : va_rf (zRows n α (nI (zl o k)).toNatClampNeg) = .ref (α (zl o k) 0) := by rw [nI_clamp (by omega), zRows, if_pos hlt]; rfl
    refine h_aald X Z 1 rfl hin hrow dX2_latest_28 ?_
    exact z_aret X Z (Or.inl ⟨_, rfl⟩) (Or.inr ⟨_, rfl⟩) dX2_latest_29
  · have hk0 : k = 0 := by
      rcases Nat.eq_zero_or_pos k with q | q
      · exact q
      · exact absurd (nI_le (a := 1) q (by omega)) b1
    rw [if_pos hk0]
    refine lv_null X.x X.b dX2_latest_8 ?_
    exact z_aret X Z (Or.inl ⟨_, rfl⟩) (Or.inl rfl) dX2_latest_9
