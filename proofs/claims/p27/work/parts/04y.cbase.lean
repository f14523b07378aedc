/-! METHODS THAT MAKE CELLS AND THROW NOTHING; making cells -/
def zMC (l : Launch) (Δ : zE) (y : MethodName) (cw : Cond) (fr lo mc ms : Nat) (av : List Value) (wc : va_W) (P : Option Value → va_W → Prop) : Prop :=
  ∀ sz : Nat, Met l y (cw :: zG) { frames := fr, cells := mc, slots := ms, locals := lo } (va_Pc av (fun U => U.heap.size = sz ∧ va_P Δ.1 vwCl wc U.heap ∧ zK Δ U ∧ va_D (fun _ => True) wc)) (zQG Δ P (va_A wc sz)) mc ms (va_A wc sz)
def zEndC (Δ : zE) (below : List Frame) (args : Array Value) (s : State) (mc ms : Nat) (A : Nat → Prop) (P : Option Value → va_W → Prop) : State → Prop := MQ below (zQG Δ P A) args s mc ms A
/-- addresses by a list -/
def zAd (L : List Nat) : Nat → Nat := fun k => L.getD k 0
theorem zPerm {α : Type} {a b : List α} (h : ∀ [DecidableEq α] (x : α), a.count x = b.count x) : a.Perm b := by
  haveI : DecidableEq α := fun a b => Classical.propDecidable _
  exact List.perm_iff_count.mpr h
section ZCB
variable {p : Program} {l : Launch} {e : Env} {R : Room} {s : State} {m : MethodId} {args : Array Value} {below : List Frame} {meth : Method} {c : Code} {H : Heap} {locs : List Loc} {cells slots : Nat} {Q : State → Prop} {Δ : zE} {y0 : MethodName} {cc : ByteArray} {nL : Nat} {rt : Option FieldType} {A : Nat → Prop} {ws w' : va_W} {pc : Nat} {ls : Array Slot} {rest : List Value}
variable {P : Option Value → va_W → Prop} {mc ms : Nat} {wc0 : va_W}
theorem c_start {y : MethodName} {bytes : ByteArray} {maxL : Nat} {ret : Option FieldType} {fr lo : Nat} {av : List Value} (hy : plainName y.cls = true) (hn : (lg_sl av).length ≤ maxL)
    (body : ∀ (p : Program) (e : Env) (s : State) (m : MethodId) (args : Array Value) (below : List Frame) (meth : Method) (c : Code) (A : Nat → Prop) (ls : Array Slot), zX Δ p s m args meth c y bytes maxL ret A → zW Δ A s.heap wc0 s.heap [] → lv_has ls maxL (lv_args 0 av) →
      W p l e { frames := fr, cells := mc, slots := ms, locals := lo } s m args below meth c s.heap [] 0 0 (zEndC Δ below args s mc ms A P) (F0 m 0 ls [])) : zMC l Δ y (.code y bytes maxL ret) fr lo mc ms av wc0 P := by
  intro sz
  refine Met.ofW (cc := bytes) (maxL := maxL) (ret := ret) hy rfl ?_
  intro p e s m args below meth c s₁ B hml hv
  obtain ⟨rfl, hsz, hP, hK, hD0⟩ := hv
  have hts := atoms_spec (ws := .code y bytes maxL ret :: zG) B.pre
  have hts' : ∀ w ∈ zG, w.before av.toArray s = true := fun w h => hts w (List.mem_cons_of_mem _ h)
  subst hsz
  have hD := hD0.self (sz := s.heap.size)
  have hA : ∀ q : Nat, s.heap.size ≤ q → va_A wc0 s.heap.size q := fun q h => Or.inr h
  have hl := lv_entry av (n := maxL) hn
  rw [lg_entry_eq]
  exact body p e s m _ below meth c _ _ ⟨⟨B.exec, B.bytes, hml, findClass_of_methodNamed B.named, hts'⟩, hK, hA, B.returns, B.notSynchronized, (name_of_methodNamed B.named B.method).1⟩ ⟨hP, hD, va_S.rf⟩ hl
theorem c_vret {w1 : va_W} (X : zX Δ p s m args meth c y0 cc nL none A) (Z : zW Δ A s.heap w1 H locs) (hP : P none w1) (hc : cells ≤ mc) (hs : slots ≤ ms) (hdg : decode cc pc = .ok (.return_, 1)) : W p l e R s m args below meth c H locs cells slots (zEndC Δ below args s mc ms A P) (F0 m pc ls []) :=
  W.widen hc hs (W.vret X.x X.b X.2.2.2.1 (fun t ht _ => ⟨⟨_, _, rfl, hP, by rw [ht]; exact Z.1, Z.2.1⟩, Z.2.2.F ht⟩) Z.2.2.2.2 hdg X.2.2.2.2.1)
theorem c_aret {v : Value} {rt1 : FieldType} {w1 : va_W} (X : zX Δ p s m args meth c y0 cc nL (some rt1) A) (Z : zW Δ A s.heap w1 H locs) (hrt : (∃ n, rt1 = .object n) ∨ ∃ t, rt1 = .array t) (hv : v = .null ∨ ∃ a, v = .ref a) (hP : P (some v) w1) (hc : cells ≤ mc) (hs : slots ≤ ms) (hdg : decode cc pc = .ok (.areturn, 1)) : W p l e R s m args below meth c H locs cells slots (zEndC Δ below args s mc ms A P) (F0 m pc ls [v]) :=
  W.widen hc hs (W.aret X.x X.b X.2.2.2.1 hrt hv (fun t ht _ => ⟨⟨_, _, rfl, hP, by rw [ht]; exact Z.1, Z.2.1⟩, Z.2.2.F ht⟩) Z.2.2.2.2 hdg X.2.2.2.2.1)
theorem c_objInit {idx : Nat} {a : Nat} {lvs : List (Nat × Value)} (X : zX Δ p s m args meth c y0 cc nL rt A) (hl : lv_has ls nL lvs) (h1 : Cond.methodLink y0.cls idx Lib.objectInit ∈ zG) (h2 : Cond.instanceMethod Lib.objectInit ∈ zG) (h3 : Cond.code Lib.objectInit ⟨#[0xb1]⟩ 1 none ∈ zG) (hd : decode cc pc = .ok (.invokespecial idx, 3)) (hr1 : 1 ≤ R.frames) (hr2 : (rest.map fun v => v.category).sum + 12 ≤ R.locals)
    (kk : W p l e R s m args below meth c H locs cells slots Q (F0 m (pc + 3) ls rest)) : W p l e R s m args below meth c H locs cells slots Q (F0 m pc ls (.ref a :: rest)) :=
  W.objInit X.x X.b X.own (X.ts _ h1) (X.ts _ h2) (X.ts _ h3) (g := F0 m pc ls (.ref a :: rest)) rfl (hl.1.trans X.1.2.2.1.symm) rfl hd hr1 (by show 2 * 0 + _ + 12 ≤ _; omega) kk
theorem c_new {C : String} {T : u_T} {N ci index : Nat} (hin : ∀ w ∈ u_ws C T N, w ∈ zG) (hc : vwCl[ci]? = some (C, T, N)) (ty : Nat → FieldType) (hty : ∀ k, k < N → parseFieldDescriptor (T k).2.2.1 = some (ty k)) {fs : List Value} (hfs : ∀ j, j < N → defaultValue (ty j) = vp_V fs j) (X : zX Δ p s m args meth c y0 cc nL rt A) (Z : zW Δ A s.heap ws H locs) (h1 : Cond.classLink y0.cls index C ∈ zG) (h2 : Cond.instantiable C N ∈ zG) (h3 : Cond.initialized C ∈ zG) (hcells : cells + 1 ≤ R.cells) (hslots : slots + N ≤ R.slots) (hdg : decode cc pc = .ok (.new index, 3))
    (kk : ∀ (q : Nat) (H1 : Heap), zW Δ A s.heap (ws ++ [(q, .inr (ci, fs))]) H1 locs → W p l e R s m args below meth c H1 locs (cells + 1) (slots + N) Q (F0 m (pc + 3) ls (.ref q :: rest))) : W p l e R s m args below meth c H locs cells slots Q (F0 m pc ls rest) :=
  va_new X.x X.b X.ts hin ty hty X.own (X.ts _ h1) (X.ts _ h2) (X.ts _ h3) X.K.1 Z.1 Z.2.1 Z.2.2 X.2.2.1 hc hfs hcells hslots hdg (fun q H1 a b d => kk q H1 ⟨a, b, d⟩)
theorem c_newaI {n : Int32} {N' : Nat} (X : zX Δ p s m args meth c y0 cc nL rt A) (Z : zW Δ A s.heap ws H locs) (h1 : Cond.arrayClass .int ∈ zG) (hn : ¬ n < 0) (hN : n.toNatClampNeg = N') (hb : N' * componentBytes .int ≤ 536870912) (hcells : cells + 1 ≤ R.cells) (hslots : slots + N' ≤ R.slots) (hdg : decode cc pc = .ok (.newarray .int, 2))
    (kk : ∀ (q : Nat) (H1 : Heap), zW Δ A s.heap (ws ++ [(q, .inl (Δ.2.1, N', .inl (fun _ => 0)))]) H1 locs → W p l e R s m args below meth c H1 locs (cells + 1) (slots + N') Q (F0 m (pc + 2) ls (.ref q :: rest))) : W p l e R s m args below meth c H locs cells slots Q (F0 m pc ls (.int n :: rest)) := by
  refine va_newa (atype := .int) (ty := .int) (a0 := (N', .inl (fun _ => 0))) X.x X.b (X.ts _ h1) rfl X.K.1 Z.1 Z.2.1 Z.2.2 X.2.2.1 (fun _ => rfl) hn hN hb hcells hslots hdg (fun q cA H1 hK a b d => ?_)
  have e1 := (hK.2 4 (cA, .int) rfl).2
  have e2 := (X.K.1.2 0 (Δ.2.1, .int) rfl).2
  have e : cA = Δ.2.1 := Option.some.inj (e1.symm.trans e2)
  subst e
  exact kk q H1 ⟨a, b, d⟩
theorem c_newaL {n : Int32} {N' : Nat} (X : zX Δ p s m args meth c y0 cc nL rt A) (Z : zW Δ A s.heap ws H locs) (h1 : Cond.arrayClass .long ∈ zG) (hn : ¬ n < 0) (hN : n.toNatClampNeg = N') (hb : N' * componentBytes .long ≤ 536870912) (hcells : cells + 1 ≤ R.cells) (hslots : slots + N' ≤ R.slots) (hdg : decode cc pc = .ok (.newarray .long, 2))
    (kk : ∀ (q : Nat) (H1 : Heap), zW Δ A s.heap (ws ++ [(q, .inl (Δ.2.2.2.1, N', .inr (.inl (fun _ => 0))))]) H1 locs → W p l e R s m args below meth c H1 locs (cells + 1) (slots + N') Q (F0 m (pc + 2) ls (.ref q :: rest))) : W p l e R s m args below meth c H locs cells slots Q (F0 m pc ls (.int n :: rest)) := by
  refine va_newa (atype := .long) (ty := .long) (a0 := (N', .inr (.inl (fun _ => 0)))) X.x X.b (X.ts _ h1) rfl X.K.1 Z.1 Z.2.1 Z.2.2 X.2.2.1 (fun _ => rfl) hn hN hb hcells hslots hdg (fun q cA H1 hK a b d => ?_)
  have e1 := (hK.2 4 (cA, .long) rfl).2
  have e2 := (X.K.1.2 2 (Δ.2.2.2.1, .long) rfl).2
  have e : cA = Δ.2.2.2.1 := Option.some.inj (e1.symm.trans e2)
  subst e
  exact kk q H1 ⟨a, b, d⟩
theorem c_newaQ {n : Int32} {N' index : Nat} (X : zX Δ p s m args meth c y0 cc nL rt A) (Z : zW Δ A s.heap ws H locs) (h1 : Cond.classLink y0.cls index "SerialRecaps$State" ∈ zG) (hn : ¬ n < 0) (hN : n.toNatClampNeg = N') (hb : N' * 4 ≤ 536870912) (hcells : cells + 1 ≤ R.cells) (hslots : slots + N' ≤ R.slots) (hdg : decode cc pc = .ok (.anewarray index, 3))
    (kk : ∀ (q : Nat) (H1 : Heap), zW Δ A s.heap (ws ++ [(q, .inl (Δ.2.2.2.2, N', .inr (.inr (.inr (.inr (fun _ => none))))))]) H1 locs → W p l e R s m args below meth c H1 locs (cells + 1) (slots + N') Q (F0 m (pc + 3) ls (.ref q :: rest))) : W p l e R s m args below meth c H locs cells slots Q (F0 m pc ls (.int n :: rest)) := by
  refine va_newq (C := "SerialRecaps$State") X.x X.b X.own (X.ts _ h1) X.K.2.2.2.1 X.K.1 Z.1 Z.2.1 Z.2.2 X.2.2.1 hn hN hb hcells hslots hdg (fun q cA H1 hK a b d => ?_)
  have e1 := (hK.2 4 (cA, .object "SerialRecaps$State") rfl).2
  have e2 := (X.K.1.2 3 (Δ.2.2.2.2, .object "SerialRecaps$State") rfl).2
  obtain ⟨_, _, _, _, _, e3⟩ := e1
  obtain ⟨_, _, _, _, _, e4⟩ := e2
  have e : cA = Δ.2.2.2.2 := Option.some.inj (e3.symm.trans e4)
  subst e
  exact kk q H1 ⟨a, b, d⟩
/-- a final field is written in its constructor -/
theorem c_pfF {ref C : String} {T : u_T} {N ci index : Nat} (hin : ∀ w ∈ u_ws C T N, w ∈ zG) (hc : vwCl[ci]? = some (C, T, N)) (ty0 : Nat → FieldType) (hty : ∀ k, k < N → parseFieldDescriptor (T k).2.2.1 = some (ty0 k)) (hnm : ∀ a, a < N → ∀ b, b < N → a ≠ b → (T a).2.1 ≠ (T b).2.1) (k : Nat) (hk : k < N) (href : ref = (T k).1) (hfin : (T k).2.2.2 = true) (X : zX Δ p s m args meth c y0 cc nL rt A) (hinit : y0.name = "<init>") (hdecl : (T k).1 = y0.cls) (Z : zW Δ A s.heap ws H locs) (hl : Cond.fieldLink y0.cls index ref (T k).2.1 (T k).2.2.1 ∈ zG) (q0 : Nat) {a : Nat} {fs : List Value} (he : ws[q0]? = some (a, .inr (ci, fs))) {v : Value} (hn : narrow (ty0 k) v = v) (hfit : fits (ty0 k) v = true) (hlen : k < fs.length) (hw : ws.set q0 (a, .inr (ci, fs.set k v)) = w') (hdg : decode cc pc = .ok (.putfield index, 3))
    (kk : ∀ (H1 : Heap) (locs1 : List Loc), zW Δ A s.heap w' H1 locs1 → W p l e R s m args below meth c H1 locs1 cells slots Q (F0 m (pc + 3) ls rest)) : W p l e R s m args below meth c H locs cells slots Q (F0 m pc ls (v :: .ref a :: rest)) := by
  subst hw
  exact va_putF X.x X.b X.ts hin ty0 hty hnm X.own X.K.1 Z.1 Z.2.1 Z.2.2 q0 he hc k hk (X.ts _ hl) (fun _ h => by rw [href]; exact h) hfin (X.2.2.2.2.2.trans hinit) hdecl (hty k hk) hn hfit hlen hdg (fun H1 locs1 a b d => kk H1 locs1 ⟨a, b, d⟩)
theorem c_goes {wc wr : va_W} {P1 : Option Value → va_W → Prop} {mc1 ms1 : Nat} {st0 : List Value} {a : Array Value} (X : zX Δ p s m args meth c y0 cc nL rt A) (Z : zW Δ A s.heap ws H locs) (hperm : ws.Perm (wc ++ wr))
    (hr : va_Run p l e R s m args below meth c H locs cells slots mc1 ms1 (F0 m pc ls st0) rest (zQG Δ P1 (va_A wc H.size) a) (va_A wc H.size))
    (kk : ∀ (rv : Option Value) (w1 : va_W) (H1 : Heap) (locs1 : List Loc), P1 rv w1 → zW Δ A s.heap (w1 ++ wr) H1 locs1 → W p l e R s m args below meth c H1 locs1 (cells + mc1) (slots + ms1) Q (F0 m (pc + 3) ls (rv.toList ++ rest))) : W p l e R s m args below meth c H locs cells slots Q (F0 m pc ls st0) := by
  have hF : ∀ q, va_A wc H.size q → A q := by
    have Z2 := Z.perm hperm
    rintro q (⟨k, e, h⟩ | h)
    · exact Z2.2.1.2 k (q, e) (by rw [List.getElem?_append_left (List.getElem?_eq_some_iff.mp h).1]; exact h)
    · exact X.2.2.1 q (Nat.le_trans Z.2.2.1 h)
  intro T hT X1
  obtain ⟨v, st₀, t, T', L, h0, X', hL, e1, e2, ⟨⟨rv, w1, hv, hp, hP1, hD1⟩, hF1⟩, st⟩ := hr T hT X1
  obtain ⟨k1, k2, k3⟩ := vx_keep h0 e1 Z.2.2 (fun q _ h => hF q h) hF hL hF1
  obtain rfl : v = rv := by cases hv; rfl
  obtain ⟨t2, a1, b1⟩ := kk v w1 T'.heap (locs ++ L) hp (z_afterG Z X.2.2.1 hperm k3 k2 (by rw [e1]; exact hP1) hD1) T' rfl X'
  exact ⟨t2, st t2 a1, b1⟩
theorem cPre {av : List Value} {wc wr : va_W} (X : zX Δ p s m args meth c y0 cc nL rt A) (Z : zW Δ A s.heap ws H locs) (hperm : ws.Perm (wc ++ wr)) : ∀ U : State, U.heap = H → s.WarmedH U.vm → va_Pc av (fun U => U.heap.size = H.size ∧ va_P Δ.1 vwCl wc U.heap ∧ zK Δ U ∧ va_D (fun _ => True) wc) av.toArray U := by
  intro U hU hW
  have Z2 := Z.perm hperm
  refine ⟨rfl, by rw [hU], ?_, X.K.warm hW, ⟨fun i j p q hi hj e => Z2.2.1.1 i j p q (by rw [List.getElem?_append_left (List.getElem?_eq_some_iff.mp hi).1]; exact hi) (by rw [List.getElem?_append_left (List.getElem?_eq_some_iff.mp hj).1]; exact hj) e, fun _ _ _ => trivial⟩⟩
  rw [hU]
  exact fun k q hq => Z2.1 k q (by rw [List.getElem?_append_left (List.getElem?_eq_some_iff.mp hq).1]; exact hq)
variable {y : MethodName} {bytes : ByteArray} {maxL index n : Nat} {ret : Option FieldType} {fr1 lo1 mc1 ms1 : Nat} {As : List Value} {wc w1 wr : va_W} {rv : Option Value} {st0 st1 : List Value} {b : Nat} {lvs : List (Nat × Value)} {P1 : Option Value → va_W → Prop}
/-- a constructor is called -/
theorem c_callI (X : zX Δ p s m args meth c y0 cc nL rt A) (Z : zW Δ A s.heap ws H locs) (hl : lv_has ls nL lvs) (hM : zMC l Δ y (.code y bytes maxL none) fr1 lo1 mc1 ms1 (.ref b :: As) wc P1) (h1 : Cond.methodLink y0.cls index y ∈ zG) (h2 : Cond.instanceMethod y ∈ zG) (h4 : Cond.initialized y.cls ∈ zG) (h5 : Cond.code y bytes maxL none ∈ zG) (hd : zOK y n) (hy : y.name = "<init>")
    (hperm : ws.Perm (wc ++ wr)) (hlen : As.length = n) (hst : st0 = As.reverse ++ .ref b :: rest) (hW : (rest.map fun v => v.category).sum ≤ 8) (hR : fr1 + 1 ≤ R.frames ∧ 8 + (maxL + 11) + lo1 ≤ R.locals) (hrc : cells + mc1 ≤ R.cells ∧ slots + ms1 ≤ R.slots) (hdg : decode cc pc = .ok (.invokespecial index, 3))
    (kk : ∀ (rv : Option Value) (w1 : va_W) (H1 : Heap) (locs1 : List Loc), P1 rv w1 → zW Δ A s.heap (w1 ++ wr) H1 locs1 → W p l e R s m args below meth c H1 locs1 (cells + mc1) (slots + ms1) Q (F0 m (pc + 3) ls (rv.toList ++ rest))) : W p l e R s m args below meth c H locs cells slots Q (F0 m pc ls st0) := by
  subst hst
  exact c_goes X Z hperm (va_runI (As := As) (rest := rest) (n := n) X.1 (hM H.size) (cwI n X.ts (zG_good (by intro w hw; rcases List.mem_cons.mp hw with rfl | h; exact h5; exact h)) rfl rfl rfl (X.ts _ h4) (X.ts _ h1) (X.ts _ h2) hy ⟨hd.1, hd.2.1, hd.2.2⟩ hR) ⟨zBlind, cPre X Z hperm⟩ rfl hlen hl.1 rfl (lv_room hW) hdg hrc) kk
theorem c_callIN {host : String} (X : zX Δ p s m args meth c y0 cc nL rt A) (Z : zW Δ A s.heap ws H locs) (hl : lv_has ls nL lvs) (hM : zMC l Δ y (.code y bytes maxL none) fr1 lo1 mc1 ms1 (.ref b :: As) wc P1) (h1 : Cond.methodLinkNest y0.cls index y host ∈ zNw) (h2 : Cond.instanceMethod y ∈ zG) (h4 : Cond.initialized y.cls ∈ zG) (h5 : Cond.code y bytes maxL none ∈ zG) (hd : zOK y n) (hy : y.name = "<init>")
    (hperm : ws.Perm (wc ++ wr)) (hlen : As.length = n) (hst : st0 = As.reverse ++ .ref b :: rest) (hW : (rest.map fun v => v.category).sum ≤ 8) (hR : fr1 + 1 ≤ R.frames ∧ 8 + (maxL + 11) + lo1 ≤ R.locals) (hrc : cells + mc1 ≤ R.cells ∧ slots + ms1 ≤ R.slots) (hdg : decode cc pc = .ok (.invokespecial index, 3))
    (kk : ∀ (rv : Option Value) (w1 : va_W) (H1 : Heap) (locs1 : List Loc), P1 rv w1 → zW Δ A s.heap (w1 ++ wr) H1 locs1 → W p l e R s m args below meth c H1 locs1 (cells + mc1) (slots + ms1) Q (F0 m (pc + 3) ls (rv.toList ++ rest))) : W p l e R s m args below meth c H locs cells slots Q (F0 m pc ls st0) := by
  subst hst
  exact c_goes X Z hperm (va_runIN (As := As) (rest := rest) (n := n) X.1 (hM H.size) ⟨va_cnB n X.ts (zG_good (by intro w hw; rcases List.mem_cons.mp hw with rfl | h; exact h5; exact h)) rfl rfl rfl (X.K.2.1 _ h1) (X.ts _ h4) ⟨hd.1, hd.2.1, hd.2.2⟩ hR, hy, X.ts _ h2⟩ ⟨zBlind, cPre X Z hperm⟩ rfl hlen hl.1 rfl (lv_room hW) hdg hrc) kk
/-- an instance method that makes cells is called -/
theorem c_callV (X : zX Δ p s m args meth c y0 cc nL rt A) (Z : zW Δ A s.heap ws H locs) (hl : lv_has ls nL lvs) (hM : zMC l Δ y (.code y bytes maxL ret) fr1 lo1 mc1 ms1 (.ref b :: As) wc P1) (h1 : Cond.methodLink y0.cls index y ∈ zG) (h2 : Cond.instanceMethod y ∈ zG) (h3 : Cond.selects y.cls y y ∈ zG) (h4 : Cond.initialized y.cls ∈ zG) (h5 : Cond.code y bytes maxL ret ∈ zG) (hd : zOK y n)
    (ci : Nat) {fs : List Value} {T : u_T} {N : Nat} (hcl : vwCl[ci]? = some (y.cls, T, N)) (q0 : Nat) (hb0 : ws[q0]? = some (b, .inr (ci, fs))) (hperm : ws.Perm (wc ++ wr)) (hlen : As.length = n) (hst : st0 = As.reverse ++ .ref b :: rest) (hW : (rest.map fun v => v.category).sum ≤ 8) (hR : fr1 + 1 ≤ R.frames ∧ 8 + (maxL + 11) + lo1 ≤ R.locals) (hrc : cells + mc1 ≤ R.cells ∧ slots + ms1 ≤ R.slots) (hdg : decode cc pc = .ok (.invokevirtual index, 3))
    (kk : ∀ (rv : Option Value) (w1 : va_W) (H1 : Heap) (locs1 : List Loc), P1 rv w1 → zW Δ A s.heap (w1 ++ wr) H1 locs1 → W p l e R s m args below meth c H1 locs1 (cells + mc1) (slots + ms1) Q (F0 m (pc + 3) ls (rv.toList ++ rest))) : W p l e R s m args below meth c H locs cells slots Q (F0 m pc ls st0) := by
  subst hst
  exact c_goes X Z hperm (va_runV (As := As) (rest := rest) (n := n) X.1 (hM H.size) (cwV n X.ts (x_gV h1 h2 h3 h4 h5) rfl rfl rfl ⟨rfl, hd.1, hd.2.1, hd.2.2⟩ hR) ⟨zBlind, va_recv X.K.1 Z.1 hcl hb0, cPre X Z hperm⟩ rfl hlen hl.1 rfl (lv_room hW) hdg hrc) kk
theorem z_last (X : zX Δ p s m args meth c y0 cc nL rt A) (Z : zW Δ A s.heap ws H locs) (q0 : Nat) {a n : Nat} {f : Nat → Int64} (ha : ws[q0]? = some (a, .inl (Δ.2.2.2.1, n, .inr (.inl f)))) {i : Int32} {x : Int64} (hin : vp_in i n) (hw : ws.set q0 (a, .inl (Δ.2.2.2.1, n, .inr (.inl (vp_updL f i.toNatClampNeg x)))) = w') (hdg : decode cc pc = .ok (.lastore, 1))
    (kk : ∀ (H1 : Heap) (locs1 : List Loc), zW Δ A s.heap w' H1 locs1 → W p l e R s m args below meth c H1 locs1 cells slots Q (F0 m (pc + 1) ls rest)) : W p l e R s m args below meth c H locs cells slots Q (F0 m pc ls (.long x :: .int i :: .ref a :: rest)) := by
  subst hw
  exact va_last X.x X.b X.K.1 Z.1 Z.2.1 Z.2.2 q0 2 ha rfl hin hdg (fun H1 locs1 a b d => kk H1 locs1 ⟨a, b, d⟩)
theorem z_lald (X : zX Δ p s m args meth c y0 cc nL rt A) (Z : zW Δ A s.heap ws H locs) (q0 : Nat) {a n : Nat} {f : Nat → Int64} (ha : ws[q0]? = some (a, .inl (Δ.2.2.2.1, n, .inr (.inl f)))) {i : Int32} (hin : vp_in i n) (hdg : decode cc pc = .ok (.laload, 1))
    (kk : W p l e R s m args below meth c H locs cells slots Q (F0 m (pc + 1) ls (.long (f i.toNatClampNeg) :: rest))) : W p l e R s m args below meth c H locs cells slots Q (F0 m pc ls (.int i :: .ref a :: rest)) :=
  va_lald X.x X.b X.K.1 Z.1 q0 2 ha rfl hin hdg kk
variable {mx1 mx2 : Nat} {PX1 : String → va_W → Prop}
/-- a call of a method that may throw and may make cells, its world anywhere among the cells -/
theorem x_callV_G (Y : zY Δ p l s m args meth c y0 cc nL rt A) (Z : zW Δ A s.heap ws H locs) (hl : lv_has ls nL lvs) (hM : zMX l Δ y (.code y bytes maxL ret) fr1 lo1 mx1 mx2 (.ref b :: As) wc P1 PX1) (h1 : Cond.methodLink y0.cls index y ∈ zG) (h2 : Cond.instanceMethod y ∈ zG) (h3 : Cond.selects y.cls y y ∈ zG) (h4 : Cond.initialized y.cls ∈ zG) (h5 : Cond.code y bytes maxL ret ∈ zG) (hd : zOK y n)
    (ci : Nat) {fs : List Value} {T : u_T} {N : Nat} (hcl : vwCl[ci]? = some (y.cls, T, N)) (q0 : Nat) (hb0 : ws[q0]? = some (b, .inr (ci, fs))) (hperm : ws.Perm (wc ++ wr)) (hlen : As.length = n) (hst : st0 = As.reverse ++ .ref b :: rest) (hW : (rest.map fun v => v.category).sum ≤ 8) (hR : fr1 + 1 ≤ R.frames ∧ 8 + (maxL + 11) + lo1 ≤ R.locals) (hrc : cells + mx1 ≤ R.cells ∧ slots + mx2 ≤ R.slots) (hdg : decode cc pc = .ok (.invokevirtual index, 3))
    (kx : ∀ (E : String) (ce : Cell) (q : Addr) (w9 : va_W) (H1 : Heap) (locs1 : List Loc), PX1 E w9 → zW Δ A s.heap (w9 ++ wr) H1 locs1 → H1[q]? = some ce → ce.vm = .none → s.vm.findClass E = some ce.cls → vx_W p l e R s m args below meth c H1 locs1 (cells + mx1) (slots + mx2) Q (F0 m pc ls rest) q)
    (kk : ∀ (rv : Option Value) (w1 : va_W) (H1 : Heap) (locs1 : List Loc), P1 rv w1 → zW Δ A s.heap (w1 ++ wr) H1 locs1 → W p l e R s m args below meth c H1 locs1 (cells + mx1) (slots + mx2) Q (F0 m (pc + 3) ls (rv.toList ++ rest))) : W p l e R s m args below meth c H locs cells slots Q (F0 m pc ls st0) := by
  subst hst
  exact x_goes Y Z hperm (vx_runV (As := As) (rest := rest) (n := n) Y.1.1 (hM H.size) (cwV n Y.1.ts (x_gV h1 h2 h3 h4 h5) rfl rfl rfl ⟨rfl, hd.1, hd.2.1, hd.2.2⟩ hR) ⟨xBlind, va_recv Y.1.K.1 Z.1 hcl hb0, xPre Y Z hperm⟩ rfl hlen hl.1 rfl (lv_room hW) hdg hrc) kx kk
end ZCB
