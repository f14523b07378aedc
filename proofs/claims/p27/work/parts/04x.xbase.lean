/-! METHODS THAT THROW, OR MAKE CELLS -/
/-- the statics that a throw reads -/
def zSt (A : Nat → Prop) (U : State) (H : Heap) : Prop := vx_Zq Bundle.tN "UNASSIGNED_STACK" Bundle.steD A U H ∧ vx_Zq Bundle.tN "SUPPRESSED_SENTINEL" Bundle.listD A U H
def zQG (Δ : zE) (P : Option Value → va_W → Prop) (A : Nat → Prop) : Array Value → State → Outcome → State → Prop := fun _ st oc t => (∃ (rv : Option Value) (w1 : va_W), oc = .returned rv ∧ P rv w1 ∧ va_P Δ.1 vwCl w1 t.heap ∧ va_D A w1) ∧ va_F A st t
def zXC (Δ : zE) (PX : String → va_W → Prop) (A : Nat → Prop) : String → State → State → Prop := fun E st t => (∃ w : va_W, PX E w ∧ va_P Δ.1 vwCl w t.heap ∧ va_D A w) ∧ va_F A st t
def zPX (Δ : zE) (av : List Value) (wc : va_W) (sz : Nat) : Array Value → State → Prop := va_Pc av (fun U => U.heap.size = sz ∧ va_P Δ.1 vwCl wc U.heap ∧ zK Δ U ∧ va_D (fun _ => True) wc ∧ zSt (va_A wc sz) U U.heap)
/-- the contract of a method that may throw and may make cells: P of what it answers and its world then, PX of the class that it throws (its world as it was) -/
def zMX (l : Launch) (Δ : zE) (y : MethodName) (cw : Cond) (fr lo mc ms : Nat) (av : List Value) (wc : va_W) (P : Option Value → va_W → Prop) (PX : String → va_W → Prop) : Prop :=
  ∀ sz : Nat, vx_Met l y (cw :: zG) { frames := fr, cells := mc, slots := ms, locals := lo } (zPX Δ av wc sz) (zQG Δ P (va_A wc sz)) (zXC Δ PX (va_A wc sz)) mc ms (va_A wc sz)
def zEndX (Δ : zE) (below : List Frame) (args : Array Value) (s : State) (mc ms : Nat) (A : Nat → Prop) (P : Option Value → va_W → Prop) (PX : String → va_W → Prop) : State → Prop := vx_MQ below (zQG Δ P A) (zXC Δ PX A) args s mc ms A
/-- what stays along such a walk -/
def zY (Δ : zE) (p : Program) (l : Launch) (s : State) (m : MethodId) (args : Array Value) (meth : Method) (c : Code) (y : MethodName) (bytes : ByteArray) (maxL : Nat) (ret : Option FieldType) (A : Nat → Prop) : Prop :=
  zX Δ p s m args meth c y bytes maxL ret A ∧ zSt A s s.heap ∧ l.stackTraces = false
theorem zput_self {ws wc : va_W} {isC : List Nat} (h : zSub ws wc isC) : zput ws isC wc = ws := by
  obtain ⟨hC, hn⟩ := h
  apply List.ext_getElem?
  intro k
  by_cases hk : k ∈ isC
  · obtain ⟨j, hj⟩ := List.getElem?_of_mem hk
    have h1 : (isC.map (fun i => ws[i]?))[j]? = some (ws[k]?) := by rw [List.getElem?_map, hj]; rfl
    rw [hC, List.getElem?_map] at h1
    cases hq : wc[j]? with
    | none => rw [hq] at h1; cases h1
    | some q =>
      rw [hq] at h1
      have h2 : ws[k]? = some q := (Option.some.inj h1).symm
      rw [zput_in hn hj (List.getElem?_eq_some_iff.mp h2).1 (List.getElem?_eq_some_iff.mp hq).1, hq, h2]
  · rw [zput_out hk]
theorem zSt.at {Δ : zE} {A A1 : Nat → Prop} {s U : State} {H : Heap} {ws : va_W} {locs : List Loc} (h : zSt A s s.heap) (Z : zW Δ A s.heap ws H locs) (hA : ∀ q, A1 q → A q) (hvm : s.vm.Alike U.vm) : zSt A1 U H :=
  ⟨((h.1.kept Z.2.2.2.1).moved hvm).narrow hA, ((h.2.kept Z.2.2.2.1).moved hvm).narrow hA⟩
section ZXB
variable {p : Program} {l : Launch} {e : Env} {R : Room} {s : State} {m : MethodId} {args : Array Value} {below : List Frame} {meth : Method} {c : Code} {H : Heap} {locs : List Loc} {cells slots : Nat} {Q : State → Prop} {Δ : zE} {y0 : MethodName} {cc : ByteArray} {nL : Nat} {rt : Option FieldType} {A : Nat → Prop} {ws w' : va_W} {pc : Nat} {ls : Array Slot} {rest : List Value}
variable {P : Option Value → va_W → Prop} {PX : String → va_W → Prop} {mc ms : Nat} {wc0 : va_W}
theorem x_start {y : MethodName} {bytes : ByteArray} {maxL : Nat} {ret : Option FieldType} {fr lo : Nat} {av : List Value} (hT : l.stackTraces = false) (hy : plainName y.cls = true) (hn : (lg_sl av).length ≤ maxL)
    (body : ∀ (p : Program) (e : Env) (s : State) (m : MethodId) (args : Array Value) (below : List Frame) (meth : Method) (c : Code) (A : Nat → Prop) (ls : Array Slot), zY Δ p l s m args meth c y bytes maxL ret A → (∀ x ∈ c.exceptionTable.toList, False) → zW Δ A s.heap wc0 s.heap [] → lv_has ls maxL (lv_args 0 av) →
      W p l e { frames := fr, cells := mc, slots := ms, locals := lo } s m args below meth c s.heap [] 0 0 (zEndX Δ below args s mc ms A P PX) (F0 m 0 ls [])) : zMX l Δ y (.code y bytes maxL ret) fr lo mc ms av wc0 P PX := by
  intro sz
  refine vx_ofW (cc := bytes) (maxL := maxL) (ret := ret) hy rfl ?_
  intro p e s m args below meth c s₁ B hml htab hv
  obtain ⟨rfl, hsz, hP, hK, hD0, hSt⟩ := hv
  have hts := atoms_spec (ws := .code y bytes maxL ret :: zG) B.pre
  have hts' : ∀ w ∈ zG, w.before av.toArray s = true := fun w h => hts w (List.mem_cons_of_mem _ h)
  subst hsz
  have hD := hD0.self (sz := s.heap.size)
  have hA : ∀ q : Nat, s.heap.size ≤ q → va_A wc0 s.heap.size q := fun q h => Or.inr h
  have hl := lv_entry av (n := maxL) hn
  rw [lg_entry_eq]
  exact body p e s m _ below meth c _ _ ⟨⟨⟨B.exec, B.bytes, hml, findClass_of_methodNamed B.named, hts'⟩, hK, hA, B.returns, B.notSynchronized, (name_of_methodNamed B.named B.method).1⟩, hSt, hT⟩ htab ⟨hP, hD, va_S.rf⟩ hl
/-- the same for a method with handlers -/
theorem x_startH {y : MethodName} {bytes : ByteArray} {maxL : Nat} {ret : Option FieldType} {hh : List (Nat × Nat × Nat × Nat)} {fr lo : Nat} {av : List Value} (hT : l.stackTraces = false) (hy : plainName y.cls = true) (hn : (lg_sl av).length ≤ maxL)
    (body : ∀ (p : Program) (e : Env) (s : State) (m : MethodId) (args : Array Value) (below : List Frame) (meth : Method) (c : Code) (A : Nat → Prop) (ls : Array Slot), zY Δ p l s m args meth c y bytes maxL ret A → c.exceptionTable.toList = tableOf hh → zW Δ A s.heap wc0 s.heap [] → lv_has ls maxL (lv_args 0 av) →
      W p l e { frames := fr, cells := mc, slots := ms, locals := lo } s m args below meth c s.heap [] 0 0 (zEndX Δ below args s mc ms A P PX) (F0 m 0 ls [])) : zMX l Δ y (.codeWith y bytes maxL ret hh) fr lo mc ms av wc0 P PX := by
  intro sz
  refine vx_ofWH (cc := bytes) (maxL := maxL) (ret := ret) (hh := hh) hy rfl ?_
  intro p e s m args below meth c s₁ B hml hv
  obtain ⟨rfl, hsz, hP, hK, hD0, hSt⟩ := hv
  have hts := atoms_spec (ws := .codeWith y bytes maxL ret hh :: zG) B.pre
  have hts' : ∀ w ∈ zG, w.before av.toArray s = true := fun w h => hts w (List.mem_cons_of_mem _ h)
  have htab := vx_table (x := y) B (hts _ List.mem_cons_self)
  subst hsz
  have hD := hD0.self (sz := s.heap.size)
  have hA : ∀ q : Nat, s.heap.size ≤ q → va_A wc0 s.heap.size q := fun q h => Or.inr h
  have hl := lv_entry av (n := maxL) hn
  rw [lg_entry_eq]
  exact body p e s m _ below meth c _ _ ⟨⟨⟨B.exec, B.bytes, hml, findClass_of_methodNamed B.named, hts'⟩, hK, hA, B.returns, B.notSynchronized, (name_of_methodNamed B.named B.method).1⟩, hSt, hT⟩ htab ⟨hP, hD, va_S.rf⟩ hl
theorem x_iret {v : Int32} {w1 : va_W} (X : zX Δ p s m args meth c y0 cc nL (some .int) A) (Z : zW Δ A s.heap w1 H locs) (hP : P (some (.int v)) w1) (hc : cells ≤ mc) (hs : slots ≤ ms) (hdg : decode cc pc = .ok (.ireturn, 1)) : W p l e R s m args below meth c H locs cells slots (zEndX Δ below args s mc ms A P PX) (F0 m pc ls [.int v]) :=
  W.widen hc hs (vx_ret (W.iret (v := v) X.x X.b X.2.2.2.1 (fun t ht _ => ⟨⟨_, _, rfl, hP, by rw [ht]; exact Z.1, Z.2.1⟩, Z.2.2.F ht⟩) Z.2.2.2.2 hdg X.2.2.2.2.1))
theorem x_vret {w1 : va_W} (X : zX Δ p s m args meth c y0 cc nL none A) (Z : zW Δ A s.heap w1 H locs) (hP : P none w1) (hc : cells ≤ mc) (hs : slots ≤ ms) (hdg : decode cc pc = .ok (.return_, 1)) : W p l e R s m args below meth c H locs cells slots (zEndX Δ below args s mc ms A P PX) (F0 m pc ls []) :=
  W.widen hc hs (vx_ret (W.vret X.x X.b X.2.2.2.1 (fun t ht _ => ⟨⟨_, _, rfl, hP, by rw [ht]; exact Z.1, Z.2.1⟩, Z.2.2.F ht⟩) Z.2.2.2.2 hdg X.2.2.2.2.1))
theorem x_aret {v : Value} {rt1 : FieldType} {w1 : va_W} (X : zX Δ p s m args meth c y0 cc nL (some rt1) A) (Z : zW Δ A s.heap w1 H locs) (hrt : (∃ n, rt1 = .object n) ∨ ∃ t, rt1 = .array t) (hv : v = .null ∨ ∃ a, v = .ref a) (hP : P (some v) w1) (hc : cells ≤ mc) (hs : slots ≤ ms) (hdg : decode cc pc = .ok (.areturn, 1)) : W p l e R s m args below meth c H locs cells slots (zEndX Δ below args s mc ms A P PX) (F0 m pc ls [v]) :=
  W.widen hc hs (vx_ret (W.aret X.x X.b X.2.2.2.1 hrt hv (fun t ht _ => ⟨⟨_, _, rfl, hP, by rw [ht]; exact Z.1, Z.2.1⟩, Z.2.2.F ht⟩) Z.2.2.2.2 hdg X.2.2.2.2.1))
abbrev zNm : List String := ["java/lang/RuntimeException", "java/lang/Exception"]
/-- throw new E("text") -/
theorem x_throw {cls text : String} {ik is ic : Nat} {w9 : va_W} (Y : zY Δ p l s m args meth c y0 cc nL rt A) (htab : ∀ x ∈ c.exceptionTable.toList, False) (Z : zW Δ A s.heap w9 H locs) {lvs : List (Nat × Value)} (hl : lv_has ls nL lvs) (h1 : Cond.classLink y0.cls ik cls ∈ zG) (h2 : Cond.initialized cls ∈ zG) (h3 : (y0.cls, is, text) ∈ zStr)
    (h4 : ∀ w ∈ (vx_atS y0.cls ic cls zNm).filter goodWord, w ∈ zG) (h5 : ∀ w ∈ (vx_atS y0.cls ic cls zNm).filter (fun w => !goodWord w), w ∈ zNw) (h6 : ∀ w ∈ Cond.classLink y0.cls ik cls :: Cond.initialized cls :: vx_atS y0.cls ic cls zNm, vx_ot w = true) (hf1 : Bundle.fit cls = true) (hf2 : ∀ n ∈ zNm, Bundle.fit n = true)
    (d0 : decode cc pc = .ok (.new ik, 3)) (d3 : decode cc (pc + 3) = .ok (.dup, 1)) (d4 : decode cc (pc + 4) = .ok (.ldc is, 2)) (d6 : decode cc (pc + 6) = .ok (.invokespecial ic, 3)) (d9 : decode cc (pc + 9) = .ok (.athrow, 1))
    (hr1 : 6 ≤ R.frames) (hr2 : (rest.map fun v => v.category).sum + 82 ≤ R.locals) (hr3 : cells + 1 ≤ R.cells) (hr4 : slots + 6 ≤ R.slots) (hPX : PX cls w9) (hc : cells + 1 ≤ mc) (hs : slots + 6 ≤ ms) :
    W p l e R s m args below meth c H locs cells slots (zEndX Δ below args s mc ms A P PX) (F0 m pc ls rest) := by
  obtain ⟨X, hSt, hT⟩ := Y
  obtain ⟨sa, hsa⟩ := X.K.2.2.1 _ h3
  refine vx_throwS X.x X.b hT X.own hf1 hf2 (X.ts _ h1) (X.ts _ h2) hsa (vx_hat (fun w hw => X.ts _ (h4 w hw)) h5 (fun w hw => va_Nw.use ?_ (X.K.2.1 w hw))) h6 hSt.1 hSt.2 Z.2.2 (hl.1.trans X.1.2.2.1.symm) d0 d3 d4 d6 d9 (fun x hx => (htab x hx).elim) hr1 hr2 hr3 hr4 X.2.2.2.2.1 ?_ Z.2.2.2.2 hc hs
  · have := (List.mem_filter.mp hw).2
    cases w <;> first | rfl | cases this
  · intro t _ hz hk
    exact ⟨⟨w9, hPX, Z.1.kept (fun k q hq => hk q.1 (Z.1 k q hq).lt), Z.2.1⟩, ⟨Nat.le_trans Z.2.2.1 hz, fun q h1 h2 => by rw [hk q (Nat.lt_of_lt_of_le h1 Z.2.2.1)]; exact Z.2.2.2.1 q h1 h2⟩⟩
/-- a thrown thing goes on to the caller -/
theorem x_out {E : String} {ce : Cell} {q : Addr} {locs1 : List Loc} {H1 : Heap} {w9 : va_W} (X : zX Δ p s m args meth c y0 cc nL rt A) (htab : ∀ x ∈ c.exceptionTable.toList, False) (Z : zW Δ A s.heap w9 H1 locs1) (hPX : PX E w9) (hcell : H1[q]? = some ce) (hv : ce.vm = .none) (hcl : s.vm.findClass E = some ce.cls) (hc : cells ≤ mc) (hs : slots ≤ ms) :
    vx_W p l e R s m args below meth c H1 locs1 cells slots (zEndX Δ below args s mc ms A P PX) (F0 m pc ls rest) q :=
  vx_out (fun x hx => (htab x hx).elim) X.2.2.2.2.1 hcell hv hcl (fun t ht _ => ⟨⟨w9, hPX, by rw [ht]; exact Z.1, Z.2.1⟩, Z.2.2.F ht⟩) Z.2.2.2.2 hc hs
theorem xBlind {av : List Value} {wc : va_W} {sz : Nat} : FrameBlind (zPX Δ av wc sz) := fun a U g mk q => by
  obtain ⟨q0, q1, qP, qK, qD, qS⟩ := q
  exact ⟨q0, q1, qP, qK.calling, qD, vx_Zq.moved (u := U) (U := U.calling g mk a) (Vm.Alike.refl U.vm) qS.1, vx_Zq.moved (u := U) (U := U.calling g mk a) (Vm.Alike.refl U.vm) qS.2⟩
theorem xPre {av : List Value} {wc wr : va_W} (Y : zY Δ p l s m args meth c y0 cc nL rt A) (Z : zW Δ A s.heap ws H locs) (hperm : ws.Perm (wc ++ wr)) : ∀ U : State, U.heap = H → s.WarmedH U.vm → zPX Δ av wc H.size av.toArray U := by
  intro U hU hW
  have Z2 := Z.perm hperm
  have hP : va_P Δ.1 vwCl wc H := fun k q hq => Z2.1 k q (by rw [List.getElem?_append_left (List.getElem?_eq_some_iff.mp hq).1]; exact hq)
  have hD : va_D A wc := ⟨fun i j p q hi hj e => Z2.2.1.1 i j p q (by rw [List.getElem?_append_left (List.getElem?_eq_some_iff.mp hi).1]; exact hi) (by rw [List.getElem?_append_left (List.getElem?_eq_some_iff.mp hj).1]; exact hj) e, fun k q hq => Z2.2.1.2 k q (by rw [List.getElem?_append_left (List.getElem?_eq_some_iff.mp hq).1]; exact hq)⟩
  have hF : ∀ q, va_A wc H.size q → A q := by
    rintro q (⟨k, e, h⟩ | h)
    · exact hD.2 k (q, e) h
    · exact Y.1.2.2.1 q (Nat.le_trans Z.2.2.1 h)
  refine ⟨rfl, by rw [hU], by rw [hU]; exact hP, Y.1.K.warm hW, hD.weaken (fun _ _ _ _ => trivial), ?_⟩
  rw [hU]
  exact Y.2.1.at Z hF hW.alike
theorem x_goes {wc wr : va_W} {P1 : Option Value → va_W → Prop} {PX1 : String → va_W → Prop} {mc1 ms1 : Nat} {st0 : List Value} {a : Array Value} (Y : zY Δ p l s m args meth c y0 cc nL rt A) (Z : zW Δ A s.heap ws H locs) (hperm : ws.Perm (wc ++ wr))
    (hr : vx_Run p l e R s m args below meth c H locs cells slots mc1 ms1 (F0 m pc ls st0) rest (zQG Δ P1 (va_A wc H.size) a) (zXC Δ PX1 (va_A wc H.size)) (va_A wc H.size))
    (kx : ∀ (E : String) (ce : Cell) (q : Addr) (w9 : va_W) (H1 : Heap) (locs1 : List Loc), PX1 E w9 → zW Δ A s.heap (w9 ++ wr) H1 locs1 → H1[q]? = some ce → ce.vm = .none → s.vm.findClass E = some ce.cls → vx_W p l e R s m args below meth c H1 locs1 (cells + mc1) (slots + ms1) Q (F0 m pc ls rest) q)
    (kk : ∀ (rv : Option Value) (w1 : va_W) (H1 : Heap) (locs1 : List Loc), P1 rv w1 → zW Δ A s.heap (w1 ++ wr) H1 locs1 → W p l e R s m args below meth c H1 locs1 (cells + mc1) (slots + ms1) Q (F0 m (pc + 3) ls (rv.toList ++ rest))) : W p l e R s m args below meth c H locs cells slots Q (F0 m pc ls st0) := by
  have hF : ∀ q, va_A wc H.size q → A q := by
    have Z2 := Z.perm hperm
    rintro q (⟨k, e, h⟩ | h)
    · exact Z2.2.1.2 k (q, e) (by rw [List.getElem?_append_left (List.getElem?_eq_some_iff.mp h).1]; exact h)
    · exact Y.1.2.2.1 q (Nat.le_trans Z.2.2.1 h)
  intro T hT X
  rcases hr T hT X with ⟨v, st₀, t, T', L, h0, X', hL, e1, e2, ⟨⟨rv, w1, hv, hp, hP1, hD1⟩, hF1⟩, st⟩ | ⟨q, st₀, t, T', L, E, ce, h0, X', hL, e1, e2, ⟨⟨w9, hp, hP1, hD9⟩, hF1⟩, hce, hcv, hcl, st⟩
  · obtain ⟨k1, k2, k3⟩ := vx_keep h0 e1 Z.2.2 (fun q _ h => hF q h) hF hL hF1
    obtain rfl : v = rv := by cases hv; rfl
    obtain ⟨t2, a1, b1⟩ := kk v w1 T'.heap (locs ++ L) hp (z_afterG Z Y.1.2.2.1 hperm k3 k2 (by rw [e1]; exact hP1) hD1) T' rfl X'
    exact ⟨t2, st t2 a1, b1⟩
  · obtain ⟨k1, k2, k3⟩ := vx_keep h0 e1 Z.2.2 (fun q _ h => hF q h) hF hL hF1
    obtain ⟨t2, a1, b1⟩ := kx E ce q w9 T'.heap (locs ++ L) hp (z_afterG Z Y.1.2.2.1 hperm k3 k2 (by rw [e1]; exact hP1) hD9) (by rw [e1]; exact hce) hcv hcl T' rfl X'
    exact ⟨t2, st.trans a1, b1⟩
theorem xPreD {av : List Value} {wc : va_W} {isC : List Nat} (Y : zY Δ p l s m args meth c y0 cc nL rt A) (Z : zW Δ A s.heap ws H locs) (hsub : zSub ws wc isC) : ∀ U : State, U.heap = H → s.WarmedH U.vm → zPX Δ av wc H.size av.toArray U := by
  intro U hU hW
  obtain ⟨h1, h2, h3, h4, h5⟩ := zPre (av := av) Y.1 Z isC hsub.2 hsub.1 U hU hW
  refine ⟨h1, h2, h3, h4, h5, ?_⟩
  rw [hU]
  exact Y.2.1.at Z (va_free Z.2.1 Z.2.2 Y.1.2.2.1 isC hsub.1) hW.alike
theorem x_goesD {wc w1 : va_W} {rv : Option Value} {isC : List Nat} {P1 : Option Value → va_W → Prop} {PX1 : String → va_W → Prop} {mc1 ms1 : Nat} {st0 st1 : List Value} {a : Array Value} (Y : zY Δ p l s m args meth c y0 cc nL rt A) (Z : zW Δ A s.heap ws H locs) (hsub : zSub ws wc isC)
    (hr : vx_Run p l e R s m args below meth c H locs cells slots mc1 ms1 (F0 m pc ls st0) rest (zQG Δ P1 (va_A wc H.size) a) (zXC Δ PX1 (va_A wc H.size)) (va_A wc H.size))
    (hfst : w1.map Prod.fst = wc.map Prod.fst) (hw : zput ws isC w1 = w') (hdet : ∀ rv' w'', P1 rv' w'' → rv' = rv ∧ w'' = w1) (hdx : ∀ E w, PX1 E w → w = wc) (hs1 : rv.toList ++ rest = st1)
    (kx : ∀ (E : String) (ce : Cell) (q : Addr) (H1 : Heap) (locs1 : List Loc), PX1 E wc → zW Δ A s.heap ws H1 locs1 → H1[q]? = some ce → ce.vm = .none → s.vm.findClass E = some ce.cls → vx_W p l e R s m args below meth c H1 locs1 (cells + mc1) (slots + ms1) Q (F0 m pc ls rest) q)
    (kk : P1 rv w1 → ∀ (H1 : Heap) (locs1 : List Loc), zW Δ A s.heap w' H1 locs1 → W p l e R s m args below meth c H1 locs1 (cells + mc1) (slots + ms1) Q (F0 m (pc + 3) ls st1)) : W p l e R s m args below meth c H locs cells slots Q (F0 m pc ls st0) := by
  subst hs1
  have hF := va_free Z.2.1 Z.2.2 Y.1.2.2.1 isC hsub.1
  intro T hT X
  rcases hr T hT X with ⟨v, st₀, t, T', L, h0, X', hL, e1, e2, ⟨⟨rv', w1', hv, hp, hP1, hD1⟩, hF1⟩, st⟩ | ⟨q, st₀, t, T', L, E, ce, h0, X', hL, e1, e2, ⟨⟨w9, hp, hP1, hD9⟩, hF1⟩, hce, hcv, hcl, st⟩
  · obtain ⟨k1, k2, k3⟩ := vx_keep h0 e1 Z.2.2 (fun q _ h => hF q h) hF hL hF1
    obtain ⟨rfl, rfl⟩ := hdet _ _ hp
    obtain rfl : v = rv' := by cases hv; rfl
    obtain ⟨t2, a1, b1⟩ := kk hp T'.heap (locs ++ L) (z_after Z (fun _ h => h) hsub hfst hw k3 k2 (by rw [e1]; exact hP1)) T' rfl X'
    exact ⟨t2, st t2 a1, b1⟩
  · obtain ⟨k1, k2, k3⟩ := vx_keep h0 e1 Z.2.2 (fun q _ h => hF q h) hF hL hF1
    obtain rfl := hdx E w9 hp
    obtain ⟨t2, a1, b1⟩ := kx E ce q T'.heap (locs ++ L) hp (z_after Z (fun _ h => h) hsub rfl (zput_self hsub) k3 k2 (by rw [e1]; exact hP1)) (by rw [e1]; exact hce) hcv hcl T' rfl X'
    exact ⟨t2, st.trans a1, b1⟩
variable {y : MethodName} {bytes : ByteArray} {maxL index n : Nat} {ret : Option FieldType} {fr1 lo1 mc1 ms1 : Nat} {As : List Value} {wc w1 wr : va_W} {rv : Option Value} {st0 st1 : List Value} {b : Nat} {lvs : List (Nat × Value)} {P1 : Option Value → va_W → Prop} {PX1 : String → va_W → Prop} {isC : List Nat}
theorem x_gV (h1 : Cond.methodLink y0.cls index y ∈ zG) (h2 : Cond.instanceMethod y ∈ zG) (h3 : Cond.selects y.cls y y ∈ zG) (h4 : Cond.initialized y.cls ∈ zG) (h5 : Cond.code y bytes maxL ret ∈ zG) : GoodIn zG (wsV y0.cls index y.cls y (.code y bytes maxL ret :: zG)) := zG_good (by
    intro w hw
    simp only [wsV, List.mem_append, List.mem_cons, List.not_mem_nil, or_false] at hw
    rcases hw with (rfl | rfl | rfl | rfl) | rfl | h
    · exact h1
    · exact h2
    · exact h3
    · exact h4
    · exact h5
    · exact h)
theorem x_gS {cw : Cond} (h1 : Cond.methodLink y0.cls index y ∈ zG) (h2 : Cond.static y ∈ zG) (h4 : Cond.initialized y.cls ∈ zG) (h5 : cw ∈ zG) : GoodIn zG (va_wsS y0.cls index y (cw :: zG)) := zG_good (by
    intro w hw
    simp only [va_wsS, List.mem_append, List.mem_cons, List.not_mem_nil, or_false] at hw
    rcases hw with (rfl | rfl | rfl) | rfl | h
    · exact h1
    · exact h2
    · exact h4
    · exact h5
    · exact h)
/-- a call that returns -/
theorem x_callV_in (Y : zY Δ p l s m args meth c y0 cc nL rt A) (Z : zW Δ A s.heap ws H locs) (hl : lv_has ls nL lvs) (hM : zMX l Δ y (.code y bytes maxL ret) fr1 lo1 mc1 ms1 (.ref b :: As) wc P1 PX1) (h1 : Cond.methodLink y0.cls index y ∈ zG) (h2 : Cond.instanceMethod y ∈ zG) (h3 : Cond.selects y.cls y y ∈ zG) (h4 : Cond.initialized y.cls ∈ zG) (h5 : Cond.code y bytes maxL ret ∈ zG) (hd : zOK y n)
    (ci : Nat) {fs : List Value} {T : u_T} {N : Nat} (hcl : vwCl[ci]? = some (y.cls, T, N)) (q0 : Nat) (hb0 : ws[q0]? = some (b, .inr (ci, fs))) (hsub : zSub ws wc isC) (hfst : w1.map Prod.fst = wc.map Prod.fst) (hw : zput ws isC w1 = w') (hlen : As.length = n) (hst : st0 = As.reverse ++ .ref b :: rest) (hW : (rest.map fun v => v.category).sum ≤ 8) (hR : fr1 + 1 ≤ R.frames ∧ 8 + (maxL + 11) + lo1 ≤ R.locals) (hrc : cells + mc1 ≤ R.cells ∧ slots + ms1 ≤ R.slots) (hs1 : rv.toList ++ rest = st1) (hdg : decode cc pc = .ok (.invokevirtual index, 3))
    (hdet : ∀ rv' w'', P1 rv' w'' → rv' = rv ∧ w'' = w1) (hno : ∀ E w, ¬ PX1 E w)
    (kk : ∀ (H1 : Heap) (locs1 : List Loc), zW Δ A s.heap w' H1 locs1 → W p l e R s m args below meth c H1 locs1 (cells + mc1) (slots + ms1) Q (F0 m (pc + 3) ls st1)) : W p l e R s m args below meth c H locs cells slots Q (F0 m pc ls st0) := by
  subst hst
  exact x_goesD Y Z hsub (vx_runV (As := As) (rest := rest) (n := n) Y.1.1 (hM H.size) (cwV n Y.1.ts (x_gV h1 h2 h3 h4 h5) rfl rfl rfl ⟨rfl, hd.1, hd.2.1, hd.2.2⟩ hR) ⟨xBlind, va_recv Y.1.K.1 Z.1 hcl hb0, xPreD Y Z hsub⟩ rfl hlen hl.1 rfl (lv_room hW) hdg hrc) hfst hw hdet (fun E w h => absurd h (hno E w)) hs1 (fun E _ _ _ _ h => absurd h (hno E _)) (fun _ => kk)
/-- a call that throws, which goes on to the caller -/
theorem x_callV_out (Y : zY Δ p l s m args meth c y0 cc nL rt A) (htab : ∀ x ∈ c.exceptionTable.toList, False) (Z : zW Δ A s.heap wc0 H locs) (hl : lv_has ls nL lvs) (hM : zMX l Δ y (.code y bytes maxL ret) fr1 lo1 mc1 ms1 (.ref b :: As) wc P1 PX1) (h1 : Cond.methodLink y0.cls index y ∈ zG) (h2 : Cond.instanceMethod y ∈ zG) (h3 : Cond.selects y.cls y y ∈ zG) (h4 : Cond.initialized y.cls ∈ zG) (h5 : Cond.code y bytes maxL ret ∈ zG) (hd : zOK y n)
    (ci : Nat) {fs : List Value} {T : u_T} {N : Nat} (hcl : vwCl[ci]? = some (y.cls, T, N)) (q0 : Nat) (hb0 : wc0[q0]? = some (b, .inr (ci, fs))) (hsub : zSub wc0 wc isC) (hlen : As.length = n) (hst : st0 = As.reverse ++ .ref b :: rest) (hW : (rest.map fun v => v.category).sum ≤ 8) (hR : fr1 + 1 ≤ R.frames ∧ 8 + (maxL + 11) + lo1 ≤ R.locals) (hrc : cells + mc1 ≤ R.cells ∧ slots + ms1 ≤ R.slots) (hdg : decode cc pc = .ok (.invokevirtual index, 3))
    (hno : ∀ rv' w'', ¬ P1 rv' w'') (hX : ∀ E w, PX1 E w → w = wc ∧ PX E wc0) (hc : cells + mc1 ≤ mc) (hs : slots + ms1 ≤ ms) : W p l e R s m args below meth c H locs cells slots (zEndX Δ below args s mc ms A P PX) (F0 m pc ls st0) := by
  subst hst
  exact x_goesD (rv := none) (w1 := wc) Y Z hsub (vx_runV (As := As) (rest := rest) (n := n) Y.1.1 (hM H.size) (cwV n Y.1.ts (x_gV h1 h2 h3 h4 h5) rfl rfl rfl ⟨rfl, hd.1, hd.2.1, hd.2.2⟩ hR) ⟨xBlind, va_recv Y.1.K.1 Z.1 hcl hb0, xPreD Y Z hsub⟩ rfl hlen hl.1 rfl (lv_room hW) hdg hrc) rfl rfl (fun rv' w'' h => absurd h (hno rv' w'')) (fun E w h => (hX E w h).1) rfl (fun E ce q H1 locs1 h Z1 g1 g2 g3 => x_out Y.1 htab Z1 (hX E _ h).2 g1 g2 g3 hc hs) (fun h => absurd h (hno _ _))
theorem x_callS_in (Y : zY Δ p l s m args meth c y0 cc nL rt A) (Z : zW Δ A s.heap ws H locs) (hl : lv_has ls nL lvs) (hM : zMX l Δ y (.code y bytes maxL ret) fr1 lo1 mc1 ms1 As wc P1 PX1) (h1 : Cond.methodLink y0.cls index y ∈ zG) (h2 : Cond.static y ∈ zG) (h4 : Cond.initialized y.cls ∈ zG) (h5 : Cond.code y bytes maxL ret ∈ zG) (hd : zOK y n)
    (hsub : zSub ws wc isC) (hfst : w1.map Prod.fst = wc.map Prod.fst) (hw : zput ws isC w1 = w') (hlen : As.length = n) (hst : st0 = As.reverse ++ rest) (hW : (rest.map fun v => v.category).sum ≤ 8) (hR : fr1 + 1 ≤ R.frames ∧ 8 + (maxL + 11) + lo1 ≤ R.locals) (hrc : cells + mc1 ≤ R.cells ∧ slots + ms1 ≤ R.slots) (hs1 : rv.toList ++ rest = st1) (hdg : decode cc pc = .ok (.invokestatic index, 3))
    (hdet : ∀ rv' w'', P1 rv' w'' → rv' = rv ∧ w'' = w1) (hno : ∀ E w, ¬ PX1 E w)
    (kk : ∀ (H1 : Heap) (locs1 : List Loc), zW Δ A s.heap w' H1 locs1 → W p l e R s m args below meth c H1 locs1 (cells + mc1) (slots + ms1) Q (F0 m (pc + 3) ls st1)) : W p l e R s m args below meth c H locs cells slots Q (F0 m pc ls st0) := by
  subst hst
  exact x_goesD Y Z hsub (vx_runS (As := As) (rest := rest) (n := n) Y.1.1 (hM H.size) (va_cwS n Y.1.ts (x_gS h1 h2 h4 h5) rfl rfl rfl ⟨hd.1, hd.2.1, hd.2.2⟩ hR) ⟨xBlind, xPreD Y Z hsub⟩ rfl hlen hl.1 rfl (lv_room hW) hdg hrc) hfst hw hdet (fun E w h => absurd h (hno E w)) hs1 (fun E _ _ _ _ h => absurd h (hno E _)) (fun _ => kk)
theorem x_callS_out (Y : zY Δ p l s m args meth c y0 cc nL rt A) (htab : ∀ x ∈ c.exceptionTable.toList, False) (Z : zW Δ A s.heap wc0 H locs) (hl : lv_has ls nL lvs) (hM : zMX l Δ y (.code y bytes maxL ret) fr1 lo1 mc1 ms1 As wc P1 PX1) (h1 : Cond.methodLink y0.cls index y ∈ zG) (h2 : Cond.static y ∈ zG) (h4 : Cond.initialized y.cls ∈ zG) (h5 : Cond.code y bytes maxL ret ∈ zG) (hd : zOK y n)
    (hsub : zSub wc0 wc isC) (hlen : As.length = n) (hst : st0 = As.reverse ++ rest) (hW : (rest.map fun v => v.category).sum ≤ 8) (hR : fr1 + 1 ≤ R.frames ∧ 8 + (maxL + 11) + lo1 ≤ R.locals) (hrc : cells + mc1 ≤ R.cells ∧ slots + ms1 ≤ R.slots) (hdg : decode cc pc = .ok (.invokestatic index, 3))
    (hno : ∀ rv' w'', ¬ P1 rv' w'') (hX : ∀ E w, PX1 E w → w = wc ∧ PX E wc0) (hc : cells + mc1 ≤ mc) (hs : slots + ms1 ≤ ms) : W p l e R s m args below meth c H locs cells slots (zEndX Δ below args s mc ms A P PX) (F0 m pc ls st0) := by
  subst hst
  exact x_goesD (rv := none) (w1 := wc) Y Z hsub (vx_runS (As := As) (rest := rest) (n := n) Y.1.1 (hM H.size) (va_cwS n Y.1.ts (x_gS h1 h2 h4 h5) rfl rfl rfl ⟨hd.1, hd.2.1, hd.2.2⟩ hR) ⟨xBlind, xPreD Y Z hsub⟩ rfl hlen hl.1 rfl (lv_room hW) hdg hrc) rfl rfl (fun rv' w'' h => absurd h (hno rv' w'')) (fun E w h => (hX E w h).1) rfl (fun E ce q H1 locs1 h Z1 g1 g2 g3 => x_out Y.1 htab Z1 (hX E _ h).2 g1 g2 g3 hc hs) (fun h => absurd h (hno _ _))
end ZXB
