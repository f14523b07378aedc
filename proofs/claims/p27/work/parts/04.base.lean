/-! BASE: one list of words, one form of world, one form of contract; rows of the kit with these put in. -/
def zG : List Cond := lw_tbl.filter goodWord
theorem zG_of (i : Nat) {w : Cond} (h : lw_tbl[i]? = some w) (hg : goodWord w = true) : w ∈ zG := List.mem_filter.mpr ⟨List.mem_of_getElem? h, hg⟩
theorem zG_good {ws : List Cond} (h : ∀ w ∈ ws, w ∈ zG) : GoodIn zG ws := fun w hw => ⟨h w hw, good_of_word (List.mem_filter.mp (h w hw)).2⟩
theorem zG_tbl {w : Cond} (h : w ∈ zG) : w ∈ lw_tbl := (List.mem_filter.mp h).1
/-- the tables' numbers: of the classes, of the arrays int[], byte[], long[], State[] -/
abbrev zE : Type := va_G × ClassId × ClassId × ClassId × ClassId
def zT (Δ : zE) : List (ClassId × FieldType) := [(Δ.2.1, .int), (Δ.2.2.1, .byte), (Δ.2.2.2.1, .long), (Δ.2.2.2.2, .object "SerialRecaps$State")]
/-- words that the tables decide, but that aren't kept by every warming: links to a nest mate's private method, castable, declares -/
def zIsN : Cond → Bool
  | .methodLinkNest .. => true
  | .castable .. => true
  | .declares .. => true
  | _ => false
def zNw : List Cond := lw_tbl.filter zIsN
theorem zNw_of (i : Nat) {w : Cond} (h : lw_tbl[i]? = some w) (hg : zIsN w = true) : w ∈ zNw := List.mem_filter.mpr ⟨List.mem_of_getElem? h, hg⟩
/-- the texts of the exceptions -/
def zStr : List (String × Nat × String) := [("SerialRecaps", 250, "plots are 1 to 63"), ("SerialRecaps", 255, "the cliff is none of the plots"), ("SerialRecaps", 36, "words are 1 to 99"), ("SerialRecaps", 53, "there are 20 parts"), ("SerialRecaps", 242, "there is no such part"), ("SerialRecaps", 72, "there are no parts"), ("SerialRecaps", 246, "there is no such setting"), ("SerialRecaps", 95, "the value is out of range"), ("SerialRecaps", 244, "there is no such reader"), ("SerialRecaps", 108, "the reader has read it"), ("SerialRecaps", 114, "lost is 0 to 63"), ("SerialRecaps", 125, "the code is 33 to 126"), ("SerialRecaps", 130, "the buffer has 60 characters"), ("SerialRecaps", 142, "the buffer is not complete parts as a text"), ("SerialRecaps", 147, "there would be more than 20 parts"), ("SerialRecaps", 157, "there is no saved state"), ("SerialRecaps", 248, "what is out of range"), ("SerialRecaps", 182, "there is no such plot")]
/-- exceptions that aren't one another's kind -/
def zNcs : List (String × String) := [("java/lang/IllegalArgumentException", "java/lang/IllegalStateException"), ("java/lang/IllegalArgumentException", "java/lang/IndexOutOfBoundsException"), ("java/lang/IllegalStateException", "java/lang/IllegalArgumentException"), ("java/lang/IllegalStateException", "java/lang/IndexOutOfBoundsException"), ("java/lang/IndexOutOfBoundsException", "java/lang/IllegalArgumentException"), ("java/lang/IndexOutOfBoundsException", "java/lang/IllegalStateException")]
def zKn (U : State) : Prop := (∀ w ∈ zNw, va_Nw w U) ∧ (∀ q ∈ zStr, ∃ a, vk_R q.1 q.2.1 q.2.2 a U) ∧ va_AO "SerialRecaps$State" U ∧ ∀ q ∈ zNcs, va_Nc q.1 q.2 U
theorem zNw_warm {w : Cond} (hw : zIsN w = true) {s U : State} (hW : s.WarmedH U.vm) (h : va_Nw w s) : va_Nw w U := by
  cases w <;> first | exact va_Nw.warmM hW h | exact va_Nw.warmC hW h | exact va_Nw.warmD hW h | cases hw
theorem zNw_same {w : Cond} (hw : zIsN w = true) {u U : State} (hv : u.vm = U.vm) (h : va_Nw w u) : va_Nw w U := by
  cases w <;> first | exact va_Nw.same rfl hv h | cases hw
def zK (Δ : zE) (U : State) : Prop := va_K Δ.1 vwCl (zT Δ) U ∧ zKn U
theorem zK.warm {Δ : zE} {s U : State} (h : zK Δ s) (hW : s.WarmedH U.vm) : zK Δ U := ⟨va_K.moved hW.alike h.1, fun w hw => zNw_warm (List.mem_filter.mp hw).2 hW (h.2.1 w hw), fun q hq => by
  obtain ⟨a, ha⟩ := h.2.2.1 q hq
  exact ⟨a, vk_R.warm hW ha⟩, va_AO.moved hW.alike h.2.2.2.1, fun q hq => va_Nc.moved hW.alike (h.2.2.2.2 q hq)⟩
theorem zK.calling {Δ : zE} {U : State} {g : JFrame} {mk : MethodId} {a : Array Value} (h : zK Δ U) : zK Δ (U.calling g mk a) := ⟨va_K.moved (u := U) (U := U.calling g mk a) (Vm.Alike.refl U.vm) h.1, fun w hw => zNw_same (List.mem_filter.mp hw).2 (u := U) (U := U.calling g mk a) rfl (h.2.1 w hw), fun q hq => by
  obtain ⟨b, hb⟩ := h.2.2.1 q hq
  exact ⟨b, vk_R.same (u := U) (U := U.calling g mk a) rfl hb⟩, va_AO.moved (u := U) (U := U.calling g mk a) (Vm.Alike.refl U.vm) h.2.2.2.1, fun q hq => va_Nc.moved (u := U) (U := U.calling g mk a) (Vm.Alike.refl U.vm) (h.2.2.2.2 q hq)⟩
def zW (Δ : zE) (A : Nat → Prop) (H0 : Heap) (ws : va_W) (H : Heap) (locs : List Loc) : Prop := va_P Δ.1 vwCl ws H ∧ va_D A ws ∧ va_S A H0 H locs
/-- some places of a world by others -/
def zput (ws : va_W) : List Nat → va_W → va_W
  | i :: is, x :: xs => (zput ws is xs).set i x
  | _, _ => ws
theorem zput_len (ws : va_W) : ∀ (is : List Nat) (xs : va_W), (zput ws is xs).length = ws.length
  | [], _ => rfl
  | _ :: _, [] => rfl
  | i :: is, x :: xs => by rw [zput, List.length_set]; exact zput_len ws is xs
theorem zput_out {ws : va_W} : ∀ {is : List Nat} {xs : va_W} {k : Nat}, k ∉ is → (zput ws is xs)[k]? = ws[k]?
  | [], _, _, _ => rfl
  | _ :: _, [], _, _ => rfl
  | i :: is, x :: xs, k, h => by
    rw [zput, List.getElem?_set_ne (fun e => h (by rw [e]; exact List.mem_cons_self))]
    exact zput_out (fun e => h (List.mem_cons_of_mem _ e))
theorem zput_in {ws : va_W} : ∀ {is : List Nat} {xs : va_W} {j k : Nat}, va_nd is = true → is[j]? = some k → k < ws.length → j < xs.length → (zput ws is xs)[k]? = xs[j]?
  | [], _, _, _, _, h, _, _ => by simp at h
  | _ :: _, [], _, _, _, _, _, h => by simp at h
  | i :: is, x :: xs, 0, k, _, h, hk, _ => by
    have e : i = k := by simpa using h
    subst e
    rw [zput, List.getElem?_set_self (by rw [zput_len]; exact hk)]
    rfl
  | i :: is, x :: xs, j + 1, k, hn, h, hk, hj => by
    have hn' : (decide (i ∉ is) && va_nd is) = true := hn
    rw [Bool.and_eq_true] at hn'
    have hki : is[j]? = some k := by simpa using h
    have hne : i ≠ k := fun e => (of_decide_eq_true hn'.1) (by rw [e]; exact List.mem_of_getElem? hki)
    rw [zput, List.getElem?_set_ne hne, zput_in hn'.2 hki hk (by simpa using hj)]
    rfl
theorem va_D_fst {A : Nat → Prop} {ws w' : va_W} (h : w'.map Prod.fst = ws.map Prod.fst) (hD : va_D A ws) : va_D A w' := by
  have key : ∀ (k : Nat) (q : Nat × va_E), w'[k]? = some q → ∃ r, ws[k]? = some r ∧ r.1 = q.1 := by
    intro k q hq
    have h1 : (ws.map Prod.fst)[k]? = some q.1 := by rw [← h, List.getElem?_map, hq]; rfl
    rw [List.getElem?_map] at h1
    cases hr : ws[k]? with
    | none => rw [hr] at h1; cases h1
    | some r => rw [hr] at h1; exact ⟨r, rfl, Option.some.inj h1⟩
  refine ⟨fun i j p q hi hj e => ?_, fun k q hq => ?_⟩
  · obtain ⟨p', h1, e1⟩ := key i p hi
    obtain ⟨q', h2, e2⟩ := key j q hj
    exact hD.1 i j p' q' h1 h2 (by rw [e1, e2, e])
  · obtain ⟨r, h1, e1⟩ := key k q hq
    rw [← e1]
    exact hD.2 k r h1
theorem zput_fst {ws wc : va_W} {is : List Nat} {xs : va_W} (hn : va_nd is = true) (hC : is.map (fun i => ws[i]?) = wc.map some) (hf : xs.map Prod.fst = wc.map Prod.fst) : (zput ws is xs).map Prod.fst = ws.map Prod.fst := by
  have hl : is.length = wc.length := by have := congrArg List.length hC; simpa using this
  have hx : xs.length = wc.length := by have := congrArg List.length hf; simpa using this
  apply List.ext_getElem?
  intro k
  rw [List.getElem?_map, List.getElem?_map]
  by_cases hk : k ∈ is
  · obtain ⟨j, hj⟩ := List.getElem?_of_mem hk
    have hjl : j < is.length := (List.getElem?_eq_some_iff.mp hj).1
    have h1 : (is.map (fun i => ws[i]?))[j]? = some (ws[k]?) := by rw [List.getElem?_map, hj]; rfl
    rw [hC, List.getElem?_map] at h1
    have hjw : j < wc.length := by omega
    rw [List.getElem?_eq_getElem hjw] at h1
    have h2 : ws[k]? = some wc[j] := (Option.some.inj h1).symm
    have hkl : k < ws.length := (List.getElem?_eq_some_iff.mp h2).1
    have h3 : (xs.map Prod.fst)[j]? = (wc.map Prod.fst)[j]? := by rw [hf]
    rw [List.getElem?_map, List.getElem?_map] at h3
    rw [zput_in hn hj hkl (by omega), h3, h2, List.getElem?_eq_getElem hjw]
  · rw [zput_out hk]
/-- a method's end: what it answers, its world -/
def zQ (Δ : zE) (rv : Option Value) (w1 : va_W) (A : Nat → Prop) : Array Value → State → Outcome → State → Prop := fun _ st oc t => (oc = .returned rv ∧ va_P Δ.1 vwCl w1 t.heap) ∧ va_F A st t
/-- the contract of a method that makes no cell and throws nothing -/
def zMet (l : Launch) (Δ : zE) (y : MethodName) (bytes : ByteArray) (maxL : Nat) (ret : Option FieldType) (fr lo : Nat) (av : List Value) (wc w1 : va_W) (rv : Option Value) : Prop :=
  ∀ sz : Nat, Met l y (.code y bytes maxL ret :: zG) { frames := fr, cells := 0, slots := 0, locals := lo } (va_Pc av (fun U => U.heap.size = sz ∧ va_P Δ.1 vwCl wc U.heap ∧ zK Δ U ∧ va_D (fun _ => True) wc)) (zQ Δ rv w1 (va_A wc sz)) 0 0 (va_A wc sz)
def zEnd (Δ : zE) (below : List Frame) (args : Array Value) (s : State) (cells slots : Nat) (A : Nat → Prop) (rv : Option Value) (w1 : va_W) : State → Prop := MQ below (zQ Δ rv w1 A) args s cells slots A
/-- what stays as it is along a method's walk -/
def zX (Δ : zE) (p : Program) (s : State) (m : MethodId) (args : Array Value) (meth : Method) (c : Code) (y : MethodName) (bytes : ByteArray) (maxL : Nat) (ret : Option FieldType) (A : Nat → Prop) : Prop :=
  CallFix p m c bytes maxL s args zG y.cls ∧ zK Δ s ∧ (∀ q, s.heap.size ≤ q → A q) ∧ meth.sig.returnType = ret ∧ meth.locks = false ∧ meth.name = y.name
section ZB
variable {p : Program} {l : Launch} {e : Env} {R : Room} {s : State} {m : MethodId} {args : Array Value} {below : List Frame} {meth : Method} {c : Code} {H : Heap} {locs : List Loc} {cells slots : Nat} {Q : State → Prop} {Δ : zE} {y0 : MethodName} {cc : ByteArray} {nL : Nat} {rt : Option FieldType} {A : Nat → Prop} {ws w' : va_W} {pc : Nat} {ls : Array Slot} {rest : List Value}
theorem zX.x (X : zX Δ p s m args meth c y0 cc nL rt A) : p.tables.exec = Jvm.exec := X.1.1
theorem zX.b (X : zX Δ p s m args meth c y0 cc nL rt A) : c.code = cc := X.1.2.1
theorem zX.own (X : zX Δ p s m args meth c y0 cc nL rt A) : s.vm.findClass y0.cls = some m.cls := X.1.2.2.2.1
theorem zX.ts (X : zX Δ p s m args meth c y0 cc nL rt A) : ∀ w ∈ zG, w.before args s = true := X.1.2.2.2.2
theorem zX.K (X : zX Δ p s m args meth c y0 cc nL rt A) : zK Δ s := X.2.1
theorem z_start {y : MethodName} {bytes : ByteArray} {maxL : Nat} {ret : Option FieldType} {fr lo : Nat} {av : List Value} {wc w1 : va_W} {rv : Option Value} (hy : plainName y.cls = true) (hn : (lg_sl av).length ≤ maxL)
    (body : ∀ (p : Program) (e : Env) (s : State) (m : MethodId) (args : Array Value) (below : List Frame) (meth : Method) (c : Code) (A : Nat → Prop) (ls : Array Slot), zX Δ p s m args meth c y bytes maxL ret A → zW Δ A s.heap wc s.heap [] → lv_has ls maxL (lv_args 0 av) →
      W p l e { frames := fr, cells := 0, slots := 0, locals := lo } s m args below meth c s.heap [] 0 0 (zEnd Δ below args s 0 0 A rv w1) (F0 m 0 ls [])) : zMet l Δ y bytes maxL ret fr lo av wc w1 rv := by
  intro sz
  refine Met.ofW (cc := bytes) (maxL := maxL) (ret := ret) hy rfl ?_
  intro p e s m args below meth c s₁ B hml hv
  obtain ⟨rfl, hsz, hP, hK, hD0⟩ := hv
  have hts := atoms_spec (ws := .code y bytes maxL ret :: zG) B.pre
  have hts' : ∀ w ∈ zG, w.before av.toArray s = true := fun w h => hts w (List.mem_cons_of_mem _ h)
  subst hsz
  have hD := hD0.self (sz := s.heap.size)
  have hA : ∀ q : Nat, s.heap.size ≤ q → va_A wc s.heap.size q := fun q h => Or.inr h
  have hl := lv_entry av (n := maxL) hn
  rw [lg_entry_eq]
  exact body p e s m _ below meth c _ _ ⟨⟨B.exec, B.bytes, hml, findClass_of_methodNamed B.named, hts'⟩, hK, hA, B.returns, B.notSynchronized, (name_of_methodNamed B.named B.method).1⟩ ⟨hP, hD, va_S.rf⟩ hl
theorem z_iret {v : Int32} {w1 : va_W} (X : zX Δ p s m args meth c y0 cc nL (some .int) A) (Z : zW Δ A s.heap w1 H locs) (hdg : decode cc pc = .ok (.ireturn, 1)) : W p l e R s m args below meth c H locs cells slots (zEnd Δ below args s cells slots A (some (.int v)) w1) (F0 m pc ls [.int v]) :=
  W.iret (v := v) X.x X.b X.2.2.2.1 (fun t ht _ => ⟨⟨rfl, by rw [ht]; exact Z.1⟩, Z.2.2.F ht⟩) Z.2.2.2.2 hdg X.2.2.2.2.1
theorem z_zret {v : Int32} {w1 : va_W} (X : zX Δ p s m args meth c y0 cc nL (some .boolean) A) (Z : zW Δ A s.heap w1 H locs) (hv : v = 0 ∨ v = 1) (hdg : decode cc pc = .ok (.ireturn, 1)) : W p l e R s m args below meth c H locs cells slots (zEnd Δ below args s cells slots A (some (.int v)) w1) (F0 m pc ls [.int v]) :=
  W.zret (v := v) (ty := .boolean) X.x X.b X.2.2.2.1 (by rcases hv with rfl | rfl <;> decide) (fun t ht _ => ⟨⟨rfl, by rw [ht]; exact Z.1⟩, Z.2.2.F ht⟩) Z.2.2.2.2 hdg X.2.2.2.2.1
theorem z_vret {w1 : va_W} (X : zX Δ p s m args meth c y0 cc nL none A) (Z : zW Δ A s.heap w1 H locs) (hdg : decode cc pc = .ok (.return_, 1)) : W p l e R s m args below meth c H locs cells slots (zEnd Δ below args s cells slots A none w1) (F0 m pc ls []) :=
  W.vret X.x X.b X.2.2.2.1 (fun t ht _ => ⟨⟨rfl, by rw [ht]; exact Z.1⟩, Z.2.2.F ht⟩) Z.2.2.2.2 hdg X.2.2.2.2.1
theorem z_lret {v : Int64} {w1 : va_W} (X : zX Δ p s m args meth c y0 cc nL (some .long) A) (Z : zW Δ A s.heap w1 H locs) (hdg : decode cc pc = .ok (.lreturn, 1)) : W p l e R s m args below meth c H locs cells slots (zEnd Δ below args s cells slots A (some (.long v)) w1) (F0 m pc ls [.long v]) :=
  W.lret (v := v) X.x X.b X.2.2.2.1 (fun t ht _ => ⟨⟨rfl, by rw [ht]; exact Z.1⟩, Z.2.2.F ht⟩) Z.2.2.2.2 hdg X.2.2.2.2.1
theorem z_dret {v : UInt64} {w1 : va_W} (X : zX Δ p s m args meth c y0 cc nL (some .double) A) (Z : zW Δ A s.heap w1 H locs) (hdg : decode cc pc = .ok (.dreturn, 1)) : W p l e R s m args below meth c H locs cells slots (zEnd Δ below args s cells slots A (some (.double v)) w1) (F0 m pc ls [.double v]) :=
  W.dret (v := v) X.x X.b X.2.2.2.1 (fun t ht _ => ⟨⟨rfl, by rw [ht]; exact Z.1⟩, Z.2.2.F ht⟩) Z.2.2.2.2 hdg X.2.2.2.2.1
/-- a field is read -/
theorem z_gf {ref C : String} {T : u_T} {N ci index : Nat} (hin : ∀ w ∈ u_ws C T N, w ∈ zG) (hc : vwCl[ci]? = some (C, T, N)) (k : Nat) (hk : k < N) (href : ref = (T k).1) (X : zX Δ p s m args meth c y0 cc nL rt A) (Z : zW Δ A s.heap ws H locs) (hl : Cond.fieldLink y0.cls index ref (T k).2.1 (T k).2.2.1 ∈ zG) (q0 : Nat) {a : Nat} {fs : List Value} (he : ws[q0]? = some (a, .inr (ci, fs))) {v : Value} (hv : fs[k]? = some v) (hdg : decode cc pc = .ok (.getfield index, 3))
    (kk : W p l e R s m args below meth c H locs cells slots Q (F0 m (pc + 3) ls (v :: rest))) : W p l e R s m args below meth c H locs cells slots Q (F0 m pc ls (.ref a :: rest)) :=
  va_get X.x X.b X.ts hin X.own X.K.1 Z.1 q0 he hc k hk (X.ts _ hl) (fun _ h => by rw [href]; exact h) hv hdg kk
/-- a field is written -/
theorem z_pf {ref C : String} {T : u_T} {N ci index : Nat} (hin : ∀ w ∈ u_ws C T N, w ∈ zG) (hc : vwCl[ci]? = some (C, T, N)) (ty0 : Nat → FieldType) (hty : ∀ k, k < N → parseFieldDescriptor (T k).2.2.1 = some (ty0 k)) (hnm : ∀ a, a < N → ∀ b, b < N → a ≠ b → (T a).2.1 ≠ (T b).2.1) (k : Nat) (hk : k < N) (href : ref = (T k).1) (hfin : (T k).2.2.2 = false) (X : zX Δ p s m args meth c y0 cc nL rt A) (Z : zW Δ A s.heap ws H locs) (hl : Cond.fieldLink y0.cls index ref (T k).2.1 (T k).2.2.1 ∈ zG) (q0 : Nat) {a : Nat} {fs : List Value} (he : ws[q0]? = some (a, .inr (ci, fs))) {v : Value} (hn : narrow (ty0 k) v = v) (hfit : fits (ty0 k) v = true) (hlen : k < fs.length) (hw : ws.set q0 (a, .inr (ci, fs.set k v)) = w') (hdg : decode cc pc = .ok (.putfield index, 3))
    (kk : ∀ (H1 : Heap) (locs1 : List Loc), zW Δ A s.heap w' H1 locs1 → W p l e R s m args below meth c H1 locs1 cells slots Q (F0 m (pc + 3) ls rest)) : W p l e R s m args below meth c H locs cells slots Q (F0 m pc ls (v :: .ref a :: rest)) := by
  subst hw
  exact va_put X.x X.b X.ts hin ty0 hty hnm X.own X.K.1 Z.1 Z.2.1 Z.2.2 q0 he hc k hk (X.ts _ hl) (fun _ h => by rw [href]; exact h) hfin (hty k hk) hn hfit hlen hdg (fun H1 locs1 a b d => kk H1 locs1 ⟨a, b, d⟩)
theorem z_iald (X : zX Δ p s m args meth c y0 cc nL rt A) (Z : zW Δ A s.heap ws H locs) (q0 : Nat) {a n : Nat} {f : Nat → Int32} (ha : ws[q0]? = some (a, .inl (Δ.2.1, n, .inl f))) {i : Int32} (hin : vp_in i n) (hdg : decode cc pc = .ok (.iaload, 1))
    (kk : W p l e R s m args below meth c H locs cells slots Q (F0 m (pc + 1) ls (.int (f i.toNatClampNeg) :: rest))) : W p l e R s m args below meth c H locs cells slots Q (F0 m pc ls (.int i :: .ref a :: rest)) :=
  va_iald X.x X.b X.K.1 Z.1 q0 0 ha rfl hin hdg kk
theorem z_iast (X : zX Δ p s m args meth c y0 cc nL rt A) (Z : zW Δ A s.heap ws H locs) (q0 : Nat) {a n : Nat} {f : Nat → Int32} (ha : ws[q0]? = some (a, .inl (Δ.2.1, n, .inl f))) {i x : Int32} (hin : vp_in i n) (hw : ws.set q0 (a, .inl (Δ.2.1, n, .inl (upd f i.toNatClampNeg x))) = w') (hdg : decode cc pc = .ok (.iastore, 1))
    (kk : ∀ (H1 : Heap) (locs1 : List Loc), zW Δ A s.heap w' H1 locs1 → W p l e R s m args below meth c H1 locs1 cells slots Q (F0 m (pc + 1) ls rest)) : W p l e R s m args below meth c H locs cells slots Q (F0 m pc ls (.int x :: .int i :: .ref a :: rest)) := by
  subst hw
  exact va_iast X.x X.b X.K.1 Z.1 Z.2.1 Z.2.2 q0 0 ha rfl hin hdg (fun H1 locs1 a b d => kk H1 locs1 ⟨a, b, d⟩)
/-- a callee's world among the caller's cells -/
def zSub (ws wc : va_W) (isC : List Nat) : Prop := isC.map (fun i => ws[i]?) = wc.map some ∧ va_nd isC = true
/-- what may be called by its name -/
def zOK (y : MethodName) (n : Nat) : Prop := y.cls ≠ "java/lang/invoke/MethodHandle" ∧ y.cls ≠ "java/lang/invoke/VarHandle" ∧ (parseMethodDescriptor y.desc).map (fun d => d.parameters.length) = some n
/-- the world behind a change of some of its cells -/
theorem z_after {Δ : zE} {A A1 : Nat → Prop} {H0 H H1 : Heap} {ws wc w1 w' : va_W} {locs locs1 : List Loc} {isC : List Nat} (Z : zW Δ A H0 ws H locs) (hA1 : ∀ q, A1 q → va_A wc H.size q) (hsub : zSub ws wc isC) (hfst : w1.map Prod.fst = wc.map Prod.fst) (hw : zput ws isC w1 = w') (hS' : va_S A H0 H1 locs1)
    (hk : ∀ q : Nat, q < H.size → ¬ A1 q → H1[q]? = H[q]?) (hP1 : va_P Δ.1 vwCl w1 H1) : zW Δ A H0 w' H1 locs1 := by
  obtain ⟨hP, hD, hS⟩ := Z
  obtain ⟨hC, hn⟩ := hsub
  have hl : isC.length = wc.length := by have := congrArg List.length hC; simpa using this
  have hx : w1.length = wc.length := by have := congrArg List.length hfst; simpa using this
  have hcell : ∀ (j k : Nat), isC[j]? = some k → ∃ q, wc[j]? = some q ∧ ws[k]? = some q := by
    intro j k hj
    have h1 : (isC.map (fun i => ws[i]?))[j]? = some (ws[k]?) := by rw [List.getElem?_map, hj]; rfl
    rw [hC, List.getElem?_map] at h1
    cases hq : wc[j]? with
    | none => rw [hq] at h1; cases h1
    | some q => rw [hq] at h1; exact ⟨q, rfl, (Option.some.inj h1).symm⟩
  refine ⟨?_, by rw [← hw]; exact va_D_fst (zput_fst hn hC hfst) hD, hS'⟩
  intro k q hq
  rw [← hw] at hq
  by_cases hk' : k ∈ isC
  · obtain ⟨j, hj⟩ := List.getElem?_of_mem hk'
    obtain ⟨q0, h1, h2⟩ := hcell j k hj
    have hjl : j < wc.length := (List.getElem?_eq_some_iff.mp h1).1
    rw [zput_in hn hj (List.getElem?_eq_some_iff.mp h2).1 (by omega)] at hq
    exact hP1 j q hq
  · rw [zput_out hk'] at hq
    have hat := hP k q hq
    refine hat.kept (hk q.1 hat.lt fun hA => ?_)
    rcases hA1 _ hA with (⟨j, e9, hj⟩ | h)
    · have hjl : j < wc.length := (List.getElem?_eq_some_iff.mp hj).1
      have hji : j < isC.length := by omega
      obtain ⟨q0, h1, h2⟩ := hcell j isC[j] (List.getElem?_eq_getElem hji)
      rw [hj] at h1
      have : isC[j] = k := hD.1 _ _ _ _ h2 hq (by rw [← Option.some.inj h1])
      exact hk' (this ▸ List.getElem_mem hji)
    · have := hat.lt; omega
theorem va_D_nd {A : Nat → Prop} {ws : va_W} (hD : va_D A ws) : (ws.map Prod.fst).Nodup := by
  show List.Pairwise (· ≠ ·) _
  rw [List.pairwise_iff_getElem]
  intro i j hi hj hij e
  rw [List.length_map] at hi hj
  rw [List.getElem_map, List.getElem_map] at e
  have := hD.1 i j _ _ (List.getElem?_eq_getElem hi) (List.getElem?_eq_getElem hj) e
  omega
/-- a part of a world, the rest of it; what came in the part's place beside the rest -/
theorem z_afterG {Δ : zE} {A : Nat → Prop} {H0 H H1 : Heap} {ws wc wr w1 : va_W} {locs locs1 : List Loc} (Z : zW Δ A H0 ws H locs) (hA : ∀ q, H0.size ≤ q → A q) (hperm : ws.Perm (wc ++ wr)) (hS' : va_S A H0 H1 locs1)
    (hk : ∀ q : Nat, q < H.size → ¬ va_A wc H.size q → H1[q]? = H[q]?) (hP1 : va_P Δ.1 vwCl w1 H1) (hD1 : va_D (va_A wc H.size) w1) : zW Δ A H0 (w1 ++ wr) H1 locs1 := by
  obtain ⟨hP, hD, hS⟩ := Z
  have mem : ∀ q ∈ ws, va_at Δ.1 vwCl q H ∧ A q.1 := by
    intro q hq
    obtain ⟨k, hk⟩ := List.getElem?_of_mem hq
    exact ⟨hP k q hk, hD.2 k q hk⟩
  have nd : (ws.map Prod.fst).Nodup := va_D_nd hD
  have nd2 : ((wc ++ wr).map Prod.fst).Nodup := (hperm.map Prod.fst).nodup_iff.mp nd
  rw [List.map_append] at nd2
  have ndr := (List.nodup_append.mp nd2).2.1
  have disj := (List.nodup_append.mp nd2).2.2
  have apart : ∀ q ∈ wr, q.1 < H.size ∧ ¬ va_A wc H.size q.1 := by
    intro q hq
    have hl := (mem q (hperm.mem_iff.mpr (List.mem_append_right _ hq))).1.lt
    refine ⟨hl, ?_⟩
    rintro (⟨k, e, h⟩ | h)
    · exact disj q.1 (List.mem_map.mpr ⟨(q.1, e), List.mem_of_getElem? h, rfl⟩) q.1 (List.mem_map.mpr ⟨q, hq, rfl⟩) rfl
    · omega
  have hF : ∀ q, va_A wc H.size q → A q := by
    rintro q (⟨k, e, h⟩ | h)
    · exact (mem (q, e) (hperm.mem_iff.mpr (List.mem_append_left _ (List.mem_of_getElem? h)))).2
    · exact hA q (Nat.le_trans hS.1 h)
  refine ⟨va_P.app hP1 (fun k q hq => ?_), va_D.app (hD1.weaken (fun k q _ h => hF q.1 h)) ⟨fun i j p q hi hj e => ?_, fun k q hq => (mem q (hperm.mem_iff.mpr (List.mem_append_right _ (List.mem_of_getElem? hq)))).2⟩ (fun i j x y hx hy hxy => ?_), hS'⟩
  · have hq' := List.mem_of_getElem? hq
    obtain ⟨g1, g2⟩ := apart q hq'
    exact (mem q (hperm.mem_iff.mpr (List.mem_append_right _ hq'))).1.kept (hk q.1 g1 g2)
  · have hil : i < wr.length := (List.getElem?_eq_some_iff.mp hi).1
    have hjl : j < wr.length := (List.getElem?_eq_some_iff.mp hj).1
    have h1 : (wr.map Prod.fst)[i]? = some p.1 := by rw [List.getElem?_map, hi]; rfl
    have h2 : (wr.map Prod.fst)[j]? = some q.1 := by rw [List.getElem?_map, hj]; rfl
    exact (List.getElem?_inj (by rw [List.length_map]; exact hil) ndr).mp (by rw [h1, h2, e])
  · exact (apart y (List.mem_of_getElem? hy)).2 (by rw [← hxy]; exact hD1.2 i x hx)
theorem zW.perm {Δ : zE} {A : Nat → Prop} {H0 H : Heap} {ws ws' : va_W} {locs : List Loc} (Z : zW Δ A H0 ws H locs) (h : ws.Perm ws') : zW Δ A H0 ws' H locs := by
  obtain ⟨hP, hD, hS⟩ := Z
  have mem : ∀ q ∈ ws, va_at Δ.1 vwCl q H ∧ A q.1 := by
    intro q hq
    obtain ⟨k, hk⟩ := List.getElem?_of_mem hq
    exact ⟨hP k q hk, hD.2 k q hk⟩
  have nd : (ws.map Prod.fst).Nodup := va_D_nd hD
  have nd2 : (ws'.map Prod.fst).Nodup := (h.map Prod.fst).nodup_iff.mp nd
  refine ⟨fun k q hq => (mem q (h.mem_iff.mpr (List.mem_of_getElem? hq))).1, ⟨fun i j p q hi hj e => ?_, fun k q hq => (mem q (h.mem_iff.mpr (List.mem_of_getElem? hq))).2⟩, hS⟩
  have hil : i < ws'.length := (List.getElem?_eq_some_iff.mp hi).1
  have h1 : (ws'.map Prod.fst)[i]? = some p.1 := by rw [List.getElem?_map, hi]; rfl
  have h2 : (ws'.map Prod.fst)[j]? = some q.1 := by rw [List.getElem?_map, hj]; rfl
  exact (List.getElem?_inj (by rw [List.length_map]; exact hil) nd2).mp (by rw [h1, h2, e])
/-- behind a call: the world with the callee's cells as they are now -/
theorem z_goes {rv : Option Value} {w1 wc : va_W} {st0 : List Value} {a : Array Value} (X : zX Δ p s m args meth c y0 cc nL rt A) (Z : zW Δ A s.heap ws H locs) (isC : List Nat) (hC : isC.map (fun i => ws[i]?) = wc.map some) (hn : va_nd isC = true) (hfst : w1.map Prod.fst = wc.map Prod.fst) (hw : zput ws isC w1 = w')
    (hr : va_Run p l e R s m args below meth c H locs cells slots 0 0 (F0 m pc ls st0) rest (zQ Δ rv w1 (va_A wc H.size) a) (va_A wc H.size)) {st1 : List Value} (hs1 : rv.toList ++ rest = st1)
    (kk : ∀ (H1 : Heap) (locs1 : List Loc), zW Δ A s.heap w' H1 locs1 → W p l e R s m args below meth c H1 locs1 cells slots Q (F0 m (pc + 3) ls st1)) : W p l e R s m args below meth c H locs cells slots Q (F0 m pc ls st0) := by
  subst hs1
  intro T hT Y
  obtain ⟨v, st₀, t, T', L, h0, Y', hL, e1, e2, ⟨⟨hv, hP1⟩, hz, hk⟩, st⟩ := hr T hT Y
  obtain rfl : v = rv := by cases hv; rfl
  rw [h0] at hz hk
  obtain ⟨hP, hD, hS⟩ := Z
  have hF := va_free hD hS X.2.2.1 isC hC
  have hl : isC.length = wc.length := by have := congrArg List.length hC; simpa using this
  have hx : w1.length = wc.length := by have := congrArg List.length hfst; simpa using this
  have hcell : ∀ (j k : Nat), isC[j]? = some k → ∃ q, wc[j]? = some q ∧ ws[k]? = some q := by
    intro j k hj
    have h1 : (isC.map (fun i => ws[i]?))[j]? = some (ws[k]?) := by rw [List.getElem?_map, hj]; rfl
    rw [hC, List.getElem?_map] at h1
    cases hq : wc[j]? with
    | none => rw [hq] at h1; cases h1
    | some q => rw [hq] at h1; exact ⟨q, rfl, (Option.some.inj h1).symm⟩
  have hS' : va_S A s.heap T'.heap (locs ++ L) := ⟨Nat.le_trans hS.1 (by rw [e1]; exact hz), fun q h1 h2 => by rw [e1, hk q (Nat.lt_of_lt_of_le h1 hS.1) (fun z => h2 (hF q z))]; exact hS.2.1 q h1 h2, fun q hq => by
      rcases List.mem_append.mp hq with h | h
      · exact hS.2.2 q h
      · exact hF _ (hL q h)⟩
  have hD' : va_D A w' := by rw [← hw]; exact va_D_fst (zput_fst hn hC hfst) hD
  have hP' : va_P Δ.1 vwCl w' T'.heap := by
    intro k q hq
    rw [← hw] at hq
    by_cases hk' : k ∈ isC
    · obtain ⟨j, hj⟩ := List.getElem?_of_mem hk'
      obtain ⟨q0, h1, h2⟩ := hcell j k hj
      have hjl : j < wc.length := (List.getElem?_eq_some_iff.mp h1).1
      rw [zput_in hn hj (List.getElem?_eq_some_iff.mp h2).1 (by omega)] at hq
      rw [e1]
      exact hP1 j q hq
    · rw [zput_out hk'] at hq
      have hat := hP k q hq
      rw [e1]
      refine hat.kept (hk q.1 hat.lt ?_)
      rintro (⟨j, e9, hj⟩ | h)
      · have hjl : j < wc.length := (List.getElem?_eq_some_iff.mp hj).1
        have hji : j < isC.length := by omega
        obtain ⟨q0, h1, h2⟩ := hcell j isC[j] (List.getElem?_eq_getElem hji)
        rw [hj] at h1
        have : isC[j] = k := hD.1 _ _ _ _ h2 hq (by rw [← Option.some.inj h1])
        exact hk' (this ▸ List.getElem_mem hji)
      · have := hat.lt; omega
  obtain ⟨t2, a1, b1⟩ := kk T'.heap (locs ++ L) ⟨hP', hD', hS'⟩ T' rfl Y'
  exact ⟨t2, st t2 a1, b1⟩
theorem zBlind {av : List Value} {wc : va_W} {sz : Nat} : FrameBlind (va_Pc av (fun U => U.heap.size = sz ∧ va_P Δ.1 vwCl wc U.heap ∧ zK Δ U ∧ va_D (fun _ => True) wc)) := fun a U g mk q => by
  obtain ⟨q0, q1, qP, qK, qD⟩ := q
  exact ⟨q0, q1, qP, qK.calling, qD⟩
theorem zPre {av : List Value} {wc : va_W} (X : zX Δ p s m args meth c y0 cc nL rt A) (Z : zW Δ A s.heap ws H locs) (isC : List Nat) (hn : va_nd isC = true) (hC : isC.map (fun i => ws[i]?) = wc.map some) : ∀ U : State, U.heap = H → s.WarmedH U.vm → va_Pc av (fun U => U.heap.size = H.size ∧ va_P Δ.1 vwCl wc U.heap ∧ zK Δ U ∧ va_D (fun _ => True) wc) av.toArray U := by
  intro U hU hW
  refine ⟨rfl, by rw [hU], ?_, X.K.warm hW, (Z.2.1.sub isC hn hC).weaken (fun _ _ _ _ => trivial)⟩
  rw [hU]
  refine Z.1.sub isC ?_
  have h2 : isC.filterMap (fun i => ws[i]?) = (isC.map (fun i => ws[i]?)).filterMap id := by rw [List.filterMap_map]; rfl
  rw [h2, hC, List.filterMap_map]
  have h3 : (id ∘ some : Nat × va_E → Option (Nat × va_E)) = some := rfl
  rw [h3, List.filterMap_some]
variable {y : MethodName} {bytes : ByteArray} {maxL index n : Nat} {ret : Option FieldType} {fr lo : Nat} {As : List Value} {wc w1 : va_W} {rv : Option Value} {st0 : List Value} {b : Nat} {lvs : List (Nat × Value)}
/-- an instance method is called -/
theorem z_callV (X : zX Δ p s m args meth c y0 cc nL rt A) (Z : zW Δ A s.heap ws H locs) (hl : lv_has ls nL lvs) (hM : zMet l Δ y bytes maxL ret fr lo (.ref b :: As) wc w1 rv) (h1 : Cond.methodLink y0.cls index y ∈ zG) (h2 : Cond.instanceMethod y ∈ zG) (h3 : Cond.selects y.cls y y ∈ zG) (h4 : Cond.initialized y.cls ∈ zG) (h5 : Cond.code y bytes maxL ret ∈ zG) (hd : zOK y n)
    (ci : Nat) {fs : List Value} {T : u_T} {N : Nat} (hcl : vwCl[ci]? = some (y.cls, T, N)) (q0 : Nat) (hb0 : ws[q0]? = some (b, .inr (ci, fs))) {isC : List Nat} (hsub : zSub ws wc isC) (hfst : w1.map Prod.fst = wc.map Prod.fst) (hw : zput ws isC w1 = w') (hlen : As.length = n) (hst : st0 = As.reverse ++ .ref b :: rest) (hW : (rest.map fun v => v.category).sum ≤ 8) (hR : fr + 1 ≤ R.frames ∧ 8 + (maxL + 11) + lo ≤ R.locals) (hrc : cells ≤ R.cells ∧ slots ≤ R.slots) {st1 : List Value} (hs1 : rv.toList ++ rest = st1) (hdg : decode cc pc = .ok (.invokevirtual index, 3))
    (kk : ∀ (H1 : Heap) (locs1 : List Loc), zW Δ A s.heap w' H1 locs1 → W p l e R s m args below meth c H1 locs1 cells slots Q (F0 m (pc + 3) ls st1)) : W p l e R s m args below meth c H locs cells slots Q (F0 m pc ls st0) := by
  subst hst
  have g : GoodIn zG (wsV y0.cls index y.cls y (.code y bytes maxL ret :: zG)) := zG_good (by
    intro w hw
    simp only [wsV, List.mem_append, List.mem_cons, List.not_mem_nil, or_false] at hw
    rcases hw with (rfl | rfl | rfl | rfl) | rfl | h
    · exact h1
    · exact h2
    · exact h3
    · exact h4
    · exact h5
    · exact h)
  exact z_goes X Z isC hsub.1 hsub.2 hfst hw (va_runV (As := As) (rest := rest) (n := n) X.1 (hM H.size) (cwV n X.ts g rfl rfl rfl ⟨rfl, hd.1, hd.2.1, hd.2.2⟩ hR) ⟨zBlind, va_recv X.K.1 Z.1 hcl hb0, zPre X Z isC hsub.2 hsub.1⟩ rfl hlen hl.1 rfl (lv_room hW) hdg ⟨hrc.1, hrc.2⟩) hs1 kk
/-- a static method is called -/
theorem z_callS (X : zX Δ p s m args meth c y0 cc nL rt A) (Z : zW Δ A s.heap ws H locs) (hl : lv_has ls nL lvs) (hM : zMet l Δ y bytes maxL ret fr lo As wc w1 rv) (h1 : Cond.methodLink y0.cls index y ∈ zG) (h2 : Cond.static y ∈ zG) (h4 : Cond.initialized y.cls ∈ zG) (h5 : Cond.code y bytes maxL ret ∈ zG) (hd : zOK y n)
    {isC : List Nat} (hsub : zSub ws wc isC) (hfst : w1.map Prod.fst = wc.map Prod.fst) (hw : zput ws isC w1 = w') (hlen : As.length = n) (hst : st0 = As.reverse ++ rest) (hW : (rest.map fun v => v.category).sum ≤ 8) (hR : fr + 1 ≤ R.frames ∧ 8 + (maxL + 11) + lo ≤ R.locals) (hrc : cells ≤ R.cells ∧ slots ≤ R.slots) {st1 : List Value} (hs1 : rv.toList ++ rest = st1) (hdg : decode cc pc = .ok (.invokestatic index, 3))
    (kk : ∀ (H1 : Heap) (locs1 : List Loc), zW Δ A s.heap w' H1 locs1 → W p l e R s m args below meth c H1 locs1 cells slots Q (F0 m (pc + 3) ls st1)) : W p l e R s m args below meth c H locs cells slots Q (F0 m pc ls st0) := by
  subst hst
  have g : GoodIn zG (va_wsS y0.cls index y (.code y bytes maxL ret :: zG)) := zG_good (by
    intro w hw
    simp only [va_wsS, List.mem_append, List.mem_cons, List.not_mem_nil, or_false] at hw
    rcases hw with (rfl | rfl | rfl) | rfl | h
    · exact h1
    · exact h2
    · exact h4
    · exact h5
    · exact h)
  exact z_goes X Z isC hsub.1 hsub.2 hfst hw (va_runS (As := As) (rest := rest) (n := n) X.1 (hM H.size) (va_cwS n X.ts g rfl rfl rfl ⟨hd.1, hd.2.1, hd.2.2⟩ hR) ⟨zBlind, zPre X Z isC hsub.2 hsub.1⟩ rfl hlen hl.1 rfl (lv_room hW) hdg ⟨hrc.1, hrc.2⟩) hs1 kk
/-- a static method of a nest mate is called -/
theorem z_callSN {host : String} (X : zX Δ p s m args meth c y0 cc nL rt A) (Z : zW Δ A s.heap ws H locs) (hl : lv_has ls nL lvs) (hM : zMet l Δ y bytes maxL ret fr lo As wc w1 rv) (h1 : Cond.methodLinkNest y0.cls index y host ∈ zNw) (h2 : Cond.static y ∈ zG) (h4 : Cond.initialized y.cls ∈ zG) (h5 : Cond.code y bytes maxL ret ∈ zG) (hd : zOK y n)
    {isC : List Nat} (hsub : zSub ws wc isC) (hfst : w1.map Prod.fst = wc.map Prod.fst) (hw : zput ws isC w1 = w') (hlen : As.length = n) (hst : st0 = As.reverse ++ rest) (hW : (rest.map fun v => v.category).sum ≤ 8) (hR : fr + 1 ≤ R.frames ∧ 8 + (maxL + 11) + lo ≤ R.locals) (hrc : cells ≤ R.cells ∧ slots ≤ R.slots) {st1 : List Value} (hs1 : rv.toList ++ rest = st1) (hdg : decode cc pc = .ok (.invokestatic index, 3))
    (kk : ∀ (H1 : Heap) (locs1 : List Loc), zW Δ A s.heap w' H1 locs1 → W p l e R s m args below meth c H1 locs1 cells slots Q (F0 m (pc + 3) ls st1)) : W p l e R s m args below meth c H locs cells slots Q (F0 m pc ls st0) := by
  subst hst
  have g : GoodIn zG (.code y bytes maxL ret :: zG) := zG_good (by
    intro w hw
    rcases List.mem_cons.mp hw with rfl | h
    · exact h5
    · exact h)
  exact z_goes X Z isC hsub.1 hsub.2 hfst hw (va_runSN (As := As) (rest := rest) (n := n) X.1 (hM H.size) ⟨va_cnB n X.ts g rfl rfl rfl (X.K.2.1 _ h1) (X.ts _ h4) ⟨hd.1, hd.2.1, hd.2.2⟩ hR, X.ts _ h2, trivial⟩ ⟨zBlind, zPre X Z isC hsub.2 hsub.1⟩ rfl hlen hl.1 rfl (lv_room hW) hdg ⟨hrc.1, hrc.2⟩) hs1 kk
end ZB
theorem zSub_nil {ws : va_W} : zSub ws [] [] := ⟨rfl, rfl⟩
theorem zput_nil {ws : va_W} : zput ws [] [] = ws := rfl
theorem zput_app (ws : va_W) (i2 : List Nat) (x2 : va_W) : ∀ (i1 : List Nat) (x1 : va_W), i1.length = x1.length → zput ws (i1 ++ i2) (x1 ++ x2) = zput (zput ws i2 x2) i1 x1
  | [], [], _ => rfl
  | _ :: _, [], h => by cases h
  | [], _ :: _, h => by cases h
  | i :: is, x :: xs, h => by
    show (zput ws (is ++ i2) (xs ++ x2)).set i x = (zput (zput ws i2 x2) is xs).set i x
    rw [zput_app ws i2 x2 is xs (by simpa using h)]
/-- a run of places -/
theorem zput_rng : ∀ (n o : Nat) (ws xs : va_W), o + n ≤ ws.length → xs.length = n → zput ws (List.range' o n) xs = ws.take o ++ xs ++ ws.drop (o + n)
  | 0, o, ws, xs, _, hx => by
    obtain rfl := List.length_eq_zero_iff.mp hx
    simp [zput]
  | n + 1, o, ws, x :: xs, h, hx => by
    show (zput ws (List.range' (o + 1) n) xs).set o x = _
    rw [zput_rng n (o + 1) ws xs (by omega) (by simpa using hx)]
    have ho : o < ws.length := by omega
    apply List.ext_getElem?
    intro k
    have e1 : o + 1 + n = o + (n + 1) := by omega
    rw [e1, List.getElem?_set]
    simp only [List.append_assoc, List.getElem?_append, List.length_take, List.getElem?_take, List.length_append, List.getElem?_drop, List.length_drop, List.length_cons]
    have hxl : xs.length = n := by simpa using hx
    by_cases hk : o = k
    · subst hk
      have m1 : min (o + 1) ws.length = o + 1 := by omega
      have m2 : min o ws.length = o := by omega
      simp [m1, m2]
      omega
    · by_cases hlt : k < o
      · have a1 : k < min (o + 1) ws.length := by omega
        have a2 : k < min o ws.length := by omega
        simp [hk, a1, a2, hlt]
        omega
      · have m1 : min (o + 1) ws.length = o + 1 := by omega
        have m2 : min o ws.length = o := by omega
        have a1 : ¬ k < o + 1 := by omega
        obtain ⟨j, rfl⟩ : ∃ j, k = o + 1 + j := ⟨k - (o + 1), by omega⟩
        have e2 : o + 1 + j - (o + 1) = j := by omega
        have e3 : o + 1 + j - o = j + 1 := by omega
        have e4 : ¬ o + 1 + j < o := by omega
        simp [m1, m2, a1, e2, e3, hk, e4, hxl]
/-! the steps of the pure functions -/
def zin (i : Int32) (n : Nat) : Bool := decide (¬ (i < 0 ∨ n ≤ i.toNatClampNeg))
theorem zg_in {α : Type} {i : Int32} {n : Nat} {x : Option α} {r : α} (h : (if zin i n = true then x else none) = some r) : vp_in i n ∧ x = some r := by
  by_cases g : zin i n = true
  · rw [if_pos g] at h
    exact ⟨by unfold vp_in; exact of_decide_eq_true g, h⟩
  · rw [if_neg g] at h; cases h
theorem zg_nz {α : Type} {y : Int32} {x : Option α} {r : α} (h : (if y = 0 then none else x) = some r) : ¬ y = 0 ∧ x = some r := by
  by_cases g : y = 0
  · rw [if_pos g] at h; cases h
  · rw [if_neg g] at h; exact ⟨g, h⟩
theorem zg_bo {α : Type} {y : Int32} {x : Option α} {r : α} (h : (if y = 0 ∨ y = 1 then x else none) = some r) : (y = 0 ∨ y = 1) ∧ x = some r := by
  by_cases g : y = 0 ∨ y = 1
  · rw [if_pos g] at h; exact ⟨g, h⟩
  · rw [if_neg g] at h; cases h
def zn64 (r : UInt64) : Bool := decide (r &&& 0x7fffffffffffffff ≤ 0x7ff0000000000000)
theorem zg_nn {α : Type} {y : UInt64} {x : Option α} {r : α} (h : (if zn64 y = true then x else none) = some r) : vf_n64 y ∧ x = some r := by
  by_cases g : zn64 y = true
  · rw [if_pos g] at h; exact ⟨by unfold vf_n64; exact of_decide_eq_true g, h⟩
  · rw [if_neg g] at h; cases h
theorem zif_t {α : Type} {c : Prop} [Decidable c] {a b : Option α} {r : α} (hc : c) (h : (if c then a else b) = some r) : a = some r := by rw [if_pos hc] at h; exact h
theorem zif_f {α : Type} {c : Prop} [Decidable c] {a b : Option α} {r : α} (hc : ¬ c) (h : (if c then a else b) = some r) : b = some r := by rw [if_neg hc] at h; exact h
theorem zb_ok {α β : Type} {x : Option α} {f : α → Option β} {r : β} (h : x.bind f = some r) : ∃ q, x = some q ∧ f q = some r := by
  cases x with
  | none => cases h
  | some q => exact ⟨q, rfl, h⟩
def zfuel : Nat := 5000
theorem zvin {i : Int32} {n : Nat} (h : zin i n = true) : vp_in i n := by unfold vp_in; exact of_decide_eq_true h
def zus (x y : Int32) : Int32 := (x.toUInt32 >>> (y.toUInt32 &&& Int32.toUInt32 31)).toInt32
theorem zt_ne {x v : Int32} {n : Int} (h : ¬ x = v) (e : v.toInt = n) : x.toInt ≠ n := fun g => h (Int32.toInt_inj.mp (g.trans e.symm))
theorem zt_lo {x v : Int32} (h : x = v) {lo : Int} (g : lo ≤ v.toInt) : ¬ x.toInt < lo := by rw [h]; omega
theorem zt_hi {x v : Int32} (h : x = v) {hi : Int} (g : v.toInt ≤ hi) : ¬ hi < x.toInt := by rw [h]; omega
theorem zt_at {x v : Int32} (h : x = v) {lo off : Int} {offs : Array Int} (g : offs[(v.toInt - lo).toNat]? = some off) : offs[(x.toInt - lo).toNat]? = some off := by rw [h]; exact g
