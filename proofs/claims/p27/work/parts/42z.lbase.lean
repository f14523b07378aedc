/-! THE LAW: calls, ends -/
section LB
variable {p : Program} {l : Launch} {e : Env} {R : Room} {s : State} {m : MethodId} {args : Array Value} {below : List Frame} {meth : Method} {c : Code} {H : Heap} {locs : List Loc} {cells slots : Nat} {Q : State → Prop} {Δ : zE} {y0 : MethodName} {cc : ByteArray} {nL : Nat} {rt : Option FieldType} {A : Nat → Prop} {ws w' : va_W} {pc : Nat} {ls : Array Slot} {rest : List Value}
variable {P : Option Value → va_W → Prop} {PX : String → va_W → Prop} {mc ms : Nat}
variable {y : MethodName} {bytes : ByteArray} {maxL index n : Nat} {ret : Option FieldType} {fr1 lo1 mx1 mx2 : Nat} {As : List Value} {wc w1 wr : va_W} {st0 st1 : List Value} {a : Nat} {b b' : zOb} {lvs : List (Nat × Value)} {P1 : Option Value → va_W → Prop} {PX1 : String → va_W → Prop} {hh : List (Nat × Nat × Nat × Nat)} {c1 s1 : Nat}
theorem x_zret {v : Int32} {w1 : va_W} (X : zX Δ p s m args meth c y0 cc nL (some .boolean) A) (Z : zW Δ A s.heap w1 H locs) (hv : v = 0 ∨ v = 1) (hP : P (some (.int v)) w1) (hc : cells ≤ mc) (hs : slots ≤ ms) (hdg : decode cc pc = .ok (.ireturn, 1)) : W p l e R s m args below meth c H locs cells slots (zEndX Δ below args s mc ms A P PX) (F0 m pc ls [.int v]) :=
  W.widen hc hs (vx_ret (W.zret (v := v) (ty := .boolean) X.x X.b X.2.2.2.1 (by rcases hv with rfl | rfl <;> decide) (fun t ht _ => ⟨⟨_, _, rfl, hP, by rw [ht]; exact Z.1, Z.2.1⟩, Z.2.2.F ht⟩) Z.2.2.2.2 hdg X.2.2.2.2.1))
theorem x_lret {v : Int64} {w1 : va_W} (X : zX Δ p s m args meth c y0 cc nL (some .long) A) (Z : zW Δ A s.heap w1 H locs) (hP : P (some (.long v)) w1) (hc : cells ≤ mc) (hs : slots ≤ ms) (hdg : decode cc pc = .ok (.lreturn, 1)) : W p l e R s m args below meth c H locs cells slots (zEndX Δ below args s mc ms A P PX) (F0 m pc ls [.long v]) :=
  W.widen hc hs (vx_ret (W.lret (v := v) X.x X.b X.2.2.2.1 (fun t ht _ => ⟨⟨_, _, rfl, hP, by rw [ht]; exact Z.1, Z.2.1⟩, Z.2.2.F ht⟩) Z.2.2.2.2 hdg X.2.2.2.2.1))
theorem zW.none {H0 : Heap} (Z : zW Δ A H0 ws H locs) : zW Δ A H0 [] H locs := ⟨fun k q h => by simp at h, ⟨fun i j p q h => by simp at h, fun k q h => by simp at h⟩, Z.2.2⟩
theorem wOb.at {b : zOb} {ws wr : va_W} (h : wOb Δ a b ws) : ∃ fs : List Value, (ws ++ wr)[0]? = some (a, .inr (6, fs)) := h.head
/-- a method of the object is called, which goes on whatever it answers or throws -/
theorem l_thru {r : String ⊕ Int32} (Y : zY Δ p l s m args meth c y0 cc nL (some .int) A) (htab : ∀ x ∈ c.exceptionTable.toList, False) (Z : zW Δ A s.heap ws H locs) (hl : lv_has ls nL lvs) (hw : wOb Δ a b ws) (hC : zCt l Δ y (.code y bytes maxL (some .int)) fr1 lo1 mx1 mx2 As b r b') (h1 : Cond.methodLink y0.cls index y ∈ zG) (h2 : Cond.instanceMethod y ∈ zG) (h3 : Cond.selects y.cls y y ∈ zG) (h4 : Cond.initialized y.cls ∈ zG) (h5 : Cond.code y bytes maxL (some .int) ∈ zG) (hd : zOK y n)
    {T : u_T} {N : Nat} (hcl : vwCl[6]? = some (y.cls, T, N)) (hlen : As.length = n) (hst : st0 = As.reverse ++ [.ref a]) (hR : fr1 + 1 ≤ R.frames ∧ 8 + (maxL + 11) + lo1 ≤ R.locals) (hrc : cells + mx1 ≤ R.cells ∧ slots + mx2 ≤ R.slots) (hc : cells + mx1 ≤ mc) (hs : slots + mx2 ≤ ms) (hdg : decode cc pc = .ok (.invokevirtual index, 3)) (hdr : decode cc (pc + 3) = .ok (.ireturn, 1)) :
    W p l e R s m args below meth c H locs cells slots (zEndX Δ below args s mc ms A (fun rv w => ∃ v : Int32, r = .inr v ∧ rv = some (.int v) ∧ wOb Δ a b' w) (fun E w => r = .inl E ∧ wOb Δ a b' w)) (F0 m pc ls st0) := by
  obtain ⟨fs, hb0⟩ := hw.head (wr := [])
  rw [List.append_nil] at hb0
  refine x_callV_G (wr := []) (rest := []) Y Z hl (hC a ws hw) h1 h2 h3 h4 h5 hd 6 hcl 0 hb0 (by rw [List.append_nil]) hlen hst (Nat.zero_le 8) hR hrc hdg (fun E ce q w9 H1 locs1 hPX Z1 g1 g2 g3 => ?_) (fun rv w2 H1 locs1 hP Z1 => ?_)
  · rw [List.append_nil] at Z1
    exact x_out Y.1 htab Z1 hPX g1 g2 g3 hc hs
  · rw [List.append_nil] at Z1
    obtain ⟨v, hr, rfl, hw2⟩ := hP
    exact x_iret Y.1 Z1 ⟨v, hr, rfl, hw2⟩ hc hs hdr
/-- a method of the object is called, and answers -/
theorem o_call {v : Int32} (Y : zY Δ p l s m args meth c y0 cc nL rt A) (Z : zW Δ A s.heap (ws ++ wr) H locs) (hl : lv_has ls nL lvs) (hw : wOb Δ a b ws) (hC : zCt l Δ y (.code y bytes maxL (some .int)) fr1 lo1 mx1 mx2 As b (.inr v) b') (h1 : Cond.methodLink y0.cls index y ∈ zG) (h2 : Cond.instanceMethod y ∈ zG) (h3 : Cond.selects y.cls y y ∈ zG) (h4 : Cond.initialized y.cls ∈ zG) (h5 : Cond.code y bytes maxL (some .int) ∈ zG) (hd : zOK y n)
    {T : u_T} {N : Nat} (hcl : vwCl[6]? = some (y.cls, T, N)) (hlen : As.length = n) (hst : st0 = As.reverse ++ .ref a :: rest) (hW : (rest.map fun v => v.category).sum ≤ 8) (hR : fr1 + 1 ≤ R.frames ∧ 8 + (maxL + 11) + lo1 ≤ R.locals) (hrc : cells + mx1 ≤ R.cells ∧ slots + mx2 ≤ R.slots) (hc : cells + mx1 = c1) (hs : slots + mx2 = s1) (hdg : decode cc pc = .ok (.invokevirtual index, 3))
    (kk : ∀ (ws1 : va_W) (H1 : Heap) (locs1 : List Loc), wOb Δ a b' ws1 → zW Δ A s.heap (ws1 ++ wr) H1 locs1 → W p l e R s m args below meth c H1 locs1 c1 s1 Q (F0 m (pc + 3) ls (.int v :: rest))) : W p l e R s m args below meth c H locs cells slots Q (F0 m pc ls st0) := by
  subst hc hs
  obtain ⟨fs, hb0⟩ := hw.head (wr := wr)
  refine x_callV_G (wr := wr) (rest := rest) Y Z hl (hC a ws hw) h1 h2 h3 h4 h5 hd 6 hcl 0 hb0 (List.Perm.refl _) hlen hst hW hR hrc hdg (fun E ce q w9 H1 locs1 hPX Z1 g1 g2 g3 => ?_) (fun rv w2 H1 locs1 hP Z1 => ?_)
  · cases hPX.1
  · obtain ⟨v2, hr, rfl, hw2⟩ := hP
    cases hr
    exact kk w2 H1 locs1 hw2 Z1
/-- a method of the object that answers a long or a double -/
theorem o_callW {v : Value} (Y : zY Δ p l s m args meth c y0 cc nL rt A) (Z : zW Δ A s.heap (ws ++ wr) H locs) (hl : lv_has ls nL lvs) (hw : wOb Δ a b ws) (hM : zMX l Δ y (.code y bytes maxL ret) fr1 lo1 mx1 mx2 [.ref a] ws (fun rv w => rv = some v ∧ wOb Δ a b w) (fun _ _ => False)) (h1 : Cond.methodLink y0.cls index y ∈ zG) (h2 : Cond.instanceMethod y ∈ zG) (h3 : Cond.selects y.cls y y ∈ zG) (h4 : Cond.initialized y.cls ∈ zG) (h5 : Cond.code y bytes maxL ret ∈ zG) (hd : zOK y 0)
    {T : u_T} {N : Nat} (hcl : vwCl[6]? = some (y.cls, T, N)) (hst : st0 = .ref a :: rest) (hW : (rest.map fun v => v.category).sum ≤ 8) (hR : fr1 + 1 ≤ R.frames ∧ 8 + (maxL + 11) + lo1 ≤ R.locals) (hrc : cells + mx1 ≤ R.cells ∧ slots + mx2 ≤ R.slots) (hc : cells + mx1 = c1) (hs : slots + mx2 = s1) (hdg : decode cc pc = .ok (.invokevirtual index, 3))
    (kk : ∀ (ws1 : va_W) (H1 : Heap) (locs1 : List Loc), wOb Δ a b ws1 → zW Δ A s.heap (ws1 ++ wr) H1 locs1 → W p l e R s m args below meth c H1 locs1 c1 s1 Q (F0 m (pc + 3) ls (v :: rest))) : W p l e R s m args below meth c H locs cells slots Q (F0 m pc ls st0) := by
  subst hc hs
  obtain ⟨fs, hb0⟩ := hw.head (wr := wr)
  refine x_callV_G (wr := wr) (rest := rest) Y Z hl hM h1 h2 h3 h4 h5 hd 6 hcl 0 hb0 (List.Perm.refl _) rfl hst hW hR hrc hdg (fun E ce q w9 H1 locs1 hPX Z1 g1 g2 g3 => hPX.elim) (fun rv w2 H1 locs1 hP Z1 => ?_)
  obtain ⟨rfl, hw2⟩ := hP
  exact kk w2 H1 locs1 hw2 Z1
/-- a static method that throws nothing -/
theorem o_stat (Y : zY Δ p l s m args meth c y0 cc nL rt A) (Z : zW Δ A s.heap (wc ++ wr) H locs) (hl : lv_has ls nL lvs) (hM : zMX l Δ y (.code y bytes maxL ret) fr1 lo1 mx1 mx2 As wc P1 (fun _ _ => False)) (h1 : Cond.methodLink y0.cls index y ∈ zG) (h2 : Cond.static y ∈ zG) (h4 : Cond.initialized y.cls ∈ zG) (h5 : Cond.code y bytes maxL ret ∈ zG) (hd : zOK y n)
    (hlen : As.length = n) (hst : st0 = As.reverse ++ rest) (hW : (rest.map fun v => v.category).sum ≤ 8) (hR : fr1 + 1 ≤ R.frames ∧ 8 + (maxL + 11) + lo1 ≤ R.locals) (hrc : cells + mx1 ≤ R.cells ∧ slots + mx2 ≤ R.slots) (hc : cells + mx1 = c1) (hs : slots + mx2 = s1) (hdg : decode cc pc = .ok (.invokestatic index, 3))
    (kk : ∀ (rv : Option Value) (w1 : va_W) (H1 : Heap) (locs1 : List Loc), P1 rv w1 → zW Δ A s.heap (w1 ++ wr) H1 locs1 → W p l e R s m args below meth c H1 locs1 c1 s1 Q (F0 m (pc + 3) ls (rv.toList ++ rest))) : W p l e R s m args below meth c H locs cells slots Q (F0 m pc ls st0) := by
  subst hc hs hst
  exact x_goes Y Z (List.Perm.refl _) (vx_runS (As := As) (rest := rest) (n := n) Y.1.1 (hM H.size) (va_cwS n Y.1.ts (x_gS h1 h2 h4 h5) rfl rfl rfl ⟨hd.1, hd.2.1, hd.2.2⟩ hR) ⟨xBlind, xPre Y Z (List.Perm.refl _)⟩ rfl hlen hl.1 rfl (lv_room hW) hdg hrc) (fun E _ _ w9 _ _ h => h.elim) kk
/-- the same, of one with handlers -/
theorem o_statX (Y : zY Δ p l s m args meth c y0 cc nL rt A) (Z : zW Δ A s.heap (wc ++ wr) H locs) (hl : lv_has ls nL lvs) (hM : zMX l Δ y (.codeWith y bytes maxL ret hh) fr1 lo1 mx1 mx2 As wc P1 (fun _ _ => False)) (h1 : Cond.methodLink y0.cls index y ∈ zG) (h2 : Cond.static y ∈ zG) (h4 : Cond.initialized y.cls ∈ zG) (h5 : Cond.codeWith y bytes maxL ret hh ∈ zG) (hd : zOK y n)
    (hlen : As.length = n) (hst : st0 = As.reverse ++ rest) (hW : (rest.map fun v => v.category).sum ≤ 8) (hR : fr1 + 1 ≤ R.frames ∧ 8 + (maxL + 11) + lo1 ≤ R.locals) (hrc : cells + mx1 ≤ R.cells ∧ slots + mx2 ≤ R.slots) (hc : cells + mx1 = c1) (hs : slots + mx2 = s1) (hdg : decode cc pc = .ok (.invokestatic index, 3))
    (kk : ∀ (rv : Option Value) (w1 : va_W) (H1 : Heap) (locs1 : List Loc), P1 rv w1 → zW Δ A s.heap (w1 ++ wr) H1 locs1 → W p l e R s m args below meth c H1 locs1 c1 s1 Q (F0 m (pc + 3) ls (rv.toList ++ rest))) : W p l e R s m args below meth c H locs cells slots Q (F0 m pc ls st0) := by
  subst hc hs hst
  exact x_goes Y Z (List.Perm.refl _) (vx_runSX (As := As) (rest := rest) (n := n) Y.1.1 (hM H.size) (vx_cwSW n Y.1.ts (x_gS h1 h2 h4 h5) rfl rfl rfl ⟨hd.1, hd.2.1, hd.2.2⟩ hR) ⟨xBlind, xPre Y Z (List.Perm.refl _)⟩ rfl hlen hl.1 rfl (lv_room hW) hdg hrc) (fun E _ _ w9 _ _ h => h.elim) kk
end LB

