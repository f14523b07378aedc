/-! THE LAW: a new object -/
theorem w_init (Δ : zE) (ad : Nat → Nat) : ∃ w, zSame Δ (wX6 Δ ad 0 0 0 (fun _ => 0) (fun _ => 0) (fun _ => 0) (fun _ => 0) (fun _ => 0) (fun _ => 0) (fun _ => 0) (fun _ => 0) (fun _ => 0) (upd (upd (fun _ => 0) (0 : Int32).toNatClampNeg 4) (1 : Int32).toNatClampNeg 10) 0 0 (fun _ => none) 0 (fun _ => 0) 0 0 0 0) w ∧ wOb Δ (ad 0) s_new w := by
  have h1 := zS_X6 (Δ := Δ) ad zInit 0 0 (fun _ => none) 0 (codes := fun _ => 0) (codes' := tf (tl (fun _ => 0) 60 0)) (fun _ h => tf_tl h) 0 0 0 0
  have e : zRows 0 (fun _ _ => 0) = fun _ => none := by
    funext j
    exact if_neg (Nat.not_lt_zero j)
  refine ⟨_, h1, ad, fun _ _ => 0, 0, 0, 0, fun _ => zInit, 0, 0, 0, 0, rfl, tN_tN _, ⟨⟨by decide, by decide, by decide, by decide, Or.inl rfl⟩, rfl, fun i t hi => by cases hi⟩, ?_⟩
  rw [e]
  exact (List.append_nil _).symm
section NB
variable {p : Program} {l : Launch} {e : Env} {R : Room} {s : State} {m : MethodId} {args : Array Value} {below : List Frame} {meth : Method} {c : Code} {H : Heap} {locs : List Loc} {cells slots : Nat} {Q : State → Prop} {Δ : zE} {y0 : MethodName} {cc : ByteArray} {nL : Nat} {rt : Option FieldType} {A : Nat → Prop} {ws : va_W} {pc : Nat} {ls : Array Slot} {rest : List Value} {lvs : List (Nat × Value)} {c1 s1 : Nat}
/-- a new object is made; what was there is left -/
theorem o_new (Y : zY Δ p l s m args meth c y0 cc nL rt A) (Z : zW Δ A s.heap ws H locs) (hl : lv_has ls nL lvs) {i1 i2 : Nat} (h1 : Cond.classLink y0.cls i1 "SerialRecaps" ∈ zG) (h2 : Cond.instantiable "SerialRecaps" 3 ∈ zG) (h3 : Cond.initialized "SerialRecaps" ∈ zG) (h4 : Cond.methodLink y0.cls i2 yX6_init ∈ zG) (h5 : Cond.instanceMethod yX6_init ∈ zG) (h6 : Cond.code yX6_init cX6_init 1 none ∈ zG) (hd : zOK yX6_init 0) (hW : (rest.map fun v => v.category).sum + 1 ≤ 8) (hR : 3 + 1 ≤ R.frames ∧ 8 + (1 + 11) + 52 ≤ R.locals) (hrc : cells + 19 ≤ R.cells ∧ slots + 206 ≤ R.slots) (hc : cells + 19 = c1) (hs : slots + 206 = s1) (d0 : decode cc pc = .ok (.new i1, 3)) (d3 : decode cc (pc + 3) = .ok (.dup, 1)) (d4 : decode cc (pc + 4) = .ok (.invokespecial i2, 3))
    (kk : ∀ (a : Nat) (ws1 : va_W) (H1 : Heap) (locs1 : List Loc), wOb Δ a s_new ws1 → zW Δ A s.heap (ws1 ++ []) H1 locs1 → W p l e R s m args below meth c H1 locs1 c1 s1 Q (F0 m (pc + 7) ls (.ref a :: rest))) : W p l e R s m args below meth c H locs cells slots Q (F0 m pc ls rest) := by
  subst hc hs
  refine c_new (fs := [.null, .null, .null]) inG_X6 (ci := 6) rfl tyX6 tyX6_ok (fun j hj => by match j, hj with | 0, _ => rfl | 1, _ => rfl | 2, _ => rfl | j + 3, hj => exact absurd hj (by omega)) Y.1 Z.none h1 h2 h3 (by omega) (by omega) d0 (fun q H1 Z1 => ?_)
  have Z1 : zW Δ A s.heap [(q, .inr (6, [.null, .null, .null]))] H1 _ := Z1
  refine lv_dup Y.1.x Y.1.b d3 rfl ?_
  refine c_callI Y.1 Z1 hl (mX6_init l Δ q) h4 h5 h3 h6 hd rfl (wr := []) (List.Perm.refl _) rfl (rest := .ref q :: rest) rfl (by rw [List.map_cons, List.sum_cons]; show 1 + _ ≤ 8; omega) hR ⟨by omega, by omega⟩ d4 (fun rv w1 H2 locs2 hP Z2 => ?_)
  obtain ⟨rfl, ad, rfl, rfl⟩ := hP
  rw [List.append_nil] at Z2
  obtain ⟨w, hw1, hw2⟩ := w_init Δ ad
  have Z3 := Z2.same hw1
  refine W.eq (g2 := F0 m (pc + 7) ls (.ref (ad 0) :: rest)) rfl ?_
  refine W.widen (k := cells + 19) (n := slots + 206) (by omega) (by omega) (kk (ad 0) w H2 _ hw2 (by rw [List.append_nil]; exact Z3))
end NB
