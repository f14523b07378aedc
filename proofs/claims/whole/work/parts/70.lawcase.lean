set_option maxRecDepth 100000 in
set_option maxHeartbeats 4000000 in
theorem law_add {p : Program} {l : Launch} {e : Env} {s : State} {m : MethodId} {below : List Frame} {meth : Method} {c : Code} {H : Heap} {locs : List Loc} {cells slots : Nat} {Q : State → Prop} {Δ : zE} {b L : Nat} {xs : Nat → Int32} {ls : Array Slot} (hT : l.stackTraces = false) (Y : zY Δ p l s m #[Value.ref b] meth c ⟨"SerialRecapsLaw", meth.name, ""⟩ code 9 (some .boolean) (fun q => s.heap.size ≤ q)) (hX : va_X b L xs s s.heap) (hbl : b < s.heap.size) {a1 a2 ao : Nat} {i : Int32} (hin1 : vp_in (i + 1) L) (hin2 : vp_in (i + 2) L) (hin3 : vp_in (i + 3) L) (I : zInv Δ s b a1 a2 ao i H locs ls) (hc : cells + 15 ≤ 601024 ∧ slots + 140 ≤ 7293034) (next : ∀ (H1 : Heap) (locs1 : List Loc) (ls1 : Array Slot), zInv Δ s b a1 a2 ao i H1 locs1 ls1 → W p l e room_1 s m #[Value.ref b] below meth c H1 locs1 (cells + 15) (slots + 140) Q (F0 m 1469 ls1 [])) : W p l e room_1 s m #[Value.ref b] below meth c H locs cells slots Q (F0 m 148 ls []) := by
  have X := Y.1
  obtain ⟨ad, adm, out, ⟨reached, lost, size, plots, cliffs, words, needs, told, rea, wread, ltold, lout, sets⟩, len, codes, gpl, gps, gcl, gwo, o, k, n, α, σ, thr, mlen, spot, reads, hash, ms, mpast, mtext, mread, rfl, rfl, Z, hO0, HS, TX, hl⟩ := I
  obtain ⟨n', L', c', V⟩ := id hO0
  have V : zV n' L' c' reached lost size plots cliffs words needs told rea wread ltold lout sets ms := V
  have Z : zW Δ (fun q => s.heap.size ≤ q) s.heap (wX7 Δ adm thr (nI k) mlen spot reads hash ms mpast mtext mread ++ ([(ao, .inl (Δ.2.2.2.1, 1, .inr (.inl out)))] ++ (wX6 Δ ad reached lost size plots cliffs words needs told rea wread ltold lout sets (nI o) (nI k) (zRows n α) len codes gpl gps gcl gwo ++ zPool Δ n α σ))) H locs := Z
  obtain ⟨x1, hx1⟩ : ∃ z, xs (i + 1).toNatClampNeg = z := ⟨_, rfl⟩
  obtain ⟨x2, hx2⟩ : ∃ z, xs (i + 2).toNatClampNeg = z := ⟨_, rfl⟩
  obtain ⟨x3, hx3⟩ : ∃ z, xs (i + 3).toNatClampNeg = z := ⟨_, rfl⟩
  obtain ⟨mp', hs, HS'⟩ := HS.keep (c0 := (reached, lost, size, plots, cliffs, words, needs, told, rea, wread, ltold, lout, sets)) (ms := ms) hO0
  obtain ⟨res, v1, v2, v3, v4, v5, hf6, hf7, hE, hin, hex⟩ := (V.s_add (thr := thr) hs x1 x2 x3).go (by decide)
  refine lv_aload_n X.x X.b dE_148 rfl (lv_at hl 1 rfl) ?_
  refine law_arg Y hX hbl Z hl 0 4 rfl rfl (v := 1) (by decide) hx1 hin1 dE_149 dE_150 dE_152 dE_153 dE_154 ?_
  refine law_arg Y hX hbl Z hl 0 4 rfl rfl (v := 2) (by decide) hx2 hin2 dE_155 dE_156 dE_158 dE_159 dE_160 ?_
  refine law_arg Y hX hbl Z hl 0 4 rfl rfl (v := 3) (by decide) hx3 hin3 dE_161 dE_162 dE_164 dE_165 dE_166 ?_
  refine lv_aload_n X.x X.b dE_167 rfl (lv_at hl 3 rfl) ?_
  refine x_callSX Y Z hl (mL_add l hT Δ ad ao out reached lost size plots cliffs words needs told rea wread ltold lout sets len codes gpl gps gcl gwo o k n α σ HS.1 x1 x2 x3 hf6 hE) wd_448 wd_449 wd_60 wd_450 ok_L_add List.perm_append_comm rfl (rest := []) rfl (Nat.le_of_ble_eq_true rfl) ⟨Nat.le_of_ble_eq_true rfl, Nat.le_of_ble_eq_true rfl⟩ ⟨Nat.le_trans (Nat.add_le_add_left (m := 15) (Nat.le_of_ble_eq_true rfl) cells) hc.1, Nat.le_trans (Nat.add_le_add_left (m := 140) (Nat.le_of_ble_eq_true rfl) slots) hc.2⟩ dE_168 (fun _ _ h => h) (fun rv w1 H locs hP Z => ?_)
  have Z := Z.perm List.perm_append_comm
  rcases hP with ⟨r, hr, rfl, α1, rfl⟩ | ⟨E, hr, rfl, rfl⟩
  · obtain ⟨rfl, rfl, rfl, rfl, hO⟩ := hin r hr
    refine W.eq (g2 := F0 m 171 ls [.int 0]) rfl ?_
    refine lv_istore (lv' := [(5, .int 0), (0, .ref b), (1, .ref (ad 0)), (2, .ref (adm 0)), (3, .ref ao), (4, .int i)]) X.x X.b dE_171 hl (Nat.le_of_ble_eq_true rfl) rfl (fun ls hl => ?_)
    refine lv_aload_n X.x X.b dE_173 rfl (lv_at hl 3 rfl) ?_
    refine law_arg Y hX hbl Z hl 1 5 rfl rfl (v := 1) (by decide) hx1 hin1 dE_174 dE_175 dE_177 dE_178 dE_179 ?_
    refine law_arg Y hX hbl Z hl 1 5 rfl rfl (v := 2) (by decide) hx2 hin2 dE_180 dE_181 dE_183 dE_184 dE_185 ?_
    refine law_arg Y hX hbl Z hl 1 5 rfl rfl (v := 3) (by decide) hx3 hin3 dE_186 dE_187 dE_189 dE_190 dE_191 ?_
    refine z_callVP X Z hl (mX7_add l Δ adm thr (nI k) mlen spot reads hash ms mpast mtext mread x1 x2 x3 hf7) wd_866 wd_867 wd_868 wd_68 wd_869 ok_X7_add 7 rfl 0 rfl (List.Perm.refl _) rfl rfl (rest := []) rfl (Nat.le_of_ble_eq_true rfl) ⟨Nat.le_of_ble_eq_true rfl, Nat.le_of_ble_eq_true rfl⟩ ⟨Nat.le_trans (Nat.add_le_add_left (m := 15) (Nat.le_of_ble_eq_true rfl) cells) hc.1, Nat.le_trans (Nat.add_le_add_left (m := 140) (Nat.le_of_ble_eq_true rfl) slots) hc.2⟩ (st1 := [.int r.1]) rfl dE_192 (fun H locs Z => ?_)
    refine law_tail Y (kc := 0) Z hl (fun _ => if_pos rfl) ⟨Nat.le_trans (Nat.add_le_add_left (m := 15) (Nat.le_of_ble_eq_true rfl) cells) hc.1, Nat.le_trans (Nat.add_le_add_left (m := 140) (Nat.le_of_ble_eq_true rfl) slots) hc.2⟩ dE_195 dE_197 dE_198 dE_201 dE_203 dE_208 dE_210 dE_213 dE_214 dE_215 dE_216 dE_218 dE_219 dE_220 dE_225 (by decide) (fun H1 locs1 ls1 Z1 hl1 => ?_)
    refine W.widen (k := cells + 15) (n := slots + 140) (Nat.add_le_add_left (Nat.le_of_ble_eq_true rfl) cells) (Nat.add_le_add_left (Nat.le_of_ble_eq_true rfl) slots) ?_
    exact next H1 locs1 ls1 ⟨ad, adm, _, _, len, codes, gpl, gps, gcl, gwo, (zo o k), (zk k + 1), _, α1, _, 0, mlen, spot, reads, hash, v4, _, mtext, mread, rfl, rfl, Z1, hO, HS', TX, hl1⟩
  · obtain ⟨rfl, rfl, rfl, rfl⟩ := hex E hr
    refine W.eq (g2 := F0 m 171 ls [.int (if E = "java/lang/IllegalArgumentException" then 1 else 2)]) rfl ?_
    refine lv_istore (lv' := [(5, .int (if E = "java/lang/IllegalArgumentException" then 1 else 2)), (0, .ref b), (1, .ref (ad 0)), (2, .ref (adm 0)), (3, .ref ao), (4, .int i)]) X.x X.b dE_171 hl (Nat.le_of_ble_eq_true rfl) rfl (fun ls hl => ?_)
    refine lv_aload_n X.x X.b dE_173 rfl (lv_at hl 3 rfl) ?_
    refine law_arg Y hX hbl Z hl 1 5 rfl rfl (v := 1) (by decide) hx1 hin1 dE_174 dE_175 dE_177 dE_178 dE_179 ?_
    refine law_arg Y hX hbl Z hl 1 5 rfl rfl (v := 2) (by decide) hx2 hin2 dE_180 dE_181 dE_183 dE_184 dE_185 ?_
    refine law_arg Y hX hbl Z hl 1 5 rfl rfl (v := 3) (by decide) hx3 hin3 dE_186 dE_187 dE_189 dE_190 dE_191 ?_
    refine z_callVP X Z hl (mX7_add l Δ adm thr (nI k) mlen spot reads hash ms mpast mtext mread x1 x2 x3 hf7) wd_866 wd_867 wd_868 wd_68 wd_869 ok_X7_add 7 rfl 0 rfl (List.Perm.refl _) rfl rfl (rest := []) rfl (Nat.le_of_ble_eq_true rfl) ⟨Nat.le_of_ble_eq_true rfl, Nat.le_of_ble_eq_true rfl⟩ ⟨Nat.le_trans (Nat.add_le_add_left (m := 15) (Nat.le_of_ble_eq_true rfl) cells) hc.1, Nat.le_trans (Nat.add_le_add_left (m := 140) (Nat.le_of_ble_eq_true rfl) slots) hc.2⟩ (st1 := [.int v1]) rfl dE_192 (fun H locs Z => ?_)
    refine law_tail Y (kc := (if E = "java/lang/IllegalArgumentException" then 1 else 2)) Z hl (fun h => absurd h zif12) ⟨Nat.le_trans (Nat.add_le_add_left (m := 15) (Nat.le_of_ble_eq_true rfl) cells) hc.1, Nat.le_trans (Nat.add_le_add_left (m := 140) (Nat.le_of_ble_eq_true rfl) slots) hc.2⟩ dE_195 dE_197 dE_198 dE_201 dE_203 dE_208 dE_210 dE_213 dE_214 dE_215 dE_216 dE_218 dE_219 dE_220 dE_225 (by decide) (fun H1 locs1 ls1 Z1 hl1 => ?_)
    refine W.widen (k := cells + 15) (n := slots + 140) (Nat.add_le_add_left (Nat.le_of_ble_eq_true rfl) cells) (Nat.add_le_add_left (Nat.le_of_ble_eq_true rfl) slots) ?_
    exact next H1 locs1 ls1 ⟨ad, adm, out, (reached, lost, size, plots, cliffs, words, needs, told, rea, wread, ltold, lout, sets), len, codes, gpl, gps, gcl, gwo, o, k, n, α, σ, _, mlen, spot, reads, hash, _, _, mtext, mread, rfl, rfl, Z1, hO0, HS, TX, hl1⟩
set_option maxRecDepth 100000 in
set_option maxHeartbeats 4000000 in
theorem law_change {p : Program} {l : Launch} {e : Env} {s : State} {m : MethodId} {below : List Frame} {meth : Method} {c : Code} {H : Heap} {locs : List Loc} {cells slots : Nat} {Q : State → Prop} {Δ : zE} {b L : Nat} {xs : Nat → Int32} {ls : Array Slot} (hT : l.stackTraces = false) (Y : zY Δ p l s m #[Value.ref b] meth c ⟨"SerialRecapsLaw", meth.name, ""⟩ code 9 (some .boolean) (fun q => s.heap.size ≤ q)) (hX : va_X b L xs s s.heap) (hbl : b < s.heap.size) {a1 a2 ao : Nat} {i : Int32} (hin1 : vp_in (i + 1) L) (hin2 : vp_in (i + 2) L) (hin3 : vp_in (i + 3) L) (I : zInv Δ s b a1 a2 ao i H locs ls) (hc : cells + 15 ≤ 601024 ∧ slots + 140 ≤ 7293034) (next : ∀ (H1 : Heap) (locs1 : List Loc) (ls1 : Array Slot), zInv Δ s b a1 a2 ao i H1 locs1 ls1 → W p l e room_1 s m #[Value.ref b] below meth c H1 locs1 (cells + 15) (slots + 140) Q (F0 m 1469 ls1 [])) : W p l e room_1 s m #[Value.ref b] below meth c H locs cells slots Q (F0 m 228 ls []) := by
  have X := Y.1
  obtain ⟨ad, adm, out, ⟨reached, lost, size, plots, cliffs, words, needs, told, rea, wread, ltold, lout, sets⟩, len, codes, gpl, gps, gcl, gwo, o, k, n, α, σ, thr, mlen, spot, reads, hash, ms, mpast, mtext, mread, rfl, rfl, Z, hO0, HS, TX, hl⟩ := I
  obtain ⟨n', L', c', V⟩ := id hO0
  have V : zV n' L' c' reached lost size plots cliffs words needs told rea wread ltold lout sets ms := V
  have Z : zW Δ (fun q => s.heap.size ≤ q) s.heap (wX7 Δ adm thr (nI k) mlen spot reads hash ms mpast mtext mread ++ ([(ao, .inl (Δ.2.2.2.1, 1, .inr (.inl out)))] ++ (wX6 Δ ad reached lost size plots cliffs words needs told rea wread ltold lout sets (nI o) (nI k) (zRows n α) len codes gpl gps gcl gwo ++ zPool Δ n α σ))) H locs := Z
  obtain ⟨x1, hx1⟩ : ∃ z, xs (i + 1).toNatClampNeg = z := ⟨_, rfl⟩
  obtain ⟨x2, hx2⟩ : ∃ z, xs (i + 2).toNatClampNeg = z := ⟨_, rfl⟩
  obtain ⟨x3, hx3⟩ : ∃ z, xs (i + 3).toNatClampNeg = z := ⟨_, rfl⟩
  obtain ⟨mp', hs, HS'⟩ := HS.keep (c0 := (reached, lost, size, plots, cliffs, words, needs, told, rea, wread, ltold, lout, sets)) (ms := ms) hO0
  obtain ⟨res, v1, v2, v3, v4, v5, hf6, hf7, hE, hin, hex⟩ := (V.s_change (thr := thr) hs x1 x2 x3).go (by decide)
  refine lv_aload_n X.x X.b dE_228 rfl (lv_at hl 1 rfl) ?_
  refine law_arg Y hX hbl Z hl 0 4 rfl rfl (v := 1) (by decide) hx1 hin1 dE_229 dE_230 dE_232 dE_233 dE_234 ?_
  refine law_arg Y hX hbl Z hl 0 4 rfl rfl (v := 2) (by decide) hx2 hin2 dE_235 dE_236 dE_238 dE_239 dE_240 ?_
  refine law_arg Y hX hbl Z hl 0 4 rfl rfl (v := 3) (by decide) hx3 hin3 dE_241 dE_242 dE_244 dE_245 dE_246 ?_
  refine lv_aload_n X.x X.b dE_247 rfl (lv_at hl 3 rfl) ?_
  refine x_callSX Y Z hl (mL_change l hT Δ ad ao out reached lost size plots cliffs words needs told rea wread ltold lout sets len codes gpl gps gcl gwo o k n α σ HS.1 x1 x2 x3 hf6 hE) wd_577 wd_578 wd_60 wd_579 ok_L_change List.perm_append_comm rfl (rest := []) rfl (Nat.le_of_ble_eq_true rfl) ⟨Nat.le_of_ble_eq_true rfl, Nat.le_of_ble_eq_true rfl⟩ ⟨Nat.le_trans (Nat.add_le_add_left (m := 15) (Nat.le_of_ble_eq_true rfl) cells) hc.1, Nat.le_trans (Nat.add_le_add_left (m := 140) (Nat.le_of_ble_eq_true rfl) slots) hc.2⟩ dE_248 (fun _ _ h => h) (fun rv w1 H locs hP Z => ?_)
  have Z := Z.perm List.perm_append_comm
  rcases hP with ⟨r, hr, rfl, α1, rfl⟩ | ⟨E, hr, rfl, rfl⟩
  · obtain ⟨rfl, rfl, rfl, rfl, hO⟩ := hin r hr
    refine W.eq (g2 := F0 m 251 ls [.int 0]) rfl ?_
    refine lv_istore (lv' := [(5, .int 0), (0, .ref b), (1, .ref (ad 0)), (2, .ref (adm 0)), (3, .ref ao), (4, .int i)]) X.x X.b dE_251 hl (Nat.le_of_ble_eq_true rfl) rfl (fun ls hl => ?_)
    refine lv_aload_n X.x X.b dE_253 rfl (lv_at hl 3 rfl) ?_
    refine law_arg Y hX hbl Z hl 1 5 rfl rfl (v := 1) (by decide) hx1 hin1 dE_254 dE_255 dE_257 dE_258 dE_259 ?_
    refine law_arg Y hX hbl Z hl 1 5 rfl rfl (v := 2) (by decide) hx2 hin2 dE_260 dE_261 dE_263 dE_264 dE_265 ?_
    refine law_arg Y hX hbl Z hl 1 5 rfl rfl (v := 3) (by decide) hx3 hin3 dE_266 dE_267 dE_269 dE_270 dE_271 ?_
    refine z_callVP X Z hl (mX7_change l Δ adm thr (nI k) mlen spot reads hash ms mpast mtext mread x1 x2 x3 hf7) wd_888 wd_889 wd_890 wd_68 wd_891 ok_X7_change 7 rfl 0 rfl (List.Perm.refl _) rfl rfl (rest := []) rfl (Nat.le_of_ble_eq_true rfl) ⟨Nat.le_of_ble_eq_true rfl, Nat.le_of_ble_eq_true rfl⟩ ⟨Nat.le_trans (Nat.add_le_add_left (m := 15) (Nat.le_of_ble_eq_true rfl) cells) hc.1, Nat.le_trans (Nat.add_le_add_left (m := 140) (Nat.le_of_ble_eq_true rfl) slots) hc.2⟩ (st1 := [.int r.1]) rfl dE_272 (fun H locs Z => ?_)
    refine law_tail Y (kc := 0) Z hl (fun _ => if_pos rfl) ⟨Nat.le_trans (Nat.add_le_add_left (m := 15) (Nat.le_of_ble_eq_true rfl) cells) hc.1, Nat.le_trans (Nat.add_le_add_left (m := 140) (Nat.le_of_ble_eq_true rfl) slots) hc.2⟩ dE_275 dE_277 dE_278 dE_281 dE_283 dE_288 dE_290 dE_293 dE_294 dE_295 dE_296 dE_298 dE_299 dE_300 dE_305 (by decide) (fun H1 locs1 ls1 Z1 hl1 => ?_)
    refine W.widen (k := cells + 15) (n := slots + 140) (Nat.add_le_add_left (Nat.le_of_ble_eq_true rfl) cells) (Nat.add_le_add_left (Nat.le_of_ble_eq_true rfl) slots) ?_
    exact next H1 locs1 ls1 ⟨ad, adm, _, _, len, codes, gpl, gps, gcl, gwo, (zo o k), (zk k + 1), _, α1, _, 0, mlen, spot, reads, hash, v4, _, mtext, mread, rfl, rfl, Z1, hO, HS', TX, hl1⟩
  · obtain ⟨rfl, rfl, rfl, rfl⟩ := hex E hr
    refine W.eq (g2 := F0 m 251 ls [.int (if E = "java/lang/IndexOutOfBoundsException" then 1 else 2)]) rfl ?_
    refine lv_istore (lv' := [(5, .int (if E = "java/lang/IndexOutOfBoundsException" then 1 else 2)), (0, .ref b), (1, .ref (ad 0)), (2, .ref (adm 0)), (3, .ref ao), (4, .int i)]) X.x X.b dE_251 hl (Nat.le_of_ble_eq_true rfl) rfl (fun ls hl => ?_)
    refine lv_aload_n X.x X.b dE_253 rfl (lv_at hl 3 rfl) ?_
    refine law_arg Y hX hbl Z hl 1 5 rfl rfl (v := 1) (by decide) hx1 hin1 dE_254 dE_255 dE_257 dE_258 dE_259 ?_
    refine law_arg Y hX hbl Z hl 1 5 rfl rfl (v := 2) (by decide) hx2 hin2 dE_260 dE_261 dE_263 dE_264 dE_265 ?_
    refine law_arg Y hX hbl Z hl 1 5 rfl rfl (v := 3) (by decide) hx3 hin3 dE_266 dE_267 dE_269 dE_270 dE_271 ?_
    refine z_callVP X Z hl (mX7_change l Δ adm thr (nI k) mlen spot reads hash ms mpast mtext mread x1 x2 x3 hf7) wd_888 wd_889 wd_890 wd_68 wd_891 ok_X7_change 7 rfl 0 rfl (List.Perm.refl _) rfl rfl (rest := []) rfl (Nat.le_of_ble_eq_true rfl) ⟨Nat.le_of_ble_eq_true rfl, Nat.le_of_ble_eq_true rfl⟩ ⟨Nat.le_trans (Nat.add_le_add_left (m := 15) (Nat.le_of_ble_eq_true rfl) cells) hc.1, Nat.le_trans (Nat.add_le_add_left (m := 140) (Nat.le_of_ble_eq_true rfl) slots) hc.2⟩ (st1 := [.int v1]) rfl dE_272 (fun H locs Z => ?_)
    refine law_tail Y (kc := (if E = "java/lang/IndexOutOfBoundsException" then 1 else 2)) Z hl (fun h => absurd h zif12) ⟨Nat.le_trans (Nat.add_le_add_left (m := 15) (Nat.le_of_ble_eq_true rfl) cells) hc.1, Nat.le_trans (Nat.add_le_add_left (m := 140) (Nat.le_of_ble_eq_true rfl) slots) hc.2⟩ dE_275 dE_277 dE_278 dE_281 dE_283 dE_288 dE_290 dE_293 dE_294 dE_295 dE_296 dE_298 dE_299 dE_300 dE_305 (by decide) (fun H1 locs1 ls1 Z1 hl1 => ?_)
    refine W.widen (k := cells + 15) (n := slots + 140) (Nat.add_le_add_left (Nat.le_of_ble_eq_true rfl) cells) (Nat.add_le_add_left (Nat.le_of_ble_eq_true rfl) slots) ?_
    exact next H1 locs1 ls1 ⟨ad, adm, out, (reached, lost, size, plots, cliffs, words, needs, told, rea, wread, ltold, lout, sets), len, codes, gpl, gps, gcl, gwo, o, k, n, α, σ, _, mlen, spot, reads, hash, _, _, mtext, mread, rfl, rfl, Z1, hO0, HS, TX, hl1⟩
set_option maxRecDepth 100000 in
set_option maxHeartbeats 4000000 in
theorem law_removeLast {p : Program} {l : Launch} {e : Env} {s : State} {m : MethodId} {below : List Frame} {meth : Method} {c : Code} {H : Heap} {locs : List Loc} {cells slots : Nat} {Q : State → Prop} {Δ : zE} {b L : Nat} {xs : Nat → Int32} {ls : Array Slot} (hT : l.stackTraces = false) (Y : zY Δ p l s m #[Value.ref b] meth c ⟨"SerialRecapsLaw", meth.name, ""⟩ code 9 (some .boolean) (fun q => s.heap.size ≤ q)) (hX : va_X b L xs s s.heap) (hbl : b < s.heap.size) {a1 a2 ao : Nat} {i : Int32} (hin1 : vp_in (i + 1) L) (hin2 : vp_in (i + 2) L) (hin3 : vp_in (i + 3) L) (I : zInv Δ s b a1 a2 ao i H locs ls) (hc : cells + 15 ≤ 601024 ∧ slots + 140 ≤ 7293034) (next : ∀ (H1 : Heap) (locs1 : List Loc) (ls1 : Array Slot), zInv Δ s b a1 a2 ao i H1 locs1 ls1 → W p l e room_1 s m #[Value.ref b] below meth c H1 locs1 (cells + 15) (slots + 140) Q (F0 m 1469 ls1 [])) : W p l e room_1 s m #[Value.ref b] below meth c H locs cells slots Q (F0 m 308 ls []) := by
  have X := Y.1
  obtain ⟨ad, adm, out, ⟨reached, lost, size, plots, cliffs, words, needs, told, rea, wread, ltold, lout, sets⟩, len, codes, gpl, gps, gcl, gwo, o, k, n, α, σ, thr, mlen, spot, reads, hash, ms, mpast, mtext, mread, rfl, rfl, Z, hO0, HS, TX, hl⟩ := I
  obtain ⟨n', L', c', V⟩ := id hO0
  have V : zV n' L' c' reached lost size plots cliffs words needs told rea wread ltold lout sets ms := V
  have Z : zW Δ (fun q => s.heap.size ≤ q) s.heap (wX7 Δ adm thr (nI k) mlen spot reads hash ms mpast mtext mread ++ ([(ao, .inl (Δ.2.2.2.1, 1, .inr (.inl out)))] ++ (wX6 Δ ad reached lost size plots cliffs words needs told rea wread ltold lout sets (nI o) (nI k) (zRows n α) len codes gpl gps gcl gwo ++ zPool Δ n α σ))) H locs := Z
  obtain ⟨mp', hs, HS'⟩ := HS.keep (c0 := (reached, lost, size, plots, cliffs, words, needs, told, rea, wread, ltold, lout, sets)) (ms := ms) hO0
  obtain ⟨res, v1, v2, v3, v4, v5, hf6, hf7, hE, hin, hex⟩ := (V.s_removeLast (thr := thr) hs ).go
  refine lv_aload_n X.x X.b dE_308 rfl (lv_at hl 1 rfl) ?_
  refine lv_aload_n X.x X.b dE_309 rfl (lv_at hl 3 rfl) ?_
  refine x_callSX Y Z hl (mL_removeLast l hT Δ ad ao out reached lost size plots cliffs words needs told rea wread ltold lout sets len codes gpl gps gcl gwo o k n α σ HS.1  hf6 hE) wd_609 wd_610 wd_60 wd_611 ok_L_removeLast List.perm_append_comm rfl (rest := []) rfl (Nat.le_of_ble_eq_true rfl) ⟨Nat.le_of_ble_eq_true rfl, Nat.le_of_ble_eq_true rfl⟩ ⟨Nat.le_trans (Nat.add_le_add_left (m := 15) (Nat.le_of_ble_eq_true rfl) cells) hc.1, Nat.le_trans (Nat.add_le_add_left (m := 140) (Nat.le_of_ble_eq_true rfl) slots) hc.2⟩ dE_310 (fun _ _ h => h) (fun rv w1 H locs hP Z => ?_)
  have Z := Z.perm List.perm_append_comm
  rcases hP with ⟨r, hr, rfl, α1, rfl⟩ | ⟨E, hr, rfl, rfl⟩
  · obtain ⟨rfl, rfl, rfl, rfl, hO⟩ := hin r hr
    refine W.eq (g2 := F0 m 313 ls [.int 0]) rfl ?_
    refine lv_istore (lv' := [(5, .int 0), (0, .ref b), (1, .ref (ad 0)), (2, .ref (adm 0)), (3, .ref ao), (4, .int i)]) X.x X.b dE_313 hl (Nat.le_of_ble_eq_true rfl) rfl (fun ls hl => ?_)
    refine lv_aload_n X.x X.b dE_315 rfl (lv_at hl 3 rfl) ?_
    refine z_callVP X Z hl (mX7_removeLast l Δ adm thr (nI k) mlen spot reads hash ms mpast mtext mread  hf7) wd_900 wd_901 wd_902 wd_68 wd_903 ok_X7_removeLast 7 rfl 0 rfl (List.Perm.refl _) rfl rfl (rest := []) rfl (Nat.le_of_ble_eq_true rfl) ⟨Nat.le_of_ble_eq_true rfl, Nat.le_of_ble_eq_true rfl⟩ ⟨Nat.le_trans (Nat.add_le_add_left (m := 15) (Nat.le_of_ble_eq_true rfl) cells) hc.1, Nat.le_trans (Nat.add_le_add_left (m := 140) (Nat.le_of_ble_eq_true rfl) slots) hc.2⟩ (st1 := [.int r.1]) rfl dE_316 (fun H locs Z => ?_)
    refine law_tail Y (kc := 0) Z hl (fun _ => if_pos rfl) ⟨Nat.le_trans (Nat.add_le_add_left (m := 15) (Nat.le_of_ble_eq_true rfl) cells) hc.1, Nat.le_trans (Nat.add_le_add_left (m := 140) (Nat.le_of_ble_eq_true rfl) slots) hc.2⟩ dE_319 dE_321 dE_322 dE_325 dE_327 dE_332 dE_334 dE_337 dE_338 dE_339 dE_340 dE_342 dE_343 dE_344 dE_349 (by decide) (fun H1 locs1 ls1 Z1 hl1 => ?_)
    refine W.widen (k := cells + 15) (n := slots + 140) (Nat.add_le_add_left (Nat.le_of_ble_eq_true rfl) cells) (Nat.add_le_add_left (Nat.le_of_ble_eq_true rfl) slots) ?_
    exact next H1 locs1 ls1 ⟨ad, adm, _, _, len, codes, gpl, gps, gcl, gwo, (zo o k), (zk k + 1), _, α1, _, 0, mlen, spot, reads, hash, v4, _, mtext, mread, rfl, rfl, Z1, hO, HS', TX, hl1⟩
  · obtain ⟨rfl, rfl, rfl, rfl⟩ := hex E hr
    refine W.eq (g2 := F0 m 313 ls [.int 1]) rfl ?_
    refine lv_istore (lv' := [(5, .int 1), (0, .ref b), (1, .ref (ad 0)), (2, .ref (adm 0)), (3, .ref ao), (4, .int i)]) X.x X.b dE_313 hl (Nat.le_of_ble_eq_true rfl) rfl (fun ls hl => ?_)
    refine lv_aload_n X.x X.b dE_315 rfl (lv_at hl 3 rfl) ?_
    refine z_callVP X Z hl (mX7_removeLast l Δ adm thr (nI k) mlen spot reads hash ms mpast mtext mread  hf7) wd_900 wd_901 wd_902 wd_68 wd_903 ok_X7_removeLast 7 rfl 0 rfl (List.Perm.refl _) rfl rfl (rest := []) rfl (Nat.le_of_ble_eq_true rfl) ⟨Nat.le_of_ble_eq_true rfl, Nat.le_of_ble_eq_true rfl⟩ ⟨Nat.le_trans (Nat.add_le_add_left (m := 15) (Nat.le_of_ble_eq_true rfl) cells) hc.1, Nat.le_trans (Nat.add_le_add_left (m := 140) (Nat.le_of_ble_eq_true rfl) slots) hc.2⟩ (st1 := [.int v1]) rfl dE_316 (fun H locs Z => ?_)
    refine law_tail Y (kc := 1) Z hl (fun h => absurd h (by decide)) ⟨Nat.le_trans (Nat.add_le_add_left (m := 15) (Nat.le_of_ble_eq_true rfl) cells) hc.1, Nat.le_trans (Nat.add_le_add_left (m := 140) (Nat.le_of_ble_eq_true rfl) slots) hc.2⟩ dE_319 dE_321 dE_322 dE_325 dE_327 dE_332 dE_334 dE_337 dE_338 dE_339 dE_340 dE_342 dE_343 dE_344 dE_349 (by decide) (fun H1 locs1 ls1 Z1 hl1 => ?_)
    refine W.widen (k := cells + 15) (n := slots + 140) (Nat.add_le_add_left (Nat.le_of_ble_eq_true rfl) cells) (Nat.add_le_add_left (Nat.le_of_ble_eq_true rfl) slots) ?_
    exact next H1 locs1 ls1 ⟨ad, adm, out, (reached, lost, size, plots, cliffs, words, needs, told, rea, wread, ltold, lout, sets), len, codes, gpl, gps, gcl, gwo, o, k, n, α, σ, _, mlen, spot, reads, hash, _, _, mtext, mread, rfl, rfl, Z1, hO0, HS, TX, hl1⟩
set_option maxRecDepth 100000 in
set_option maxHeartbeats 4000000 in
theorem law_set {p : Program} {l : Launch} {e : Env} {s : State} {m : MethodId} {below : List Frame} {meth : Method} {c : Code} {H : Heap} {locs : List Loc} {cells slots : Nat} {Q : State → Prop} {Δ : zE} {b L : Nat} {xs : Nat → Int32} {ls : Array Slot} (hT : l.stackTraces = false) (Y : zY Δ p l s m #[Value.ref b] meth c ⟨"SerialRecapsLaw", meth.name, ""⟩ code 9 (some .boolean) (fun q => s.heap.size ≤ q)) (hX : va_X b L xs s s.heap) (hbl : b < s.heap.size) {a1 a2 ao : Nat} {i : Int32} (hin1 : vp_in (i + 1) L) (hin2 : vp_in (i + 2) L) (hin3 : vp_in (i + 3) L) (I : zInv Δ s b a1 a2 ao i H locs ls) (hc : cells + 15 ≤ 601024 ∧ slots + 140 ≤ 7293034) (next : ∀ (H1 : Heap) (locs1 : List Loc) (ls1 : Array Slot), zInv Δ s b a1 a2 ao i H1 locs1 ls1 → W p l e room_1 s m #[Value.ref b] below meth c H1 locs1 (cells + 15) (slots + 140) Q (F0 m 1469 ls1 [])) : W p l e room_1 s m #[Value.ref b] below meth c H locs cells slots Q (F0 m 352 ls []) := by
  have X := Y.1
  obtain ⟨ad, adm, out, ⟨reached, lost, size, plots, cliffs, words, needs, told, rea, wread, ltold, lout, sets⟩, len, codes, gpl, gps, gcl, gwo, o, k, n, α, σ, thr, mlen, spot, reads, hash, ms, mpast, mtext, mread, rfl, rfl, Z, hO0, HS, TX, hl⟩ := I
  obtain ⟨n', L', c', V⟩ := id hO0
  have V : zV n' L' c' reached lost size plots cliffs words needs told rea wread ltold lout sets ms := V
  have Z : zW Δ (fun q => s.heap.size ≤ q) s.heap (wX7 Δ adm thr (nI k) mlen spot reads hash ms mpast mtext mread ++ ([(ao, .inl (Δ.2.2.2.1, 1, .inr (.inl out)))] ++ (wX6 Δ ad reached lost size plots cliffs words needs told rea wread ltold lout sets (nI o) (nI k) (zRows n α) len codes gpl gps gcl gwo ++ zPool Δ n α σ))) H locs := Z
  obtain ⟨x1, hx1⟩ : ∃ z, xs (i + 1).toNatClampNeg = z := ⟨_, rfl⟩
  obtain ⟨x2, hx2⟩ : ∃ z, xs (i + 2).toNatClampNeg = z := ⟨_, rfl⟩
  obtain ⟨mp', hs, HS'⟩ := HS.keep (c0 := (reached, lost, size, plots, cliffs, words, needs, told, rea, wread, ltold, lout, sets)) (ms := ms) hO0
  obtain ⟨res, v1, v2, v3, v4, v5, hf6, hf7, hE, hin, hex⟩ := (V.s_set (thr := thr) hs x1 x2).go (by decide)
  refine lv_aload_n X.x X.b dE_352 rfl (lv_at hl 1 rfl) ?_
  refine law_arg Y hX hbl Z hl 0 4 rfl rfl (v := 1) (by decide) hx1 hin1 dE_353 dE_354 dE_356 dE_357 dE_358 ?_
  refine law_arg Y hX hbl Z hl 0 4 rfl rfl (v := 2) (by decide) hx2 hin2 dE_359 dE_360 dE_362 dE_363 dE_364 ?_
  refine lv_aload_n X.x X.b dE_365 rfl (lv_at hl 3 rfl) ?_
  refine x_callSX Y Z hl (mL_set l hT Δ ad ao out reached lost size plots cliffs words needs told rea wread ltold lout sets len codes gpl gps gcl gwo o k n α σ HS.1 x1 x2 hf6 hE) wd_623 wd_624 wd_60 wd_625 ok_L_set List.perm_append_comm rfl (rest := []) rfl (Nat.le_of_ble_eq_true rfl) ⟨Nat.le_of_ble_eq_true rfl, Nat.le_of_ble_eq_true rfl⟩ ⟨Nat.le_trans (Nat.add_le_add_left (m := 15) (Nat.le_of_ble_eq_true rfl) cells) hc.1, Nat.le_trans (Nat.add_le_add_left (m := 140) (Nat.le_of_ble_eq_true rfl) slots) hc.2⟩ dE_366 (fun _ _ h => h) (fun rv w1 H locs hP Z => ?_)
  have Z := Z.perm List.perm_append_comm
  rcases hP with ⟨r, hr, rfl, α1, rfl⟩ | ⟨E, hr, rfl, rfl⟩
  · obtain ⟨rfl, rfl, rfl, rfl, hO⟩ := hin r hr
    refine W.eq (g2 := F0 m 369 ls [.int 0]) rfl ?_
    refine lv_istore (lv' := [(5, .int 0), (0, .ref b), (1, .ref (ad 0)), (2, .ref (adm 0)), (3, .ref ao), (4, .int i)]) X.x X.b dE_369 hl (Nat.le_of_ble_eq_true rfl) rfl (fun ls hl => ?_)
    refine lv_aload_n X.x X.b dE_371 rfl (lv_at hl 3 rfl) ?_
    refine law_arg Y hX hbl Z hl 1 5 rfl rfl (v := 1) (by decide) hx1 hin1 dE_372 dE_373 dE_375 dE_376 dE_377 ?_
    refine law_arg Y hX hbl Z hl 1 5 rfl rfl (v := 2) (by decide) hx2 hin2 dE_378 dE_379 dE_381 dE_382 dE_383 ?_
    refine z_callVP X Z hl (mX7_set l Δ adm thr (nI k) mlen spot reads hash ms mpast mtext mread x1 x2 hf7) wd_915 wd_916 wd_917 wd_68 wd_918 ok_X7_set 7 rfl 0 rfl (List.Perm.refl _) rfl rfl (rest := []) rfl (Nat.le_of_ble_eq_true rfl) ⟨Nat.le_of_ble_eq_true rfl, Nat.le_of_ble_eq_true rfl⟩ ⟨Nat.le_trans (Nat.add_le_add_left (m := 15) (Nat.le_of_ble_eq_true rfl) cells) hc.1, Nat.le_trans (Nat.add_le_add_left (m := 140) (Nat.le_of_ble_eq_true rfl) slots) hc.2⟩ (st1 := [.int r.1]) rfl dE_384 (fun H locs Z => ?_)
    refine law_tail Y (kc := 0) Z hl (fun _ => if_pos rfl) ⟨Nat.le_trans (Nat.add_le_add_left (m := 15) (Nat.le_of_ble_eq_true rfl) cells) hc.1, Nat.le_trans (Nat.add_le_add_left (m := 140) (Nat.le_of_ble_eq_true rfl) slots) hc.2⟩ dE_387 dE_389 dE_390 dE_393 dE_395 dE_400 dE_402 dE_405 dE_406 dE_407 dE_408 dE_410 dE_411 dE_412 dE_417 (by decide) (fun H1 locs1 ls1 Z1 hl1 => ?_)
    refine W.widen (k := cells + 15) (n := slots + 140) (Nat.add_le_add_left (Nat.le_of_ble_eq_true rfl) cells) (Nat.add_le_add_left (Nat.le_of_ble_eq_true rfl) slots) ?_
    exact next H1 locs1 ls1 ⟨ad, adm, _, _, len, codes, gpl, gps, gcl, gwo, (zo o k), (zk k + 1), _, α1, _, 0, mlen, spot, reads, hash, v4, _, mtext, mread, rfl, rfl, Z1, hO, HS', TX, hl1⟩
  · obtain ⟨rfl, rfl, rfl, rfl⟩ := hex E hr
    refine W.eq (g2 := F0 m 369 ls [.int (if E = "java/lang/IndexOutOfBoundsException" then 1 else 2)]) rfl ?_
    refine lv_istore (lv' := [(5, .int (if E = "java/lang/IndexOutOfBoundsException" then 1 else 2)), (0, .ref b), (1, .ref (ad 0)), (2, .ref (adm 0)), (3, .ref ao), (4, .int i)]) X.x X.b dE_369 hl (Nat.le_of_ble_eq_true rfl) rfl (fun ls hl => ?_)
    refine lv_aload_n X.x X.b dE_371 rfl (lv_at hl 3 rfl) ?_
    refine law_arg Y hX hbl Z hl 1 5 rfl rfl (v := 1) (by decide) hx1 hin1 dE_372 dE_373 dE_375 dE_376 dE_377 ?_
    refine law_arg Y hX hbl Z hl 1 5 rfl rfl (v := 2) (by decide) hx2 hin2 dE_378 dE_379 dE_381 dE_382 dE_383 ?_
    refine z_callVP X Z hl (mX7_set l Δ adm thr (nI k) mlen spot reads hash ms mpast mtext mread x1 x2 hf7) wd_915 wd_916 wd_917 wd_68 wd_918 ok_X7_set 7 rfl 0 rfl (List.Perm.refl _) rfl rfl (rest := []) rfl (Nat.le_of_ble_eq_true rfl) ⟨Nat.le_of_ble_eq_true rfl, Nat.le_of_ble_eq_true rfl⟩ ⟨Nat.le_trans (Nat.add_le_add_left (m := 15) (Nat.le_of_ble_eq_true rfl) cells) hc.1, Nat.le_trans (Nat.add_le_add_left (m := 140) (Nat.le_of_ble_eq_true rfl) slots) hc.2⟩ (st1 := [.int v1]) rfl dE_384 (fun H locs Z => ?_)
    refine law_tail Y (kc := (if E = "java/lang/IndexOutOfBoundsException" then 1 else 2)) Z hl (fun h => absurd h zif12) ⟨Nat.le_trans (Nat.add_le_add_left (m := 15) (Nat.le_of_ble_eq_true rfl) cells) hc.1, Nat.le_trans (Nat.add_le_add_left (m := 140) (Nat.le_of_ble_eq_true rfl) slots) hc.2⟩ dE_387 dE_389 dE_390 dE_393 dE_395 dE_400 dE_402 dE_405 dE_406 dE_407 dE_408 dE_410 dE_411 dE_412 dE_417 (by decide) (fun H1 locs1 ls1 Z1 hl1 => ?_)
    refine W.widen (k := cells + 15) (n := slots + 140) (Nat.add_le_add_left (Nat.le_of_ble_eq_true rfl) cells) (Nat.add_le_add_left (Nat.le_of_ble_eq_true rfl) slots) ?_
    exact next H1 locs1 ls1 ⟨ad, adm, out, (reached, lost, size, plots, cliffs, words, needs, told, rea, wread, ltold, lout, sets), len, codes, gpl, gps, gcl, gwo, o, k, n, α, σ, _, mlen, spot, reads, hash, _, _, mtext, mread, rfl, rfl, Z1, hO0, HS, TX, hl1⟩
set_option maxRecDepth 100000 in
set_option maxHeartbeats 4000000 in
theorem law_mail {p : Program} {l : Launch} {e : Env} {s : State} {m : MethodId} {below : List Frame} {meth : Method} {c : Code} {H : Heap} {locs : List Loc} {cells slots : Nat} {Q : State → Prop} {Δ : zE} {b L : Nat} {xs : Nat → Int32} {ls : Array Slot} (hT : l.stackTraces = false) (Y : zY Δ p l s m #[Value.ref b] meth c ⟨"SerialRecapsLaw", meth.name, ""⟩ code 9 (some .boolean) (fun q => s.heap.size ≤ q)) (hX : va_X b L xs s s.heap) (hbl : b < s.heap.size) {a1 a2 ao : Nat} {i : Int32} (hin1 : vp_in (i + 1) L) (hin2 : vp_in (i + 2) L) (hin3 : vp_in (i + 3) L) (I : zInv Δ s b a1 a2 ao i H locs ls) (hc : cells + 15 ≤ 601024 ∧ slots + 140 ≤ 7293034) (next : ∀ (H1 : Heap) (locs1 : List Loc) (ls1 : Array Slot), zInv Δ s b a1 a2 ao i H1 locs1 ls1 → W p l e room_1 s m #[Value.ref b] below meth c H1 locs1 (cells + 15) (slots + 140) Q (F0 m 1469 ls1 [])) : W p l e room_1 s m #[Value.ref b] below meth c H locs cells slots Q (F0 m 420 ls []) := by
  have X := Y.1
  obtain ⟨ad, adm, out, ⟨reached, lost, size, plots, cliffs, words, needs, told, rea, wread, ltold, lout, sets⟩, len, codes, gpl, gps, gcl, gwo, o, k, n, α, σ, thr, mlen, spot, reads, hash, ms, mpast, mtext, mread, rfl, rfl, Z, hO0, HS, TX, hl⟩ := I
  obtain ⟨n', L', c', V⟩ := id hO0
  have V : zV n' L' c' reached lost size plots cliffs words needs told rea wread ltold lout sets ms := V
  have Z : zW Δ (fun q => s.heap.size ≤ q) s.heap (wX7 Δ adm thr (nI k) mlen spot reads hash ms mpast mtext mread ++ ([(ao, .inl (Δ.2.2.2.1, 1, .inr (.inl out)))] ++ (wX6 Δ ad reached lost size plots cliffs words needs told rea wread ltold lout sets (nI o) (nI k) (zRows n α) len codes gpl gps gcl gwo ++ zPool Δ n α σ))) H locs := Z
  obtain ⟨x1, hx1⟩ : ∃ z, xs (i + 1).toNatClampNeg = z := ⟨_, rfl⟩
  obtain ⟨x2, hx2⟩ : ∃ z, xs (i + 2).toNatClampNeg = z := ⟨_, rfl⟩
  obtain ⟨mp', hs, HS'⟩ := HS.keep (c0 := (reached, lost, size, plots, cliffs, words, needs, told, rea, wread, ltold, lout, sets)) (ms := ms) hO0
  obtain ⟨res, v1, v2, v3, v4, v5, hf6, hf7, hE, hin, hex⟩ := (V.s_mail (thr := thr) hs x1 x2).go (by decide)
  refine lv_aload_n X.x X.b dE_420 rfl (lv_at hl 1 rfl) ?_
  refine law_arg Y hX hbl Z hl 0 4 rfl rfl (v := 1) (by decide) hx1 hin1 dE_421 dE_422 dE_424 dE_425 dE_426 ?_
  refine law_arg Y hX hbl Z hl 0 4 rfl rfl (v := 2) (by decide) hx2 hin2 dE_427 dE_428 dE_430 dE_431 dE_432 ?_
  refine lv_aload_n X.x X.b dE_433 rfl (lv_at hl 3 rfl) ?_
  refine x_callSX Y Z hl (mL_mail l hT Δ ad ao out reached lost size plots cliffs words needs told rea wread ltold lout sets len codes gpl gps gcl gwo o k n α σ HS.1 x1 x2 hf6 hE) wd_635 wd_636 wd_60 wd_637 ok_L_mail List.perm_append_comm rfl (rest := []) rfl (Nat.le_of_ble_eq_true rfl) ⟨Nat.le_of_ble_eq_true rfl, Nat.le_of_ble_eq_true rfl⟩ ⟨Nat.le_trans (Nat.add_le_add_left (m := 15) (Nat.le_of_ble_eq_true rfl) cells) hc.1, Nat.le_trans (Nat.add_le_add_left (m := 140) (Nat.le_of_ble_eq_true rfl) slots) hc.2⟩ dE_434 (fun _ _ h => h) (fun rv w1 H locs hP Z => ?_)
  have Z := Z.perm List.perm_append_comm
  rcases hP with ⟨r, hr, rfl, α1, rfl⟩ | ⟨E, hr, rfl, rfl⟩
  · obtain ⟨rfl, rfl, rfl, rfl, hO⟩ := hin r hr
    refine W.eq (g2 := F0 m 437 ls [.int 0]) rfl ?_
    refine lv_istore (lv' := [(5, .int 0), (0, .ref b), (1, .ref (ad 0)), (2, .ref (adm 0)), (3, .ref ao), (4, .int i)]) X.x X.b dE_437 hl (Nat.le_of_ble_eq_true rfl) rfl (fun ls hl => ?_)
    refine lv_aload_n X.x X.b dE_439 rfl (lv_at hl 3 rfl) ?_
    refine law_arg Y hX hbl Z hl 1 5 rfl rfl (v := 1) (by decide) hx1 hin1 dE_440 dE_441 dE_443 dE_444 dE_445 ?_
    refine law_arg Y hX hbl Z hl 1 5 rfl rfl (v := 2) (by decide) hx2 hin2 dE_446 dE_447 dE_449 dE_450 dE_451 ?_
    refine z_callVP X Z hl (mX7_mail l Δ adm thr (nI k) mlen spot reads hash ms mpast mtext mread x1 x2 hf7) wd_919 wd_920 wd_921 wd_68 wd_922 ok_X7_mail 7 rfl 0 rfl (List.Perm.refl _) rfl rfl (rest := []) rfl (Nat.le_of_ble_eq_true rfl) ⟨Nat.le_of_ble_eq_true rfl, Nat.le_of_ble_eq_true rfl⟩ ⟨Nat.le_trans (Nat.add_le_add_left (m := 15) (Nat.le_of_ble_eq_true rfl) cells) hc.1, Nat.le_trans (Nat.add_le_add_left (m := 140) (Nat.le_of_ble_eq_true rfl) slots) hc.2⟩ (st1 := [.int r.1]) rfl dE_452 (fun H locs Z => ?_)
    refine law_tail Y (kc := 0) Z hl (fun _ => if_pos rfl) ⟨Nat.le_trans (Nat.add_le_add_left (m := 15) (Nat.le_of_ble_eq_true rfl) cells) hc.1, Nat.le_trans (Nat.add_le_add_left (m := 140) (Nat.le_of_ble_eq_true rfl) slots) hc.2⟩ dE_455 dE_457 dE_458 dE_461 dE_463 dE_468 dE_470 dE_473 dE_474 dE_475 dE_476 dE_478 dE_479 dE_480 dE_485 (by decide) (fun H1 locs1 ls1 Z1 hl1 => ?_)
    refine W.widen (k := cells + 15) (n := slots + 140) (Nat.add_le_add_left (Nat.le_of_ble_eq_true rfl) cells) (Nat.add_le_add_left (Nat.le_of_ble_eq_true rfl) slots) ?_
    exact next H1 locs1 ls1 ⟨ad, adm, _, _, len, codes, gpl, gps, gcl, gwo, (zo o k), (zk k + 1), _, α1, _, 0, mlen, spot, reads, hash, v4, _, mtext, mread, rfl, rfl, Z1, hO, HS', TX, hl1⟩
  · obtain ⟨rfl, rfl, rfl, rfl⟩ := hex E hr
    refine W.eq (g2 := F0 m 437 ls [.int (if E = "java/lang/IndexOutOfBoundsException" then 1 else 2)]) rfl ?_
    refine lv_istore (lv' := [(5, .int (if E = "java/lang/IndexOutOfBoundsException" then 1 else 2)), (0, .ref b), (1, .ref (ad 0)), (2, .ref (adm 0)), (3, .ref ao), (4, .int i)]) X.x X.b dE_437 hl (Nat.le_of_ble_eq_true rfl) rfl (fun ls hl => ?_)
    refine lv_aload_n X.x X.b dE_439 rfl (lv_at hl 3 rfl) ?_
    refine law_arg Y hX hbl Z hl 1 5 rfl rfl (v := 1) (by decide) hx1 hin1 dE_440 dE_441 dE_443 dE_444 dE_445 ?_
    refine law_arg Y hX hbl Z hl 1 5 rfl rfl (v := 2) (by decide) hx2 hin2 dE_446 dE_447 dE_449 dE_450 dE_451 ?_
    refine z_callVP X Z hl (mX7_mail l Δ adm thr (nI k) mlen spot reads hash ms mpast mtext mread x1 x2 hf7) wd_919 wd_920 wd_921 wd_68 wd_922 ok_X7_mail 7 rfl 0 rfl (List.Perm.refl _) rfl rfl (rest := []) rfl (Nat.le_of_ble_eq_true rfl) ⟨Nat.le_of_ble_eq_true rfl, Nat.le_of_ble_eq_true rfl⟩ ⟨Nat.le_trans (Nat.add_le_add_left (m := 15) (Nat.le_of_ble_eq_true rfl) cells) hc.1, Nat.le_trans (Nat.add_le_add_left (m := 140) (Nat.le_of_ble_eq_true rfl) slots) hc.2⟩ (st1 := [.int v1]) rfl dE_452 (fun H locs Z => ?_)
    refine law_tail Y (kc := (if E = "java/lang/IndexOutOfBoundsException" then 1 else 2)) Z hl (fun h => absurd h zif12) ⟨Nat.le_trans (Nat.add_le_add_left (m := 15) (Nat.le_of_ble_eq_true rfl) cells) hc.1, Nat.le_trans (Nat.add_le_add_left (m := 140) (Nat.le_of_ble_eq_true rfl) slots) hc.2⟩ dE_455 dE_457 dE_458 dE_461 dE_463 dE_468 dE_470 dE_473 dE_474 dE_475 dE_476 dE_478 dE_479 dE_480 dE_485 (by decide) (fun H1 locs1 ls1 Z1 hl1 => ?_)
    refine W.widen (k := cells + 15) (n := slots + 140) (Nat.add_le_add_left (Nat.le_of_ble_eq_true rfl) cells) (Nat.add_le_add_left (Nat.le_of_ble_eq_true rfl) slots) ?_
    exact next H1 locs1 ls1 ⟨ad, adm, out, (reached, lost, size, plots, cliffs, words, needs, told, rea, wread, ltold, lout, sets), len, codes, gpl, gps, gcl, gwo, o, k, n, α, σ, _, mlen, spot, reads, hash, _, _, mtext, mread, rfl, rfl, Z1, hO0, HS, TX, hl1⟩
set_option maxRecDepth 100000 in
set_option maxHeartbeats 4000000 in
theorem law_mailAll {p : Program} {l : Launch} {e : Env} {s : State} {m : MethodId} {below : List Frame} {meth : Method} {c : Code} {H : Heap} {locs : List Loc} {cells slots : Nat} {Q : State → Prop} {Δ : zE} {b L : Nat} {xs : Nat → Int32} {ls : Array Slot} (hT : l.stackTraces = false) (Y : zY Δ p l s m #[Value.ref b] meth c ⟨"SerialRecapsLaw", meth.name, ""⟩ code 9 (some .boolean) (fun q => s.heap.size ≤ q)) (hX : va_X b L xs s s.heap) (hbl : b < s.heap.size) {a1 a2 ao : Nat} {i : Int32} (hin1 : vp_in (i + 1) L) (hin2 : vp_in (i + 2) L) (hin3 : vp_in (i + 3) L) (I : zInv Δ s b a1 a2 ao i H locs ls) (hc : cells + 15 ≤ 601024 ∧ slots + 140 ≤ 7293034) (next : ∀ (H1 : Heap) (locs1 : List Loc) (ls1 : Array Slot), zInv Δ s b a1 a2 ao i H1 locs1 ls1 → W p l e room_1 s m #[Value.ref b] below meth c H1 locs1 (cells + 15) (slots + 140) Q (F0 m 1469 ls1 [])) : W p l e room_1 s m #[Value.ref b] below meth c H locs cells slots Q (F0 m 488 ls []) := by
  have X := Y.1
  obtain ⟨ad, adm, out, ⟨reached, lost, size, plots, cliffs, words, needs, told, rea, wread, ltold, lout, sets⟩, len, codes, gpl, gps, gcl, gwo, o, k, n, α, σ, thr, mlen, spot, reads, hash, ms, mpast, mtext, mread, rfl, rfl, Z, hO0, HS, TX, hl⟩ := I
  obtain ⟨n', L', c', V⟩ := id hO0
  have V : zV n' L' c' reached lost size plots cliffs words needs told rea wread ltold lout sets ms := V
  have Z : zW Δ (fun q => s.heap.size ≤ q) s.heap (wX7 Δ adm thr (nI k) mlen spot reads hash ms mpast mtext mread ++ ([(ao, .inl (Δ.2.2.2.1, 1, .inr (.inl out)))] ++ (wX6 Δ ad reached lost size plots cliffs words needs told rea wread ltold lout sets (nI o) (nI k) (zRows n α) len codes gpl gps gcl gwo ++ zPool Δ n α σ))) H locs := Z
  obtain ⟨x1, hx1⟩ : ∃ z, xs (i + 1).toNatClampNeg = z := ⟨_, rfl⟩
  obtain ⟨x2, hx2⟩ : ∃ z, xs (i + 2).toNatClampNeg = z := ⟨_, rfl⟩
  obtain ⟨mp', hs, HS'⟩ := HS.keep (c0 := (reached, lost, size, plots, cliffs, words, needs, told, rea, wread, ltold, lout, sets)) (ms := ms) hO0
  obtain ⟨res, v1, v2, v3, v4, v5, hf6, hf7, hE, hin, hex⟩ := (V.s_mailAll (thr := thr) hs x1 x2).go (by decide)
  refine lv_aload_n X.x X.b dE_488 rfl (lv_at hl 1 rfl) ?_
  refine law_arg Y hX hbl Z hl 0 4 rfl rfl (v := 1) (by decide) hx1 hin1 dE_489 dE_490 dE_492 dE_493 dE_494 ?_
  refine law_arg Y hX hbl Z hl 0 4 rfl rfl (v := 2) (by decide) hx2 hin2 dE_495 dE_496 dE_498 dE_499 dE_500 ?_
  refine lv_aload_n X.x X.b dE_501 rfl (lv_at hl 3 rfl) ?_
  refine x_callSX Y Z hl (mL_mailAll l hT Δ ad ao out reached lost size plots cliffs words needs told rea wread ltold lout sets len codes gpl gps gcl gwo o k n α σ HS.1 x1 x2 hf6 hE) wd_656 wd_657 wd_60 wd_658 ok_L_mailAll List.perm_append_comm rfl (rest := []) rfl (Nat.le_of_ble_eq_true rfl) ⟨Nat.le_of_ble_eq_true rfl, Nat.le_of_ble_eq_true rfl⟩ ⟨Nat.le_trans (Nat.add_le_add_left (m := 15) (Nat.le_of_ble_eq_true rfl) cells) hc.1, Nat.le_trans (Nat.add_le_add_left (m := 140) (Nat.le_of_ble_eq_true rfl) slots) hc.2⟩ dE_502 (fun _ _ h => h) (fun rv w1 H locs hP Z => ?_)
  have Z := Z.perm List.perm_append_comm
  rcases hP with ⟨r, hr, rfl, α1, rfl⟩ | ⟨E, hr, rfl, rfl⟩
  · obtain ⟨rfl, rfl, rfl, rfl, hO⟩ := hin r hr
    refine W.eq (g2 := F0 m 505 ls [.int 0]) rfl ?_
    refine lv_istore (lv' := [(5, .int 0), (0, .ref b), (1, .ref (ad 0)), (2, .ref (adm 0)), (3, .ref ao), (4, .int i)]) X.x X.b dE_505 hl (Nat.le_of_ble_eq_true rfl) rfl (fun ls hl => ?_)
    refine lv_aload_n X.x X.b dE_507 rfl (lv_at hl 3 rfl) ?_
    refine law_arg Y hX hbl Z hl 1 5 rfl rfl (v := 1) (by decide) hx1 hin1 dE_508 dE_509 dE_511 dE_512 dE_513 ?_
    refine law_arg Y hX hbl Z hl 1 5 rfl rfl (v := 2) (by decide) hx2 hin2 dE_514 dE_515 dE_517 dE_518 dE_519 ?_
    refine z_callVP X Z hl (mX7_mailAll l Δ adm thr (nI k) mlen spot reads hash ms mpast mtext mread x1 x2 hf7) wd_958 wd_959 wd_960 wd_68 wd_961 ok_X7_mailAll 7 rfl 0 rfl (List.Perm.refl _) rfl rfl (rest := []) rfl (Nat.le_of_ble_eq_true rfl) ⟨Nat.le_of_ble_eq_true rfl, Nat.le_of_ble_eq_true rfl⟩ ⟨Nat.le_trans (Nat.add_le_add_left (m := 15) (Nat.le_of_ble_eq_true rfl) cells) hc.1, Nat.le_trans (Nat.add_le_add_left (m := 140) (Nat.le_of_ble_eq_true rfl) slots) hc.2⟩ (st1 := [.int r.1]) rfl dE_520 (fun H locs Z => ?_)
    refine law_tail Y (kc := 0) Z hl (fun _ => if_pos rfl) ⟨Nat.le_trans (Nat.add_le_add_left (m := 15) (Nat.le_of_ble_eq_true rfl) cells) hc.1, Nat.le_trans (Nat.add_le_add_left (m := 140) (Nat.le_of_ble_eq_true rfl) slots) hc.2⟩ dE_523 dE_525 dE_526 dE_529 dE_531 dE_536 dE_538 dE_541 dE_542 dE_543 dE_544 dE_546 dE_547 dE_548 dE_553 (by decide) (fun H1 locs1 ls1 Z1 hl1 => ?_)
    refine W.widen (k := cells + 15) (n := slots + 140) (Nat.add_le_add_left (Nat.le_of_ble_eq_true rfl) cells) (Nat.add_le_add_left (Nat.le_of_ble_eq_true rfl) slots) ?_
    exact next H1 locs1 ls1 ⟨ad, adm, _, _, len, codes, gpl, gps, gcl, gwo, (zo o k), (zk k + 1), _, α1, _, 0, mlen, spot, reads, hash, v4, _, mtext, mread, rfl, rfl, Z1, hO, HS', TX, hl1⟩
  · obtain ⟨rfl, rfl, rfl, rfl⟩ := hex E hr
    refine W.eq (g2 := F0 m 505 ls [.int (if E = "java/lang/IndexOutOfBoundsException" then 1 else 2)]) rfl ?_
    refine lv_istore (lv' := [(5, .int (if E = "java/lang/IndexOutOfBoundsException" then 1 else 2)), (0, .ref b), (1, .ref (ad 0)), (2, .ref (adm 0)), (3, .ref ao), (4, .int i)]) X.x X.b dE_505 hl (Nat.le_of_ble_eq_true rfl) rfl (fun ls hl => ?_)
    refine lv_aload_n X.x X.b dE_507 rfl (lv_at hl 3 rfl) ?_
    refine law_arg Y hX hbl Z hl 1 5 rfl rfl (v := 1) (by decide) hx1 hin1 dE_508 dE_509 dE_511 dE_512 dE_513 ?_
    refine law_arg Y hX hbl Z hl 1 5 rfl rfl (v := 2) (by decide) hx2 hin2 dE_514 dE_515 dE_517 dE_518 dE_519 ?_
    refine z_callVP X Z hl (mX7_mailAll l Δ adm thr (nI k) mlen spot reads hash ms mpast mtext mread x1 x2 hf7) wd_958 wd_959 wd_960 wd_68 wd_961 ok_X7_mailAll 7 rfl 0 rfl (List.Perm.refl _) rfl rfl (rest := []) rfl (Nat.le_of_ble_eq_true rfl) ⟨Nat.le_of_ble_eq_true rfl, Nat.le_of_ble_eq_true rfl⟩ ⟨Nat.le_trans (Nat.add_le_add_left (m := 15) (Nat.le_of_ble_eq_true rfl) cells) hc.1, Nat.le_trans (Nat.add_le_add_left (m := 140) (Nat.le_of_ble_eq_true rfl) slots) hc.2⟩ (st1 := [.int v1]) rfl dE_520 (fun H locs Z => ?_)
    refine law_tail Y (kc := (if E = "java/lang/IndexOutOfBoundsException" then 1 else 2)) Z hl (fun h => absurd h zif12) ⟨Nat.le_trans (Nat.add_le_add_left (m := 15) (Nat.le_of_ble_eq_true rfl) cells) hc.1, Nat.le_trans (Nat.add_le_add_left (m := 140) (Nat.le_of_ble_eq_true rfl) slots) hc.2⟩ dE_523 dE_525 dE_526 dE_529 dE_531 dE_536 dE_538 dE_541 dE_542 dE_543 dE_544 dE_546 dE_547 dE_548 dE_553 (by decide) (fun H1 locs1 ls1 Z1 hl1 => ?_)
    refine W.widen (k := cells + 15) (n := slots + 140) (Nat.add_le_add_left (Nat.le_of_ble_eq_true rfl) cells) (Nat.add_le_add_left (Nat.le_of_ble_eq_true rfl) slots) ?_
    exact next H1 locs1 ls1 ⟨ad, adm, out, (reached, lost, size, plots, cliffs, words, needs, told, rea, wread, ltold, lout, sets), len, codes, gpl, gps, gcl, gwo, o, k, n, α, σ, _, mlen, spot, reads, hash, _, _, mtext, mread, rfl, rfl, Z1, hO0, HS, TX, hl1⟩
set_option maxRecDepth 100000 in
set_option maxHeartbeats 4000000 in
theorem law_forget {p : Program} {l : Launch} {e : Env} {s : State} {m : MethodId} {below : List Frame} {meth : Method} {c : Code} {H : Heap} {locs : List Loc} {cells slots : Nat} {Q : State → Prop} {Δ : zE} {b L : Nat} {xs : Nat → Int32} {ls : Array Slot} (hT : l.stackTraces = false) (Y : zY Δ p l s m #[Value.ref b] meth c ⟨"SerialRecapsLaw", meth.name, ""⟩ code 9 (some .boolean) (fun q => s.heap.size ≤ q)) (hX : va_X b L xs s s.heap) (hbl : b < s.heap.size) {a1 a2 ao : Nat} {i : Int32} (hin1 : vp_in (i + 1) L) (hin2 : vp_in (i + 2) L) (hin3 : vp_in (i + 3) L) (I : zInv Δ s b a1 a2 ao i H locs ls) (hc : cells + 15 ≤ 601024 ∧ slots + 140 ≤ 7293034) (next : ∀ (H1 : Heap) (locs1 : List Loc) (ls1 : Array Slot), zInv Δ s b a1 a2 ao i H1 locs1 ls1 → W p l e room_1 s m #[Value.ref b] below meth c H1 locs1 (cells + 15) (slots + 140) Q (F0 m 1469 ls1 [])) : W p l e room_1 s m #[Value.ref b] below meth c H locs cells slots Q (F0 m 556 ls []) := by
  have X := Y.1
  obtain ⟨ad, adm, out, ⟨reached, lost, size, plots, cliffs, words, needs, told, rea, wread, ltold, lout, sets⟩, len, codes, gpl, gps, gcl, gwo, o, k, n, α, σ, thr, mlen, spot, reads, hash, ms, mpast, mtext, mread, rfl, rfl, Z, hO0, HS, TX, hl⟩ := I
  obtain ⟨n', L', c', V⟩ := id hO0
  have V : zV n' L' c' reached lost size plots cliffs words needs told rea wread ltold lout sets ms := V
  have Z : zW Δ (fun q => s.heap.size ≤ q) s.heap (wX7 Δ adm thr (nI k) mlen spot reads hash ms mpast mtext mread ++ ([(ao, .inl (Δ.2.2.2.1, 1, .inr (.inl out)))] ++ (wX6 Δ ad reached lost size plots cliffs words needs told rea wread ltold lout sets (nI o) (nI k) (zRows n α) len codes gpl gps gcl gwo ++ zPool Δ n α σ))) H locs := Z
  obtain ⟨x1, hx1⟩ : ∃ z, xs (i + 1).toNatClampNeg = z := ⟨_, rfl⟩
  obtain ⟨mp', hs, HS'⟩ := HS.keep (c0 := (reached, lost, size, plots, cliffs, words, needs, told, rea, wread, ltold, lout, sets)) (ms := ms) hO0
  obtain ⟨res, v1, v2, v3, v4, v5, hf6, hf7, hE, hin, hex⟩ := (V.s_forget (thr := thr) hs x1).go
  refine lv_aload_n X.x X.b dE_556 rfl (lv_at hl 1 rfl) ?_
  refine law_arg Y hX hbl Z hl 0 4 rfl rfl (v := 1) (by decide) hx1 hin1 dE_557 dE_558 dE_560 dE_561 dE_562 ?_
  refine lv_aload_n X.x X.b dE_563 rfl (lv_at hl 3 rfl) ?_
  refine x_callSX Y Z hl (mL_forget l hT Δ ad ao out reached lost size plots cliffs words needs told rea wread ltold lout sets len codes gpl gps gcl gwo o k n α σ HS.1 x1 hf6 hE) wd_669 wd_670 wd_60 wd_671 ok_L_forget List.perm_append_comm rfl (rest := []) rfl (Nat.le_of_ble_eq_true rfl) ⟨Nat.le_of_ble_eq_true rfl, Nat.le_of_ble_eq_true rfl⟩ ⟨Nat.le_trans (Nat.add_le_add_left (m := 15) (Nat.le_of_ble_eq_true rfl) cells) hc.1, Nat.le_trans (Nat.add_le_add_left (m := 140) (Nat.le_of_ble_eq_true rfl) slots) hc.2⟩ dE_564 (fun _ _ h => h) (fun rv w1 H locs hP Z => ?_)
  have Z := Z.perm List.perm_append_comm
  rcases hP with ⟨r, hr, rfl, α1, rfl⟩ | ⟨E, hr, rfl, rfl⟩
  · obtain ⟨rfl, rfl, rfl, rfl, hO⟩ := hin r hr
    refine W.eq (g2 := F0 m 567 ls [.int 0]) rfl ?_
    refine lv_istore (lv' := [(5, .int 0), (0, .ref b), (1, .ref (ad 0)), (2, .ref (adm 0)), (3, .ref ao), (4, .int i)]) X.x X.b dE_567 hl (Nat.le_of_ble_eq_true rfl) rfl (fun ls hl => ?_)
    refine lv_aload_n X.x X.b dE_569 rfl (lv_at hl 3 rfl) ?_
    refine law_arg Y hX hbl Z hl 1 5 rfl rfl (v := 1) (by decide) hx1 hin1 dE_570 dE_571 dE_573 dE_574 dE_575 ?_
    refine z_callVP X Z hl (mX7_forget l Δ adm thr (nI k) mlen spot reads hash ms mpast mtext mread x1 hf7) wd_962 wd_963 wd_964 wd_68 wd_965 ok_X7_forget 7 rfl 0 rfl (List.Perm.refl _) rfl rfl (rest := []) rfl (Nat.le_of_ble_eq_true rfl) ⟨Nat.le_of_ble_eq_true rfl, Nat.le_of_ble_eq_true rfl⟩ ⟨Nat.le_trans (Nat.add_le_add_left (m := 15) (Nat.le_of_ble_eq_true rfl) cells) hc.1, Nat.le_trans (Nat.add_le_add_left (m := 140) (Nat.le_of_ble_eq_true rfl) slots) hc.2⟩ (st1 := [.int r.1]) rfl dE_576 (fun H locs Z => ?_)
    refine law_tail Y (kc := 0) Z hl (fun _ => if_pos rfl) ⟨Nat.le_trans (Nat.add_le_add_left (m := 15) (Nat.le_of_ble_eq_true rfl) cells) hc.1, Nat.le_trans (Nat.add_le_add_left (m := 140) (Nat.le_of_ble_eq_true rfl) slots) hc.2⟩ dE_579 dE_581 dE_582 dE_585 dE_587 dE_592 dE_594 dE_597 dE_598 dE_599 dE_600 dE_602 dE_603 dE_604 dE_609 (by decide) (fun H1 locs1 ls1 Z1 hl1 => ?_)
    refine W.widen (k := cells + 15) (n := slots + 140) (Nat.add_le_add_left (Nat.le_of_ble_eq_true rfl) cells) (Nat.add_le_add_left (Nat.le_of_ble_eq_true rfl) slots) ?_
    exact next H1 locs1 ls1 ⟨ad, adm, _, _, len, codes, gpl, gps, gcl, gwo, (zo o k), (zk k + 1), _, α1, _, 0, mlen, spot, reads, hash, v4, _, mtext, mread, rfl, rfl, Z1, hO, HS', TX, hl1⟩
  · obtain ⟨rfl, rfl, rfl, rfl⟩ := hex E hr
    refine W.eq (g2 := F0 m 567 ls [.int 1]) rfl ?_
    refine lv_istore (lv' := [(5, .int 1), (0, .ref b), (1, .ref (ad 0)), (2, .ref (adm 0)), (3, .ref ao), (4, .int i)]) X.x X.b dE_567 hl (Nat.le_of_ble_eq_true rfl) rfl (fun ls hl => ?_)
    refine lv_aload_n X.x X.b dE_569 rfl (lv_at hl 3 rfl) ?_
    refine law_arg Y hX hbl Z hl 1 5 rfl rfl (v := 1) (by decide) hx1 hin1 dE_570 dE_571 dE_573 dE_574 dE_575 ?_
    refine z_callVP X Z hl (mX7_forget l Δ adm thr (nI k) mlen spot reads hash ms mpast mtext mread x1 hf7) wd_962 wd_963 wd_964 wd_68 wd_965 ok_X7_forget 7 rfl 0 rfl (List.Perm.refl _) rfl rfl (rest := []) rfl (Nat.le_of_ble_eq_true rfl) ⟨Nat.le_of_ble_eq_true rfl, Nat.le_of_ble_eq_true rfl⟩ ⟨Nat.le_trans (Nat.add_le_add_left (m := 15) (Nat.le_of_ble_eq_true rfl) cells) hc.1, Nat.le_trans (Nat.add_le_add_left (m := 140) (Nat.le_of_ble_eq_true rfl) slots) hc.2⟩ (st1 := [.int v1]) rfl dE_576 (fun H locs Z => ?_)
    refine law_tail Y (kc := 1) Z hl (fun h => absurd h (by decide)) ⟨Nat.le_trans (Nat.add_le_add_left (m := 15) (Nat.le_of_ble_eq_true rfl) cells) hc.1, Nat.le_trans (Nat.add_le_add_left (m := 140) (Nat.le_of_ble_eq_true rfl) slots) hc.2⟩ dE_579 dE_581 dE_582 dE_585 dE_587 dE_592 dE_594 dE_597 dE_598 dE_599 dE_600 dE_602 dE_603 dE_604 dE_609 (by decide) (fun H1 locs1 ls1 Z1 hl1 => ?_)
    refine W.widen (k := cells + 15) (n := slots + 140) (Nat.add_le_add_left (Nat.le_of_ble_eq_true rfl) cells) (Nat.add_le_add_left (Nat.le_of_ble_eq_true rfl) slots) ?_
    exact next H1 locs1 ls1 ⟨ad, adm, out, (reached, lost, size, plots, cliffs, words, needs, told, rea, wread, ltold, lout, sets), len, codes, gpl, gps, gcl, gwo, o, k, n, α, σ, _, mlen, spot, reads, hash, _, _, mtext, mread, rfl, rfl, Z1, hO0, HS, TX, hl1⟩
set_option maxRecDepth 100000 in
set_option maxHeartbeats 4000000 in
theorem law_catchUp {p : Program} {l : Launch} {e : Env} {s : State} {m : MethodId} {below : List Frame} {meth : Method} {c : Code} {H : Heap} {locs : List Loc} {cells slots : Nat} {Q : State → Prop} {Δ : zE} {b L : Nat} {xs : Nat → Int32} {ls : Array Slot} (hT : l.stackTraces = false) (Y : zY Δ p l s m #[Value.ref b] meth c ⟨"SerialRecapsLaw", meth.name, ""⟩ code 9 (some .boolean) (fun q => s.heap.size ≤ q)) (hX : va_X b L xs s s.heap) (hbl : b < s.heap.size) {a1 a2 ao : Nat} {i : Int32} (hin1 : vp_in (i + 1) L) (hin2 : vp_in (i + 2) L) (hin3 : vp_in (i + 3) L) (I : zInv Δ s b a1 a2 ao i H locs ls) (hc : cells + 15 ≤ 601024 ∧ slots + 140 ≤ 7293034) (next : ∀ (H1 : Heap) (locs1 : List Loc) (ls1 : Array Slot), zInv Δ s b a1 a2 ao i H1 locs1 ls1 → W p l e room_1 s m #[Value.ref b] below meth c H1 locs1 (cells + 15) (slots + 140) Q (F0 m 1469 ls1 [])) : W p l e room_1 s m #[Value.ref b] below meth c H locs cells slots Q (F0 m 612 ls []) := by
  have X := Y.1
  obtain ⟨ad, adm, out, ⟨reached, lost, size, plots, cliffs, words, needs, told, rea, wread, ltold, lout, sets⟩, len, codes, gpl, gps, gcl, gwo, o, k, n, α, σ, thr, mlen, spot, reads, hash, ms, mpast, mtext, mread, rfl, rfl, Z, hO0, HS, TX, hl⟩ := I
  obtain ⟨n', L', c', V⟩ := id hO0
  have V : zV n' L' c' reached lost size plots cliffs words needs told rea wread ltold lout sets ms := V
  have Z : zW Δ (fun q => s.heap.size ≤ q) s.heap (wX7 Δ adm thr (nI k) mlen spot reads hash ms mpast mtext mread ++ ([(ao, .inl (Δ.2.2.2.1, 1, .inr (.inl out)))] ++ (wX6 Δ ad reached lost size plots cliffs words needs told rea wread ltold lout sets (nI o) (nI k) (zRows n α) len codes gpl gps gcl gwo ++ zPool Δ n α σ))) H locs := Z
  obtain ⟨x1, hx1⟩ : ∃ z, xs (i + 1).toNatClampNeg = z := ⟨_, rfl⟩
  obtain ⟨mp', hs, HS'⟩ := HS.keep (c0 := (reached, lost, size, plots, cliffs, words, needs, told, rea, wread, ltold, lout, sets)) (ms := ms) hO0
  obtain ⟨res, v1, v2, v3, v4, v5, hf6, hf7, hE, hin, hex⟩ := (V.s_catchUp (thr := thr) hs x1).go
  refine lv_aload_n X.x X.b dE_612 rfl (lv_at hl 1 rfl) ?_
  refine law_arg Y hX hbl Z hl 0 4 rfl rfl (v := 1) (by decide) hx1 hin1 dE_613 dE_614 dE_616 dE_617 dE_618 ?_
  refine lv_aload_n X.x X.b dE_619 rfl (lv_at hl 3 rfl) ?_
  refine x_callSX Y Z hl (mL_catchUp l hT Δ ad ao out reached lost size plots cliffs words needs told rea wread ltold lout sets len codes gpl gps gcl gwo o k n α σ HS.1 x1 hf6 hE) wd_680 wd_681 wd_60 wd_682 ok_L_catchUp List.perm_append_comm rfl (rest := []) rfl (Nat.le_of_ble_eq_true rfl) ⟨Nat.le_of_ble_eq_true rfl, Nat.le_of_ble_eq_true rfl⟩ ⟨Nat.le_trans (Nat.add_le_add_left (m := 15) (Nat.le_of_ble_eq_true rfl) cells) hc.1, Nat.le_trans (Nat.add_le_add_left (m := 140) (Nat.le_of_ble_eq_true rfl) slots) hc.2⟩ dE_620 (fun _ _ h => h) (fun rv w1 H locs hP Z => ?_)
  have Z := Z.perm List.perm_append_comm
  rcases hP with ⟨r, hr, rfl, α1, rfl⟩ | ⟨E, hr, rfl, rfl⟩
  · obtain ⟨rfl, rfl, rfl, rfl, hO⟩ := hin r hr
    refine W.eq (g2 := F0 m 623 ls [.int 0]) rfl ?_
    refine lv_istore (lv' := [(5, .int 0), (0, .ref b), (1, .ref (ad 0)), (2, .ref (adm 0)), (3, .ref ao), (4, .int i)]) X.x X.b dE_623 hl (Nat.le_of_ble_eq_true rfl) rfl (fun ls hl => ?_)
    refine lv_aload_n X.x X.b dE_625 rfl (lv_at hl 3 rfl) ?_
    refine law_arg Y hX hbl Z hl 1 5 rfl rfl (v := 1) (by decide) hx1 hin1 dE_626 dE_627 dE_629 dE_630 dE_631 ?_
    refine z_callVP X Z hl (mX7_catchUp l Δ adm thr (nI k) mlen spot reads hash ms mpast mtext mread x1 hf7) wd_966 wd_967 wd_968 wd_68 wd_969 ok_X7_catchUp 7 rfl 0 rfl (List.Perm.refl _) rfl rfl (rest := []) rfl (Nat.le_of_ble_eq_true rfl) ⟨Nat.le_of_ble_eq_true rfl, Nat.le_of_ble_eq_true rfl⟩ ⟨Nat.le_trans (Nat.add_le_add_left (m := 15) (Nat.le_of_ble_eq_true rfl) cells) hc.1, Nat.le_trans (Nat.add_le_add_left (m := 140) (Nat.le_of_ble_eq_true rfl) slots) hc.2⟩ (st1 := [.int r.1]) rfl dE_632 (fun H locs Z => ?_)
    refine law_tail Y (kc := 0) Z hl (fun _ => if_pos rfl) ⟨Nat.le_trans (Nat.add_le_add_left (m := 15) (Nat.le_of_ble_eq_true rfl) cells) hc.1, Nat.le_trans (Nat.add_le_add_left (m := 140) (Nat.le_of_ble_eq_true rfl) slots) hc.2⟩ dE_635 dE_637 dE_638 dE_641 dE_643 dE_648 dE_650 dE_653 dE_654 dE_655 dE_656 dE_658 dE_659 dE_660 dE_665 (by decide) (fun H1 locs1 ls1 Z1 hl1 => ?_)
    refine W.widen (k := cells + 15) (n := slots + 140) (Nat.add_le_add_left (Nat.le_of_ble_eq_true rfl) cells) (Nat.add_le_add_left (Nat.le_of_ble_eq_true rfl) slots) ?_
    exact next H1 locs1 ls1 ⟨ad, adm, _, _, len, codes, gpl, gps, gcl, gwo, (zo o k), (zk k + 1), _, α1, _, 0, mlen, spot, reads, hash, v4, _, mtext, mread, rfl, rfl, Z1, hO, HS', TX, hl1⟩
  · obtain ⟨rfl, rfl, rfl, rfl⟩ := hex E hr
    refine W.eq (g2 := F0 m 623 ls [.int 1]) rfl ?_
    refine lv_istore (lv' := [(5, .int 1), (0, .ref b), (1, .ref (ad 0)), (2, .ref (adm 0)), (3, .ref ao), (4, .int i)]) X.x X.b dE_623 hl (Nat.le_of_ble_eq_true rfl) rfl (fun ls hl => ?_)
    refine lv_aload_n X.x X.b dE_625 rfl (lv_at hl 3 rfl) ?_
    refine law_arg Y hX hbl Z hl 1 5 rfl rfl (v := 1) (by decide) hx1 hin1 dE_626 dE_627 dE_629 dE_630 dE_631 ?_
    refine z_callVP X Z hl (mX7_catchUp l Δ adm thr (nI k) mlen spot reads hash ms mpast mtext mread x1 hf7) wd_966 wd_967 wd_968 wd_68 wd_969 ok_X7_catchUp 7 rfl 0 rfl (List.Perm.refl _) rfl rfl (rest := []) rfl (Nat.le_of_ble_eq_true rfl) ⟨Nat.le_of_ble_eq_true rfl, Nat.le_of_ble_eq_true rfl⟩ ⟨Nat.le_trans (Nat.add_le_add_left (m := 15) (Nat.le_of_ble_eq_true rfl) cells) hc.1, Nat.le_trans (Nat.add_le_add_left (m := 140) (Nat.le_of_ble_eq_true rfl) slots) hc.2⟩ (st1 := [.int v1]) rfl dE_632 (fun H locs Z => ?_)
    refine law_tail Y (kc := 1) Z hl (fun h => absurd h (by decide)) ⟨Nat.le_trans (Nat.add_le_add_left (m := 15) (Nat.le_of_ble_eq_true rfl) cells) hc.1, Nat.le_trans (Nat.add_le_add_left (m := 140) (Nat.le_of_ble_eq_true rfl) slots) hc.2⟩ dE_635 dE_637 dE_638 dE_641 dE_643 dE_648 dE_650 dE_653 dE_654 dE_655 dE_656 dE_658 dE_659 dE_660 dE_665 (by decide) (fun H1 locs1 ls1 Z1 hl1 => ?_)
    refine W.widen (k := cells + 15) (n := slots + 140) (Nat.add_le_add_left (Nat.le_of_ble_eq_true rfl) cells) (Nat.add_le_add_left (Nat.le_of_ble_eq_true rfl) slots) ?_
    exact next H1 locs1 ls1 ⟨ad, adm, out, (reached, lost, size, plots, cliffs, words, needs, told, rea, wread, ltold, lout, sets), len, codes, gpl, gps, gcl, gwo, o, k, n, α, σ, _, mlen, spot, reads, hash, _, _, mtext, mread, rfl, rfl, Z1, hO0, HS, TX, hl1⟩
