/-! CONTRACTS of the methods in these words -/
def s_add (b : zOb) (x1 : Int32) (x2 : Int32) (x3 : Int32) : Option ((String ⊕ Int32) × zOb) := (fX6_add (tF b.1).2.2.1 (tF b.1).2.2.2.1 (tF b.1).2.2.2.2.1 (tF b.1).2.2.2.2.2.1 (tF b.1).2.2.2.2.2.2.1 x1 x2 x3).map (zAns b (fun q => (q.1, zPush b (tN ((tF b.1).1, (tF b.1).2.1, q.2.1, q.2.2.1, q.2.2.2.1, q.2.2.2.2.1, q.2.2.2.2.2, (tF b.1).2.2.2.2.2.2.2.1, (tF b.1).2.2.2.2.2.2.2.2.1, (tF b.1).2.2.2.2.2.2.2.2.2.1, (tF b.1).2.2.2.2.2.2.2.2.2.2.1, (tF b.1).2.2.2.2.2.2.2.2.2.2.2.1, (tF b.1).2.2.2.2.2.2.2.2.2.2.2.2)))))
theorem C_add (l : Launch) (hT : l.stackTraces = false) (Δ : zE) {b b' : zOb} {r : String ⊕ Int32} (x1 : Int32) (x2 : Int32) (x3 : Int32) (h : s_add b x1 x2 x3 = some (r, b')) : zCt l Δ yX6_add (.code yX6_add cX6_add 4 (some .int)) 7 111 14 133 [.int x1, .int x2, .int x3] b r b' := by
  rintro a ws ⟨ad, α, o, k, n, σ, g1, g2, g3, g4, rfl, hW, ⟨hH1, rfl, hH3⟩, rfl⟩
  have hH : zHl o b.2.1.length n σ b.2.1 := ⟨hH1, rfl, hH3⟩
  obtain ⟨res, hf, hr⟩ := zmap_ok h
  refine zMX.weak (mX6_add l hT Δ ad (tF b.1).1 (tF b.1).2.1 (tF b.1).2.2.1 (tF b.1).2.2.2.1 (tF b.1).2.2.2.2.1 (tF b.1).2.2.2.2.2.1 (tF b.1).2.2.2.2.2.2.1 (tF b.1).2.2.2.2.2.2.2.1 (tF b.1).2.2.2.2.2.2.2.2.1 (tF b.1).2.2.2.2.2.2.2.2.2.1 (tF b.1).2.2.2.2.2.2.2.2.2.2.1 (tF b.1).2.2.2.2.2.2.2.2.2.2.2.1 (tF b.1).2.2.2.2.2.2.2.2.2.2.2.2 b.2.2.1 (tf b.2.2.2) g1 g2 g3 g4 o b.2.1.length n α σ hH.1 x1 x2 x3 hf) (fun rv w hq => ?_) (fun E w hq => ?_)
  · obtain ⟨q, rfl, rfl, α1, rfl⟩ := hq
    obtain ⟨rfl, rfl⟩ := zAns_r hr
    exact ⟨_, zSame.app (zS_X6 ad ((tF b.1).1, (tF b.1).2.1, q.2.1, q.2.2.1, q.2.2.2.1, q.2.2.2.2.1, q.2.2.2.2.2, (tF b.1).2.2.2.2.2.2.2.1, (tF b.1).2.2.2.2.2.2.2.2.1, (tF b.1).2.2.2.2.2.2.2.2.2.1, (tF b.1).2.2.2.2.2.2.2.2.2.2.1, (tF b.1).2.2.2.2.2.2.2.2.2.2.2.1, (tF b.1).2.2.2.2.2.2.2.2.2.2.2.2) (nI (zo o b.2.1.length)) (nI (zk b.2.1.length + 1)) (zRows (zn n (zp o b.2.1.length)) α1) b.2.2.1 (fun _ _ => rfl) g1 g2 g3 g4) zSame.rf, _, rfl, rfl, ad, α1, zo o b.2.1.length, zk b.2.1.length + 1, zn n (zp o b.2.1.length), zkeep o b.2.1.length n σ (tF b.1), g1, g2, g3, g4, rfl, tN_tN _, hH.push hW, rfl⟩
  · obtain ⟨rfl, rfl⟩ := hq
    obtain ⟨rfl, rfl⟩ := zAns_l hr
    exact ⟨_, zSame.rf, rfl, ad, α, o, _, n, σ, g1, g2, g3, g4, rfl, hW, hH, rfl⟩
def s_change (b : zOb) (x1 : Int32) (x2 : Int32) (x3 : Int32) : Option ((String ⊕ Int32) × zOb) := (fX6_change (tF b.1).2.2.1 (tF b.1).2.2.2.1 (tF b.1).2.2.2.2.1 (tF b.1).2.2.2.2.2.2.1 x1 x2 x3).map (zAns b (fun q => (q.1, zPush b (tN ((tF b.1).1, (tF b.1).2.1, (tF b.1).2.2.1, q.2.1, q.2.2.1, (tF b.1).2.2.2.2.2.1, q.2.2.2, (tF b.1).2.2.2.2.2.2.2.1, (tF b.1).2.2.2.2.2.2.2.2.1, (tF b.1).2.2.2.2.2.2.2.2.2.1, (tF b.1).2.2.2.2.2.2.2.2.2.2.1, (tF b.1).2.2.2.2.2.2.2.2.2.2.2.1, (tF b.1).2.2.2.2.2.2.2.2.2.2.2.2)))))
theorem C_change (l : Launch) (hT : l.stackTraces = false) (Δ : zE) {b b' : zOb} {r : String ⊕ Int32} (x1 : Int32) (x2 : Int32) (x3 : Int32) (h : s_change b x1 x2 x3 = some (r, b')) : zCt l Δ yX6_change (.code yX6_change cX6_change 4 (some .int)) 7 111 15 139 [.int x1, .int x2, .int x3] b r b' := by
  rintro a ws ⟨ad, α, o, k, n, σ, g1, g2, g3, g4, rfl, hW, ⟨hH1, rfl, hH3⟩, rfl⟩
  have hH : zHl o b.2.1.length n σ b.2.1 := ⟨hH1, rfl, hH3⟩
  obtain ⟨res, hf, hr⟩ := zmap_ok h
  refine zMX.weak (mX6_change l hT Δ ad (tF b.1).1 (tF b.1).2.1 (tF b.1).2.2.1 (tF b.1).2.2.2.1 (tF b.1).2.2.2.2.1 (tF b.1).2.2.2.2.2.1 (tF b.1).2.2.2.2.2.2.1 (tF b.1).2.2.2.2.2.2.2.1 (tF b.1).2.2.2.2.2.2.2.2.1 (tF b.1).2.2.2.2.2.2.2.2.2.1 (tF b.1).2.2.2.2.2.2.2.2.2.2.1 (tF b.1).2.2.2.2.2.2.2.2.2.2.2.1 (tF b.1).2.2.2.2.2.2.2.2.2.2.2.2 b.2.2.1 (tf b.2.2.2) g1 g2 g3 g4 o b.2.1.length n α σ hH.1 x1 x2 x3 hf) (fun rv w hq => ?_) (fun E w hq => ?_)
  · obtain ⟨q, rfl, rfl, α1, rfl⟩ := hq
    obtain ⟨rfl, rfl⟩ := zAns_r hr
    exact ⟨_, zSame.app (zS_X6 ad ((tF b.1).1, (tF b.1).2.1, (tF b.1).2.2.1, q.2.1, q.2.2.1, (tF b.1).2.2.2.2.2.1, q.2.2.2, (tF b.1).2.2.2.2.2.2.2.1, (tF b.1).2.2.2.2.2.2.2.2.1, (tF b.1).2.2.2.2.2.2.2.2.2.1, (tF b.1).2.2.2.2.2.2.2.2.2.2.1, (tF b.1).2.2.2.2.2.2.2.2.2.2.2.1, (tF b.1).2.2.2.2.2.2.2.2.2.2.2.2) (nI (zo o b.2.1.length)) (nI (zk b.2.1.length + 1)) (zRows (zn n (zp o b.2.1.length)) α1) b.2.2.1 (fun _ _ => rfl) g1 g2 g3 g4) zSame.rf, _, rfl, rfl, ad, α1, zo o b.2.1.length, zk b.2.1.length + 1, zn n (zp o b.2.1.length), zkeep o b.2.1.length n σ (tF b.1), g1, g2, g3, g4, rfl, tN_tN _, hH.push hW, rfl⟩
  · obtain ⟨rfl, rfl⟩ := hq
    obtain ⟨rfl, rfl⟩ := zAns_l hr
    exact ⟨_, zSame.rf, rfl, ad, α, o, _, n, σ, g1, g2, g3, g4, rfl, hW, hH, rfl⟩
def s_removeLast (b : zOb)  : Option ((String ⊕ Int32) × zOb) := (fX6_removeLast (tF b.1).2.2.1 (tF b.1).2.2.2.2.2.2.2.1 (tF b.1).2.2.2.2.2.2.2.2.1 ).map (zAns b (fun q => (q.1, zPush b (tN ((tF b.1).1, (tF b.1).2.1, q.2.1, (tF b.1).2.2.2.1, (tF b.1).2.2.2.2.1, (tF b.1).2.2.2.2.2.1, (tF b.1).2.2.2.2.2.2.1, q.2.2.1, q.2.2.2, (tF b.1).2.2.2.2.2.2.2.2.2.1, (tF b.1).2.2.2.2.2.2.2.2.2.2.1, (tF b.1).2.2.2.2.2.2.2.2.2.2.2.1, (tF b.1).2.2.2.2.2.2.2.2.2.2.2.2)))))
theorem C_removeLast (l : Launch) (hT : l.stackTraces = false) (Δ : zE) {b b' : zOb} {r : String ⊕ Int32}  (h : s_removeLast b  = some (r, b')) : zCt l Δ yX6_removeLast (.code yX6_removeLast cX6_removeLast 3 (some .int)) 6 105 13 127 [] b r b' := by
  rintro a ws ⟨ad, α, o, k, n, σ, g1, g2, g3, g4, rfl, hW, ⟨hH1, rfl, hH3⟩, rfl⟩
  have hH : zHl o b.2.1.length n σ b.2.1 := ⟨hH1, rfl, hH3⟩
  obtain ⟨res, hf, hr⟩ := zmap_ok h
  refine zMX.weak (mX6_removeLast l hT Δ ad (tF b.1).1 (tF b.1).2.1 (tF b.1).2.2.1 (tF b.1).2.2.2.1 (tF b.1).2.2.2.2.1 (tF b.1).2.2.2.2.2.1 (tF b.1).2.2.2.2.2.2.1 (tF b.1).2.2.2.2.2.2.2.1 (tF b.1).2.2.2.2.2.2.2.2.1 (tF b.1).2.2.2.2.2.2.2.2.2.1 (tF b.1).2.2.2.2.2.2.2.2.2.2.1 (tF b.1).2.2.2.2.2.2.2.2.2.2.2.1 (tF b.1).2.2.2.2.2.2.2.2.2.2.2.2 b.2.2.1 (tf b.2.2.2) g1 g2 g3 g4 o b.2.1.length n α σ hH.1  hf) (fun rv w hq => ?_) (fun E w hq => ?_)
  · obtain ⟨q, rfl, rfl, α1, rfl⟩ := hq
    obtain ⟨rfl, rfl⟩ := zAns_r hr
    exact ⟨_, zSame.app (zS_X6 ad ((tF b.1).1, (tF b.1).2.1, q.2.1, (tF b.1).2.2.2.1, (tF b.1).2.2.2.2.1, (tF b.1).2.2.2.2.2.1, (tF b.1).2.2.2.2.2.2.1, q.2.2.1, q.2.2.2, (tF b.1).2.2.2.2.2.2.2.2.2.1, (tF b.1).2.2.2.2.2.2.2.2.2.2.1, (tF b.1).2.2.2.2.2.2.2.2.2.2.2.1, (tF b.1).2.2.2.2.2.2.2.2.2.2.2.2) (nI (zo o b.2.1.length)) (nI (zk b.2.1.length + 1)) (zRows (zn n (zp o b.2.1.length)) α1) b.2.2.1 (fun _ _ => rfl) g1 g2 g3 g4) zSame.rf, _, rfl, rfl, ad, α1, zo o b.2.1.length, zk b.2.1.length + 1, zn n (zp o b.2.1.length), zkeep o b.2.1.length n σ (tF b.1), g1, g2, g3, g4, rfl, tN_tN _, hH.push hW, rfl⟩
  · obtain ⟨rfl, rfl⟩ := hq
    obtain ⟨rfl, rfl⟩ := zAns_l hr
    exact ⟨_, zSame.rf, rfl, ad, α, o, _, n, σ, g1, g2, g3, g4, rfl, hW, hH, rfl⟩
def s_set (b : zOb) (x1 : Int32) (x2 : Int32) : Option ((String ⊕ Int32) × zOb) := (fX6_set (tF b.1).2.2.2.2.2.2.2.2.2.2.2.2 x1 x2).map (zAns b (fun q => (q.1, zPush b (tN ((tF b.1).1, (tF b.1).2.1, (tF b.1).2.2.1, (tF b.1).2.2.2.1, (tF b.1).2.2.2.2.1, (tF b.1).2.2.2.2.2.1, (tF b.1).2.2.2.2.2.2.1, (tF b.1).2.2.2.2.2.2.2.1, (tF b.1).2.2.2.2.2.2.2.2.1, (tF b.1).2.2.2.2.2.2.2.2.2.1, (tF b.1).2.2.2.2.2.2.2.2.2.2.1, (tF b.1).2.2.2.2.2.2.2.2.2.2.2.1, q.2)))))
theorem C_set (l : Launch) (hT : l.stackTraces = false) (Δ : zE) {b b' : zOb} {r : String ⊕ Int32} (x1 : Int32) (x2 : Int32) (h : s_set b x1 x2 = some (r, b')) : zCt l Δ yX6_set (.code yX6_set cX6_set 6 (some .int)) 7 110 14 133 [.int x1, .int x2] b r b' := by
  rintro a ws ⟨ad, α, o, k, n, σ, g1, g2, g3, g4, rfl, hW, ⟨hH1, rfl, hH3⟩, rfl⟩
  have hH : zHl o b.2.1.length n σ b.2.1 := ⟨hH1, rfl, hH3⟩
  obtain ⟨res, hf, hr⟩ := zmap_ok h
  refine zMX.weak (mX6_set l hT Δ ad (tF b.1).1 (tF b.1).2.1 (tF b.1).2.2.1 (tF b.1).2.2.2.1 (tF b.1).2.2.2.2.1 (tF b.1).2.2.2.2.2.1 (tF b.1).2.2.2.2.2.2.1 (tF b.1).2.2.2.2.2.2.2.1 (tF b.1).2.2.2.2.2.2.2.2.1 (tF b.1).2.2.2.2.2.2.2.2.2.1 (tF b.1).2.2.2.2.2.2.2.2.2.2.1 (tF b.1).2.2.2.2.2.2.2.2.2.2.2.1 (tF b.1).2.2.2.2.2.2.2.2.2.2.2.2 b.2.2.1 (tf b.2.2.2) g1 g2 g3 g4 o b.2.1.length n α σ hH.1 x1 x2 hf) (fun rv w hq => ?_) (fun E w hq => ?_)
  · obtain ⟨q, rfl, rfl, α1, rfl⟩ := hq
    obtain ⟨rfl, rfl⟩ := zAns_r hr
    exact ⟨_, zSame.app (zS_X6 ad ((tF b.1).1, (tF b.1).2.1, (tF b.1).2.2.1, (tF b.1).2.2.2.1, (tF b.1).2.2.2.2.1, (tF b.1).2.2.2.2.2.1, (tF b.1).2.2.2.2.2.2.1, (tF b.1).2.2.2.2.2.2.2.1, (tF b.1).2.2.2.2.2.2.2.2.1, (tF b.1).2.2.2.2.2.2.2.2.2.1, (tF b.1).2.2.2.2.2.2.2.2.2.2.1, (tF b.1).2.2.2.2.2.2.2.2.2.2.2.1, q.2) (nI (zo o b.2.1.length)) (nI (zk b.2.1.length + 1)) (zRows (zn n (zp o b.2.1.length)) α1) b.2.2.1 (fun _ _ => rfl) g1 g2 g3 g4) zSame.rf, _, rfl, rfl, ad, α1, zo o b.2.1.length, zk b.2.1.length + 1, zn n (zp o b.2.1.length), zkeep o b.2.1.length n σ (tF b.1), g1, g2, g3, g4, rfl, tN_tN _, hH.push hW, rfl⟩
  · obtain ⟨rfl, rfl⟩ := hq
    obtain ⟨rfl, rfl⟩ := zAns_l hr
    exact ⟨_, zSame.rf, rfl, ad, α, o, _, n, σ, g1, g2, g3, g4, rfl, hW, hH, rfl⟩
def s_mail (b : zOb) (x1 : Int32) (x2 : Int32) : Option ((String ⊕ Int32) × zOb) := (fX6_mail (tF b.1).1 (tF b.1).2.2.1 (tF b.1).2.2.2.2.2.1 (tF b.1).2.2.2.2.2.2.1 (tF b.1).2.2.2.2.2.2.2.1 (tF b.1).2.2.2.2.2.2.2.2.1 (tF b.1).2.2.2.2.2.2.2.2.2.1 (tF b.1).2.2.2.2.2.2.2.2.2.2.1 (tF b.1).2.2.2.2.2.2.2.2.2.2.2.1 (tF b.1).2.2.2.2.2.2.2.2.2.2.2.2 x1 x2).map (zAns b (fun q => (q.1, zPush b (tN (q.2.1, (tF b.1).2.1, (tF b.1).2.2.1, (tF b.1).2.2.2.1, (tF b.1).2.2.2.2.1, (tF b.1).2.2.2.2.2.1, (tF b.1).2.2.2.2.2.2.1, q.2.2.1, q.2.2.2.1, q.2.2.2.2.1, q.2.2.2.2.2.1, q.2.2.2.2.2.2, (tF b.1).2.2.2.2.2.2.2.2.2.2.2.2)))))
theorem C_mail (l : Launch) (hT : l.stackTraces = false) (Δ : zE) {b b' : zOb} {r : String ⊕ Int32} (x1 : Int32) (x2 : Int32) (h : s_mail b x1 x2 = some (r, b')) : zCt l Δ yX6_mail (.code yX6_mail cX6_mail 3 (some .int)) 7 111 15 139 [.int x1, .int x2] b r b' := by
  rintro a ws ⟨ad, α, o, k, n, σ, g1, g2, g3, g4, rfl, hW, ⟨hH1, rfl, hH3⟩, rfl⟩
  have hH : zHl o b.2.1.length n σ b.2.1 := ⟨hH1, rfl, hH3⟩
  obtain ⟨res, hf, hr⟩ := zmap_ok h
  refine zMX.weak (mX6_mail l hT Δ ad (tF b.1).1 (tF b.1).2.1 (tF b.1).2.2.1 (tF b.1).2.2.2.1 (tF b.1).2.2.2.2.1 (tF b.1).2.2.2.2.2.1 (tF b.1).2.2.2.2.2.2.1 (tF b.1).2.2.2.2.2.2.2.1 (tF b.1).2.2.2.2.2.2.2.2.1 (tF b.1).2.2.2.2.2.2.2.2.2.1 (tF b.1).2.2.2.2.2.2.2.2.2.2.1 (tF b.1).2.2.2.2.2.2.2.2.2.2.2.1 (tF b.1).2.2.2.2.2.2.2.2.2.2.2.2 b.2.2.1 (tf b.2.2.2) g1 g2 g3 g4 o b.2.1.length n α σ hH.1 x1 x2 hf) (fun rv w hq => ?_) (fun E w hq => ?_)
  · obtain ⟨q, rfl, rfl, α1, rfl⟩ := hq
    obtain ⟨rfl, rfl⟩ := zAns_r hr
    exact ⟨_, zSame.app (zS_X6 ad (q.2.1, (tF b.1).2.1, (tF b.1).2.2.1, (tF b.1).2.2.2.1, (tF b.1).2.2.2.2.1, (tF b.1).2.2.2.2.2.1, (tF b.1).2.2.2.2.2.2.1, q.2.2.1, q.2.2.2.1, q.2.2.2.2.1, q.2.2.2.2.2.1, q.2.2.2.2.2.2, (tF b.1).2.2.2.2.2.2.2.2.2.2.2.2) (nI (zo o b.2.1.length)) (nI (zk b.2.1.length + 1)) (zRows (zn n (zp o b.2.1.length)) α1) b.2.2.1 (fun _ _ => rfl) g1 g2 g3 g4) zSame.rf, _, rfl, rfl, ad, α1, zo o b.2.1.length, zk b.2.1.length + 1, zn n (zp o b.2.1.length), zkeep o b.2.1.length n σ (tF b.1), g1, g2, g3, g4, rfl, tN_tN _, hH.push hW, rfl⟩
  · obtain ⟨rfl, rfl⟩ := hq
    obtain ⟨rfl, rfl⟩ := zAns_l hr
    exact ⟨_, zSame.rf, rfl, ad, α, o, _, n, σ, g1, g2, g3, g4, rfl, hW, hH, rfl⟩
def s_mailAll (b : zOb) (x1 : Int32) (x2 : Int32) : Option ((String ⊕ Int32) × zOb) := (fX6_mailAll (tF b.1).1 (tF b.1).2.1 (tF b.1).2.2.1 (tF b.1).2.2.2.2.2.1 (tF b.1).2.2.2.2.2.2.1 (tF b.1).2.2.2.2.2.2.2.1 (tF b.1).2.2.2.2.2.2.2.2.1 (tF b.1).2.2.2.2.2.2.2.2.2.1 (tF b.1).2.2.2.2.2.2.2.2.2.2.1 (tF b.1).2.2.2.2.2.2.2.2.2.2.2.1 (tF b.1).2.2.2.2.2.2.2.2.2.2.2.2 x1 x2).map (zAns b (fun q => (q.1, zPush b (tN (q.2.1, q.2.2.1, (tF b.1).2.2.1, (tF b.1).2.2.2.1, (tF b.1).2.2.2.2.1, (tF b.1).2.2.2.2.2.1, (tF b.1).2.2.2.2.2.2.1, q.2.2.2.1, q.2.2.2.2.1, q.2.2.2.2.2.1, q.2.2.2.2.2.2.1, q.2.2.2.2.2.2.2, (tF b.1).2.2.2.2.2.2.2.2.2.2.2.2)))))
theorem C_mailAll (l : Launch) (hT : l.stackTraces = false) (Δ : zE) {b b' : zOb} {r : String ⊕ Int32} (x1 : Int32) (x2 : Int32) (h : s_mailAll b x1 x2 = some (r, b')) : zCt l Δ yX6_mailAll (.code yX6_mailAll cX6_mailAll 3 (some .int)) 7 116 14 133 [.int x1, .int x2] b r b' := by
  rintro a ws ⟨ad, α, o, k, n, σ, g1, g2, g3, g4, rfl, hW, ⟨hH1, rfl, hH3⟩, rfl⟩
  have hH : zHl o b.2.1.length n σ b.2.1 := ⟨hH1, rfl, hH3⟩
  obtain ⟨res, hf, hr⟩ := zmap_ok h
  refine zMX.weak (mX6_mailAll l hT Δ ad (tF b.1).1 (tF b.1).2.1 (tF b.1).2.2.1 (tF b.1).2.2.2.1 (tF b.1).2.2.2.2.1 (tF b.1).2.2.2.2.2.1 (tF b.1).2.2.2.2.2.2.1 (tF b.1).2.2.2.2.2.2.2.1 (tF b.1).2.2.2.2.2.2.2.2.1 (tF b.1).2.2.2.2.2.2.2.2.2.1 (tF b.1).2.2.2.2.2.2.2.2.2.2.1 (tF b.1).2.2.2.2.2.2.2.2.2.2.2.1 (tF b.1).2.2.2.2.2.2.2.2.2.2.2.2 b.2.2.1 (tf b.2.2.2) g1 g2 g3 g4 o b.2.1.length n α σ hH.1 x1 x2 hf) (fun rv w hq => ?_) (fun E w hq => ?_)
  · obtain ⟨q, rfl, rfl, α1, rfl⟩ := hq
    obtain ⟨rfl, rfl⟩ := zAns_r hr
    exact ⟨_, zSame.app (zS_X6 ad (q.2.1, q.2.2.1, (tF b.1).2.2.1, (tF b.1).2.2.2.1, (tF b.1).2.2.2.2.1, (tF b.1).2.2.2.2.2.1, (tF b.1).2.2.2.2.2.2.1, q.2.2.2.1, q.2.2.2.2.1, q.2.2.2.2.2.1, q.2.2.2.2.2.2.1, q.2.2.2.2.2.2.2, (tF b.1).2.2.2.2.2.2.2.2.2.2.2.2) (nI (zo o b.2.1.length)) (nI (zk b.2.1.length + 1)) (zRows (zn n (zp o b.2.1.length)) α1) b.2.2.1 (fun _ _ => rfl) g1 g2 g3 g4) zSame.rf, _, rfl, rfl, ad, α1, zo o b.2.1.length, zk b.2.1.length + 1, zn n (zp o b.2.1.length), zkeep o b.2.1.length n σ (tF b.1), g1, g2, g3, g4, rfl, tN_tN _, hH.push hW, rfl⟩
  · obtain ⟨rfl, rfl⟩ := hq
    obtain ⟨rfl, rfl⟩ := zAns_l hr
    exact ⟨_, zSame.rf, rfl, ad, α, o, _, n, σ, g1, g2, g3, g4, rfl, hW, hH, rfl⟩
def s_forget (b : zOb) (x1 : Int32) : Option ((String ⊕ Int32) × zOb) := (fX6_forget (tF b.1).2.2.2.2.2.2.2.1 x1).map (zAns b (fun q => (q.1, zPush b (tN ((tF b.1).1, (tF b.1).2.1, (tF b.1).2.2.1, (tF b.1).2.2.2.1, (tF b.1).2.2.2.2.1, (tF b.1).2.2.2.2.2.1, (tF b.1).2.2.2.2.2.2.1, q.2, (tF b.1).2.2.2.2.2.2.2.2.1, (tF b.1).2.2.2.2.2.2.2.2.2.1, (tF b.1).2.2.2.2.2.2.2.2.2.2.1, (tF b.1).2.2.2.2.2.2.2.2.2.2.2.1, (tF b.1).2.2.2.2.2.2.2.2.2.2.2.2)))))
theorem C_forget (l : Launch) (hT : l.stackTraces = false) (Δ : zE) {b b' : zOb} {r : String ⊕ Int32} (x1 : Int32) (h : s_forget b x1 = some (r, b')) : zCt l Δ yX6_forget (.code yX6_forget cX6_forget 2 (some .int)) 7 110 14 133 [.int x1] b r b' := by
  rintro a ws ⟨ad, α, o, k, n, σ, g1, g2, g3, g4, rfl, hW, ⟨hH1, rfl, hH3⟩, rfl⟩
  have hH : zHl o b.2.1.length n σ b.2.1 := ⟨hH1, rfl, hH3⟩
  obtain ⟨res, hf, hr⟩ := zmap_ok h
  refine zMX.weak (mX6_forget l hT Δ ad (tF b.1).1 (tF b.1).2.1 (tF b.1).2.2.1 (tF b.1).2.2.2.1 (tF b.1).2.2.2.2.1 (tF b.1).2.2.2.2.2.1 (tF b.1).2.2.2.2.2.2.1 (tF b.1).2.2.2.2.2.2.2.1 (tF b.1).2.2.2.2.2.2.2.2.1 (tF b.1).2.2.2.2.2.2.2.2.2.1 (tF b.1).2.2.2.2.2.2.2.2.2.2.1 (tF b.1).2.2.2.2.2.2.2.2.2.2.2.1 (tF b.1).2.2.2.2.2.2.2.2.2.2.2.2 b.2.2.1 (tf b.2.2.2) g1 g2 g3 g4 o b.2.1.length n α σ hH.1 x1 hf) (fun rv w hq => ?_) (fun E w hq => ?_)
  · obtain ⟨q, rfl, rfl, α1, rfl⟩ := hq
    obtain ⟨rfl, rfl⟩ := zAns_r hr
    exact ⟨_, zSame.app (zS_X6 ad ((tF b.1).1, (tF b.1).2.1, (tF b.1).2.2.1, (tF b.1).2.2.2.1, (tF b.1).2.2.2.2.1, (tF b.1).2.2.2.2.2.1, (tF b.1).2.2.2.2.2.2.1, q.2, (tF b.1).2.2.2.2.2.2.2.2.1, (tF b.1).2.2.2.2.2.2.2.2.2.1, (tF b.1).2.2.2.2.2.2.2.2.2.2.1, (tF b.1).2.2.2.2.2.2.2.2.2.2.2.1, (tF b.1).2.2.2.2.2.2.2.2.2.2.2.2) (nI (zo o b.2.1.length)) (nI (zk b.2.1.length + 1)) (zRows (zn n (zp o b.2.1.length)) α1) b.2.2.1 (fun _ _ => rfl) g1 g2 g3 g4) zSame.rf, _, rfl, rfl, ad, α1, zo o b.2.1.length, zk b.2.1.length + 1, zn n (zp o b.2.1.length), zkeep o b.2.1.length n σ (tF b.1), g1, g2, g3, g4, rfl, tN_tN _, hH.push hW, rfl⟩
  · obtain ⟨rfl, rfl⟩ := hq
    obtain ⟨rfl, rfl⟩ := zAns_l hr
    exact ⟨_, zSame.rf, rfl, ad, α, o, _, n, σ, g1, g2, g3, g4, rfl, hW, hH, rfl⟩
def s_catchUp (b : zOb) (x1 : Int32) : Option ((String ⊕ Int32) × zOb) := (fX6_catchUp (tF b.1).1 (tF b.1).2.2.1 (tF b.1).2.2.2.2.2.1 (tF b.1).2.2.2.2.2.2.1 (tF b.1).2.2.2.2.2.2.2.1 (tF b.1).2.2.2.2.2.2.2.2.1 (tF b.1).2.2.2.2.2.2.2.2.2.1 (tF b.1).2.2.2.2.2.2.2.2.2.2.1 (tF b.1).2.2.2.2.2.2.2.2.2.2.2.1 (tF b.1).2.2.2.2.2.2.2.2.2.2.2.2 x1).map (zAns b (fun q => (q.1, zPush b (tN (q.2.1, (tF b.1).2.1, (tF b.1).2.2.1, (tF b.1).2.2.2.1, (tF b.1).2.2.2.2.1, (tF b.1).2.2.2.2.2.1, (tF b.1).2.2.2.2.2.2.1, q.2.2.1, q.2.2.2.1, q.2.2.2.2.1, q.2.2.2.2.2.1, q.2.2.2.2.2.2, (tF b.1).2.2.2.2.2.2.2.2.2.2.2.2)))))
theorem C_catchUp (l : Launch) (hT : l.stackTraces = false) (Δ : zE) {b b' : zOb} {r : String ⊕ Int32} (x1 : Int32) (h : s_catchUp b x1 = some (r, b')) : zCt l Δ yX6_catchUp (.code yX6_catchUp cX6_catchUp 2 (some .int)) 7 115 14 133 [.int x1] b r b' := by
  rintro a ws ⟨ad, α, o, k, n, σ, g1, g2, g3, g4, rfl, hW, ⟨hH1, rfl, hH3⟩, rfl⟩
  have hH : zHl o b.2.1.length n σ b.2.1 := ⟨hH1, rfl, hH3⟩
  obtain ⟨res, hf, hr⟩ := zmap_ok h
  refine zMX.weak (mX6_catchUp l hT Δ ad (tF b.1).1 (tF b.1).2.1 (tF b.1).2.2.1 (tF b.1).2.2.2.1 (tF b.1).2.2.2.2.1 (tF b.1).2.2.2.2.2.1 (tF b.1).2.2.2.2.2.2.1 (tF b.1).2.2.2.2.2.2.2.1 (tF b.1).2.2.2.2.2.2.2.2.1 (tF b.1).2.2.2.2.2.2.2.2.2.1 (tF b.1).2.2.2.2.2.2.2.2.2.2.1 (tF b.1).2.2.2.2.2.2.2.2.2.2.2.1 (tF b.1).2.2.2.2.2.2.2.2.2.2.2.2 b.2.2.1 (tf b.2.2.2) g1 g2 g3 g4 o b.2.1.length n α σ hH.1 x1 hf) (fun rv w hq => ?_) (fun E w hq => ?_)
  · obtain ⟨q, rfl, rfl, α1, rfl⟩ := hq
    obtain ⟨rfl, rfl⟩ := zAns_r hr
    exact ⟨_, zSame.app (zS_X6 ad (q.2.1, (tF b.1).2.1, (tF b.1).2.2.1, (tF b.1).2.2.2.1, (tF b.1).2.2.2.2.1, (tF b.1).2.2.2.2.2.1, (tF b.1).2.2.2.2.2.2.1, q.2.2.1, q.2.2.2.1, q.2.2.2.2.1, q.2.2.2.2.2.1, q.2.2.2.2.2.2, (tF b.1).2.2.2.2.2.2.2.2.2.2.2.2) (nI (zo o b.2.1.length)) (nI (zk b.2.1.length + 1)) (zRows (zn n (zp o b.2.1.length)) α1) b.2.2.1 (fun _ _ => rfl) g1 g2 g3 g4) zSame.rf, _, rfl, rfl, ad, α1, zo o b.2.1.length, zk b.2.1.length + 1, zn n (zp o b.2.1.length), zkeep o b.2.1.length n σ (tF b.1), g1, g2, g3, g4, rfl, tN_tN _, hH.push hW, rfl⟩
  · obtain ⟨rfl, rfl⟩ := hq
    obtain ⟨rfl, rfl⟩ := zAns_l hr
    exact ⟨_, zSame.rf, rfl, ad, α, o, _, n, σ, g1, g2, g3, g4, rfl, hW, hH, rfl⟩
def s_addAll (b : zOb)  : Option ((String ⊕ Int32) × zOb) := (fX6_addAll (tF b.1).2.2.1 (tF b.1).2.2.2.1 (tF b.1).2.2.2.2.1 (tF b.1).2.2.2.2.2.1 (tF b.1).2.2.2.2.2.2.1 b.2.2.1 (tf b.2.2.2) 0 0 0 0 ).map (zAns b (fun q => (q.1, ((zPush b (tN ((tF b.1).1, (tF b.1).2.1, q.2.1, q.2.2.1, q.2.2.2.1, q.2.2.2.2.1, q.2.2.2.2.2.1, (tF b.1).2.2.2.2.2.2.2.1, (tF b.1).2.2.2.2.2.2.2.2.1, (tF b.1).2.2.2.2.2.2.2.2.2.1, (tF b.1).2.2.2.2.2.2.2.2.2.2.1, (tF b.1).2.2.2.2.2.2.2.2.2.2.2.1, (tF b.1).2.2.2.2.2.2.2.2.2.2.2.2))).1, (zPush b (tN ((tF b.1).1, (tF b.1).2.1, q.2.1, q.2.2.1, q.2.2.2.1, q.2.2.2.2.1, q.2.2.2.2.2.1, (tF b.1).2.2.2.2.2.2.2.1, (tF b.1).2.2.2.2.2.2.2.2.1, (tF b.1).2.2.2.2.2.2.2.2.2.1, (tF b.1).2.2.2.2.2.2.2.2.2.2.1, (tF b.1).2.2.2.2.2.2.2.2.2.2.2.1, (tF b.1).2.2.2.2.2.2.2.2.2.2.2.2))).2.1, q.2.2.2.2.2.2.1, b.2.2.2))))
theorem C_addAll (l : Launch) (hT : l.stackTraces = false) (Δ : zE) {b b' : zOb} {r : String ⊕ Int32}  (h : s_addAll b  = some (r, b')) : zCt l Δ yX6_addAll (.code yX6_addAll cX6_addAll 1 (some .int)) 6 105 13 127 [] b r b' := by
  rintro a ws ⟨ad, α, o, k, n, σ, g1, g2, g3, g4, rfl, hW, ⟨hH1, rfl, hH3⟩, rfl⟩
  have hH : zHl o b.2.1.length n σ b.2.1 := ⟨hH1, rfl, hH3⟩
  have h : (fX6_addAll (tF b.1).2.2.1 (tF b.1).2.2.2.1 (tF b.1).2.2.2.2.1 (tF b.1).2.2.2.2.2.1 (tF b.1).2.2.2.2.2.2.1 b.2.2.1 (tf b.2.2.2) g1 g2 g3 g4).map (zAns b (fun q => (q.1, ((zPush b (tN ((tF b.1).1, (tF b.1).2.1, q.2.1, q.2.2.1, q.2.2.2.1, q.2.2.2.2.1, q.2.2.2.2.2.1, (tF b.1).2.2.2.2.2.2.2.1, (tF b.1).2.2.2.2.2.2.2.2.1, (tF b.1).2.2.2.2.2.2.2.2.2.1, (tF b.1).2.2.2.2.2.2.2.2.2.2.1, (tF b.1).2.2.2.2.2.2.2.2.2.2.2.1, (tF b.1).2.2.2.2.2.2.2.2.2.2.2.2))).1, (zPush b (tN ((tF b.1).1, (tF b.1).2.1, q.2.1, q.2.2.1, q.2.2.2.1, q.2.2.2.2.1, q.2.2.2.2.2.1, (tF b.1).2.2.2.2.2.2.2.1, (tF b.1).2.2.2.2.2.2.2.2.1, (tF b.1).2.2.2.2.2.2.2.2.2.1, (tF b.1).2.2.2.2.2.2.2.2.2.2.1, (tF b.1).2.2.2.2.2.2.2.2.2.2.2.1, (tF b.1).2.2.2.2.2.2.2.2.2.2.2.2))).2.1, q.2.2.2.2.2.2.1, b.2.2.2)))) = some (r, b') := h
  obtain ⟨res, hf, hr⟩ := zmap_ok h
  refine zMX.weak (mX6_addAll l hT Δ ad (tF b.1).1 (tF b.1).2.1 (tF b.1).2.2.1 (tF b.1).2.2.2.1 (tF b.1).2.2.2.2.1 (tF b.1).2.2.2.2.2.1 (tF b.1).2.2.2.2.2.2.1 (tF b.1).2.2.2.2.2.2.2.1 (tF b.1).2.2.2.2.2.2.2.2.1 (tF b.1).2.2.2.2.2.2.2.2.2.1 (tF b.1).2.2.2.2.2.2.2.2.2.2.1 (tF b.1).2.2.2.2.2.2.2.2.2.2.2.1 (tF b.1).2.2.2.2.2.2.2.2.2.2.2.2 b.2.2.1 (tf b.2.2.2) g1 g2 g3 g4 o b.2.1.length n α σ hH.1  hf) (fun rv w hq => ?_) (fun E w hq => ?_)
  · obtain ⟨q, rfl, rfl, α1, rfl⟩ := hq
    obtain ⟨rfl, rfl⟩ := zAns_r hr
    exact ⟨_, zSame.app (zS_X6 ad ((tF b.1).1, (tF b.1).2.1, q.2.1, q.2.2.1, q.2.2.2.1, q.2.2.2.2.1, q.2.2.2.2.2.1, (tF b.1).2.2.2.2.2.2.2.1, (tF b.1).2.2.2.2.2.2.2.2.1, (tF b.1).2.2.2.2.2.2.2.2.2.1, (tF b.1).2.2.2.2.2.2.2.2.2.2.1, (tF b.1).2.2.2.2.2.2.2.2.2.2.2.1, (tF b.1).2.2.2.2.2.2.2.2.2.2.2.2) (nI (zo o b.2.1.length)) (nI (zk b.2.1.length + 1)) (zRows (zn n (zp o b.2.1.length)) α1) q.2.2.2.2.2.2.1 (fun _ _ => rfl) q.2.2.2.2.2.2.2.1 q.2.2.2.2.2.2.2.2.1 q.2.2.2.2.2.2.2.2.2.1 q.2.2.2.2.2.2.2.2.2.2) zSame.rf, _, rfl, rfl, ad, α1, zo o b.2.1.length, zk b.2.1.length + 1, zn n (zp o b.2.1.length), zkeep o b.2.1.length n σ (tF b.1), q.2.2.2.2.2.2.2.1, q.2.2.2.2.2.2.2.2.1, q.2.2.2.2.2.2.2.2.2.1, q.2.2.2.2.2.2.2.2.2.2, rfl, tN_tN _, hH.push hW, rfl⟩
  · obtain ⟨rfl, z1, z2, z3, z4, rfl⟩ := hq
    obtain ⟨rfl, rfl⟩ := zAns_l hr
    exact ⟨_, zSame.rf, rfl, ad, α, o, _, n, σ, z1, z2, z3, z4, rfl, hW, hH, rfl⟩
def s_append (b : zOb) (x1 : Int32) : Option ((String ⊕ Int32) × zOb) := (fX6_append b.2.2.1 (tf b.2.2.2) x1).map (zAns b (fun q => (q.1, (b.1, b.2.1, q.2.1, tl q.2.2 60 0))))
theorem C_append (l : Launch) (hT : l.stackTraces = false) (Δ : zE) {b b' : zOb} {r : String ⊕ Int32} (x1 : Int32) (h : s_append b x1 = some (r, b')) : zCt l Δ yX6_append (.code yX6_append cX6_append 2 (some .int)) 6 90 1 6 [.int x1] b r b' := by
  rintro a ws ⟨ad, α, o, k, n, σ, g1, g2, g3, g4, rfl, hW, ⟨hH1, rfl, hH3⟩, rfl⟩
  have hH : zHl o b.2.1.length n σ b.2.1 := ⟨hH1, rfl, hH3⟩
  obtain ⟨res, hf, hr⟩ := zmap_ok h
  refine zMX.weak (zMX.frame (mX6_append l hT Δ ad (tF b.1).1 (tF b.1).2.1 (tF b.1).2.2.1 (tF b.1).2.2.2.1 (tF b.1).2.2.2.2.1 (tF b.1).2.2.2.2.2.1 (tF b.1).2.2.2.2.2.2.1 (tF b.1).2.2.2.2.2.2.2.1 (tF b.1).2.2.2.2.2.2.2.2.1 (tF b.1).2.2.2.2.2.2.2.2.2.1 (tF b.1).2.2.2.2.2.2.2.2.2.2.1 (tF b.1).2.2.2.2.2.2.2.2.2.2.2.1 (tF b.1).2.2.2.2.2.2.2.2.2.2.2.2 (nI o) (nI b.2.1.length) (zRows n α) b.2.2.1 (tf b.2.2.2) g1 g2 g3 g4 x1 hf) (zPool Δ n α σ)) (fun rv w hq => ?_) (fun E w hq => ?_)
  · obtain ⟨w1, ⟨q, rfl, rfl, rfl⟩, rfl⟩ := hq
    obtain ⟨rfl, rfl⟩ := zAns_r hr
    have hz := zSame.app (zS_X6 (Δ := Δ) ad (tF b.1) (nI o) (nI b.2.1.length) (zRows n α) q.2.1 (codes := q.2.2) (codes' := tf (tl q.2.2 60 0)) (fun _ h => tf_tl h) g1 g2 g3 g4) (zSame.rf (Δ := Δ) (w := zPool Δ n α σ))
    rw [hW] at hz
    exact ⟨_, hz, _, rfl, rfl, ad, α, o, _, n, σ, g1, g2, g3, g4, rfl, hW, hH, rfl⟩
  · obtain ⟨w1, ⟨rfl, rfl⟩, rfl⟩ := hq
    obtain ⟨rfl, rfl⟩ := zAns_l hr
    exact ⟨_, zSame.rf, rfl, ad, α, o, _, n, σ, g1, g2, g3, g4, rfl, hW, hH, rfl⟩
def s_part (b : zOb) (x1 : Int32) (x2 : Int32) : Option ((String ⊕ Int32) × zOb) := (fX6_part (tF b.1).2.2.1 (tF b.1).2.2.2.1 (tF b.1).2.2.2.2.1 (tF b.1).2.2.2.2.2.1 (tF b.1).2.2.2.2.2.2.1 (tF b.1).2.2.2.2.2.2.2.2.1 x1 x2).map (zAns b (fun q => (q, b)))
theorem C_part (l : Launch) (hT : l.stackTraces = false) (Δ : zE) {b b' : zOb} {r : String ⊕ Int32} (x1 : Int32) (x2 : Int32) (h : s_part b x1 x2 = some (r, b')) : zCt l Δ yX6_part (.code yX6_part cX6_part 3 (some .int)) 7 111 2 12 [.int x1, .int x2] b r b' := by
  rintro a ws ⟨ad, α, o, k, n, σ, g1, g2, g3, g4, rfl, hW, ⟨hH1, rfl, hH3⟩, rfl⟩
  have hH : zHl o b.2.1.length n σ b.2.1 := ⟨hH1, rfl, hH3⟩
  obtain ⟨res, hf, hr⟩ := zmap_ok h
  refine zMX.weak (zMX.frame (mX6_part l hT Δ ad (tF b.1).1 (tF b.1).2.1 (tF b.1).2.2.1 (tF b.1).2.2.2.1 (tF b.1).2.2.2.2.1 (tF b.1).2.2.2.2.2.1 (tF b.1).2.2.2.2.2.2.1 (tF b.1).2.2.2.2.2.2.2.1 (tF b.1).2.2.2.2.2.2.2.2.1 (tF b.1).2.2.2.2.2.2.2.2.2.1 (tF b.1).2.2.2.2.2.2.2.2.2.2.1 (tF b.1).2.2.2.2.2.2.2.2.2.2.2.1 (tF b.1).2.2.2.2.2.2.2.2.2.2.2.2 (nI o) (nI b.2.1.length) (zRows n α) b.2.2.1 (tf b.2.2.2) g1 g2 g3 g4 x1 x2 hf) (zPool Δ n α σ)) (fun rv w hq => ?_) (fun E w hq => ?_)
  · obtain ⟨w1, ⟨q, rfl, rfl, rfl⟩, rfl⟩ := hq
    obtain ⟨rfl, rfl⟩ := zAns_r hr
    exact ⟨_, zSame.rf, _, rfl, rfl, ad, α, o, _, n, σ, g1, g2, g3, g4, rfl, hW, hH, rfl⟩
  · obtain ⟨w1, ⟨rfl, rfl⟩, rfl⟩ := hq
    obtain ⟨rfl, rfl⟩ := zAns_l hr
    exact ⟨_, zSame.rf, rfl, ad, α, o, _, n, σ, g1, g2, g3, g4, rfl, hW, hH, rfl⟩
def s_knows (b : zOb) (x1 : Int32) (x2 : Int32) : Option ((String ⊕ Int32) × zOb) := (fX6_knows (tF b.1).2.2.1 (tF b.1).2.2.2.2.2.2.2.1 (tF b.1).2.2.2.2.2.2.2.2.1 x1 x2).map (zAns b (fun q => (q, b)))
theorem C_knows (l : Launch) (hT : l.stackTraces = false) (Δ : zE) {b b' : zOb} {r : String ⊕ Int32} (x1 : Int32) (x2 : Int32) (h : s_knows b x1 x2 = some (r, b')) : zCt l Δ yX6_knows (.code yX6_knows cX6_knows 3 (some .int)) 7 111 2 12 [.int x1, .int x2] b r b' := by
  rintro a ws ⟨ad, α, o, k, n, σ, g1, g2, g3, g4, rfl, hW, ⟨hH1, rfl, hH3⟩, rfl⟩
  have hH : zHl o b.2.1.length n σ b.2.1 := ⟨hH1, rfl, hH3⟩
  obtain ⟨res, hf, hr⟩ := zmap_ok h
  refine zMX.weak (zMX.frame (mX6_knows l hT Δ ad (tF b.1).1 (tF b.1).2.1 (tF b.1).2.2.1 (tF b.1).2.2.2.1 (tF b.1).2.2.2.2.1 (tF b.1).2.2.2.2.2.1 (tF b.1).2.2.2.2.2.2.1 (tF b.1).2.2.2.2.2.2.2.1 (tF b.1).2.2.2.2.2.2.2.2.1 (tF b.1).2.2.2.2.2.2.2.2.2.1 (tF b.1).2.2.2.2.2.2.2.2.2.2.1 (tF b.1).2.2.2.2.2.2.2.2.2.2.2.1 (tF b.1).2.2.2.2.2.2.2.2.2.2.2.2 (nI o) (nI b.2.1.length) (zRows n α) b.2.2.1 (tf b.2.2.2) g1 g2 g3 g4 x1 x2 hf) (zPool Δ n α σ)) (fun rv w hq => ?_) (fun E w hq => ?_)
  · obtain ⟨w1, ⟨q, rfl, rfl, rfl⟩, rfl⟩ := hq
    obtain ⟨rfl, rfl⟩ := zAns_r hr
    exact ⟨_, zSame.rf, _, rfl, rfl, ad, α, o, _, n, σ, g1, g2, g3, g4, rfl, hW, hH, rfl⟩
  · obtain ⟨w1, ⟨rfl, rfl⟩, rfl⟩ := hq
    obtain ⟨rfl, rfl⟩ := zAns_l hr
    exact ⟨_, zSame.rf, rfl, ad, α, o, _, n, σ, g1, g2, g3, g4, rfl, hW, hH, rfl⟩
def s_reader (b : zOb) (x1 : Int32) (x2 : Int32) : Option ((String ⊕ Int32) × zOb) := (fX6_reader (tF b.1).2.2.1 (tF b.1).2.2.2.1 (tF b.1).2.2.2.2.1 (tF b.1).2.2.2.2.2.2.2.1 (tF b.1).2.2.2.2.2.2.2.2.1 (tF b.1).2.2.2.2.2.2.2.2.2.1 (tF b.1).2.2.2.2.2.2.2.2.2.2.1 (tF b.1).2.2.2.2.2.2.2.2.2.2.2.1 x1 x2).map (zAns b (fun q => (q, b)))
theorem C_reader (l : Launch) (hT : l.stackTraces = false) (Δ : zE) {b b' : zOb} {r : String ⊕ Int32} (x1 : Int32) (x2 : Int32) (h : s_reader b x1 x2 = some (r, b')) : zCt l Δ yX6_reader (.code yX6_reader cX6_reader 3 (some .int)) 7 111 2 12 [.int x1, .int x2] b r b' := by
  rintro a ws ⟨ad, α, o, k, n, σ, g1, g2, g3, g4, rfl, hW, ⟨hH1, rfl, hH3⟩, rfl⟩
  have hH : zHl o b.2.1.length n σ b.2.1 := ⟨hH1, rfl, hH3⟩
  obtain ⟨res, hf, hr⟩ := zmap_ok h
  refine zMX.weak (zMX.frame (mX6_reader l hT Δ ad (tF b.1).1 (tF b.1).2.1 (tF b.1).2.2.1 (tF b.1).2.2.2.1 (tF b.1).2.2.2.2.1 (tF b.1).2.2.2.2.2.1 (tF b.1).2.2.2.2.2.2.1 (tF b.1).2.2.2.2.2.2.2.1 (tF b.1).2.2.2.2.2.2.2.2.1 (tF b.1).2.2.2.2.2.2.2.2.2.1 (tF b.1).2.2.2.2.2.2.2.2.2.2.1 (tF b.1).2.2.2.2.2.2.2.2.2.2.2.1 (tF b.1).2.2.2.2.2.2.2.2.2.2.2.2 (nI o) (nI b.2.1.length) (zRows n α) b.2.2.1 (tf b.2.2.2) g1 g2 g3 g4 x1 x2 hf) (zPool Δ n α σ)) (fun rv w hq => ?_) (fun E w hq => ?_)
  · obtain ⟨w1, ⟨q, rfl, rfl, rfl⟩, rfl⟩ := hq
    obtain ⟨rfl, rfl⟩ := zAns_r hr
    exact ⟨_, zSame.rf, _, rfl, rfl, ad, α, o, _, n, σ, g1, g2, g3, g4, rfl, hW, hH, rfl⟩
  · obtain ⟨w1, ⟨rfl, rfl⟩, rfl⟩ := hq
    obtain ⟨rfl, rfl⟩ := zAns_l hr
    exact ⟨_, zSame.rf, rfl, ad, α, o, _, n, σ, g1, g2, g3, g4, rfl, hW, hH, rfl⟩
def s_plot (b : zOb) (x1 : Int32) (x2 : Int32) : Option ((String ⊕ Int32) × zOb) := (fX6_plot (tF b.1).2.2.1 (tF b.1).2.2.2.1 (tF b.1).2.2.2.2.1 (tF b.1).2.2.2.2.2.2.2.1 (tF b.1).2.2.2.2.2.2.2.2.1 x1 x2).map (zAns b (fun q => (q, b)))
theorem C_plot (l : Launch) (hT : l.stackTraces = false) (Δ : zE) {b b' : zOb} {r : String ⊕ Int32} (x1 : Int32) (x2 : Int32) (h : s_plot b x1 x2 = some (r, b')) : zCt l Δ yX6_plot (.code yX6_plot cX6_plot 3 (some .int)) 7 111 1 6 [.int x1, .int x2] b r b' := by
  rintro a ws ⟨ad, α, o, k, n, σ, g1, g2, g3, g4, rfl, hW, ⟨hH1, rfl, hH3⟩, rfl⟩
  have hH : zHl o b.2.1.length n σ b.2.1 := ⟨hH1, rfl, hH3⟩
  obtain ⟨res, hf, hr⟩ := zmap_ok h
  refine zMX.weak (zMX.frame (mX6_plot l hT Δ ad (tF b.1).1 (tF b.1).2.1 (tF b.1).2.2.1 (tF b.1).2.2.2.1 (tF b.1).2.2.2.2.1 (tF b.1).2.2.2.2.2.1 (tF b.1).2.2.2.2.2.2.1 (tF b.1).2.2.2.2.2.2.2.1 (tF b.1).2.2.2.2.2.2.2.2.1 (tF b.1).2.2.2.2.2.2.2.2.2.1 (tF b.1).2.2.2.2.2.2.2.2.2.2.1 (tF b.1).2.2.2.2.2.2.2.2.2.2.2.1 (tF b.1).2.2.2.2.2.2.2.2.2.2.2.2 (nI o) (nI b.2.1.length) (zRows n α) b.2.2.1 (tf b.2.2.2) g1 g2 g3 g4 x1 x2 hf) (zPool Δ n α σ)) (fun rv w hq => ?_) (fun E w hq => ?_)
  · obtain ⟨w1, ⟨q, rfl, rfl, rfl⟩, rfl⟩ := hq
    obtain ⟨rfl, rfl⟩ := zAns_r hr
    exact ⟨_, zSame.rf, _, rfl, rfl, ad, α, o, _, n, σ, g1, g2, g3, g4, rfl, hW, hH, rfl⟩
  · obtain ⟨w1, ⟨rfl, rfl⟩, rfl⟩ := hq
    obtain ⟨rfl, rfl⟩ := zAns_l hr
    exact ⟨_, zSame.rf, rfl, ad, α, o, _, n, σ, g1, g2, g3, g4, rfl, hW, hH, rfl⟩
def s_count (b : zOb) (x1 : Int32) : Option ((String ⊕ Int32) × zOb) := (fX6_count (tF b.1).1 (tF b.1).2.1 (tF b.1).2.2.1 (tF b.1).2.2.2.2.2.1 (tF b.1).2.2.2.2.2.2.2.1 (tF b.1).2.2.2.2.2.2.2.2.1 (tF b.1).2.2.2.2.2.2.2.2.2.1 (nI b.2.1.length) x1).map (zAns b (fun q => (q, b)))
theorem C_count (l : Launch) (hT : l.stackTraces = false) (Δ : zE) {b b' : zOb} {r : String ⊕ Int32} (x1 : Int32) (h : s_count b x1 = some (r, b')) : zCt l Δ yX6_count (.code yX6_count cX6_count 2 (some .int)) 7 111 1 6 [.int x1] b r b' := by
  rintro a ws ⟨ad, α, o, k, n, σ, g1, g2, g3, g4, rfl, hW, ⟨hH1, rfl, hH3⟩, rfl⟩
  have hH : zHl o b.2.1.length n σ b.2.1 := ⟨hH1, rfl, hH3⟩
  obtain ⟨res, hf, hr⟩ := zmap_ok h
  refine zMX.weak (zMX.frame (mX6_count l hT Δ ad (tF b.1).1 (tF b.1).2.1 (tF b.1).2.2.1 (tF b.1).2.2.2.1 (tF b.1).2.2.2.2.1 (tF b.1).2.2.2.2.2.1 (tF b.1).2.2.2.2.2.2.1 (tF b.1).2.2.2.2.2.2.2.1 (tF b.1).2.2.2.2.2.2.2.2.1 (tF b.1).2.2.2.2.2.2.2.2.2.1 (tF b.1).2.2.2.2.2.2.2.2.2.2.1 (tF b.1).2.2.2.2.2.2.2.2.2.2.2.1 (tF b.1).2.2.2.2.2.2.2.2.2.2.2.2 (nI o) (nI b.2.1.length) (zRows n α) b.2.2.1 (tf b.2.2.2) g1 g2 g3 g4 x1 hf) (zPool Δ n α σ)) (fun rv w hq => ?_) (fun E w hq => ?_)
  · obtain ⟨w1, ⟨q, rfl, rfl, rfl⟩, rfl⟩ := hq
    obtain ⟨rfl, rfl⟩ := zAns_r hr
    exact ⟨_, zSame.rf, _, rfl, rfl, ad, α, o, _, n, σ, g1, g2, g3, g4, rfl, hW, hH, rfl⟩
  · obtain ⟨w1, ⟨rfl, rfl⟩, rfl⟩ := hq
    obtain ⟨rfl, rfl⟩ := zAns_l hr
    exact ⟨_, zSame.rf, rfl, ad, α, o, _, n, σ, g1, g2, g3, g4, rfl, hW, hH, rfl⟩
def s_setting (b : zOb) (x1 : Int32) : Option ((String ⊕ Int32) × zOb) := (fX6_setting (tF b.1).2.2.2.2.2.2.2.2.2.2.2.2 x1).map (zAns b (fun q => (q, b)))
theorem C_setting (l : Launch) (hT : l.stackTraces = false) (Δ : zE) {b b' : zOb} {r : String ⊕ Int32} (x1 : Int32) (h : s_setting b x1 = some (r, b')) : zCt l Δ yX6_setting (.code yX6_setting cX6_setting 2 (some .int)) 7 110 1 6 [.int x1] b r b' := by
  rintro a ws ⟨ad, α, o, k, n, σ, g1, g2, g3, g4, rfl, hW, ⟨hH1, rfl, hH3⟩, rfl⟩
  have hH : zHl o b.2.1.length n σ b.2.1 := ⟨hH1, rfl, hH3⟩
  obtain ⟨res, hf, hr⟩ := zmap_ok h
  refine zMX.weak (zMX.frame (mX6_setting l hT Δ ad (tF b.1).1 (tF b.1).2.1 (tF b.1).2.2.1 (tF b.1).2.2.2.1 (tF b.1).2.2.2.2.1 (tF b.1).2.2.2.2.2.1 (tF b.1).2.2.2.2.2.2.1 (tF b.1).2.2.2.2.2.2.2.1 (tF b.1).2.2.2.2.2.2.2.2.1 (tF b.1).2.2.2.2.2.2.2.2.2.1 (tF b.1).2.2.2.2.2.2.2.2.2.2.1 (tF b.1).2.2.2.2.2.2.2.2.2.2.2.1 (tF b.1).2.2.2.2.2.2.2.2.2.2.2.2 (nI o) (nI b.2.1.length) (zRows n α) b.2.2.1 (tf b.2.2.2) g1 g2 g3 g4 x1 hf) (zPool Δ n α σ)) (fun rv w hq => ?_) (fun E w hq => ?_)
  · obtain ⟨w1, ⟨q, rfl, rfl, rfl⟩, rfl⟩ := hq
    obtain ⟨rfl, rfl⟩ := zAns_r hr
    exact ⟨_, zSame.rf, _, rfl, rfl, ad, α, o, _, n, σ, g1, g2, g3, g4, rfl, hW, hH, rfl⟩
  · obtain ⟨w1, ⟨rfl, rfl⟩, rfl⟩ := hq
    obtain ⟨rfl, rfl⟩ := zAns_l hr
    exact ⟨_, zSame.rf, rfl, ad, α, o, _, n, σ, g1, g2, g3, g4, rfl, hW, hH, rfl⟩
def s_recap (b : zOb) (x1 : Int32) (x2 : Int32) (x3 : Int32) : Option ((String ⊕ Int32) × zOb) := (fX6_recap (tF b.1).2.2.1 (tF b.1).2.2.2.2.2.1 (tF b.1).2.2.2.2.2.2.1 (tF b.1).2.2.2.2.2.2.2.1 (tF b.1).2.2.2.2.2.2.2.2.1 (tF b.1).2.2.2.2.2.2.2.2.2.2.2.2 x1 x2 x3).map (zAns b (fun q => (q, b)))
theorem C_recap (l : Launch) (hT : l.stackTraces = false) (Δ : zE) {b b' : zOb} {r : String ⊕ Int32} (x1 : Int32) (x2 : Int32) (x3 : Int32) (h : s_recap b x1 x2 x3 = some (r, b')) : zCt l Δ yX6_recap (.code yX6_recap cX6_recap 4 (some .int)) 7 111 3 18 [.int x1, .int x2, .int x3] b r b' := by
  rintro a ws ⟨ad, α, o, k, n, σ, g1, g2, g3, g4, rfl, hW, ⟨hH1, rfl, hH3⟩, rfl⟩
  have hH : zHl o b.2.1.length n σ b.2.1 := ⟨hH1, rfl, hH3⟩
  obtain ⟨res, hf, hr⟩ := zmap_ok h
  refine zMX.weak (zMX.frame (mX6_recap l hT Δ ad (tF b.1).1 (tF b.1).2.1 (tF b.1).2.2.1 (tF b.1).2.2.2.1 (tF b.1).2.2.2.2.1 (tF b.1).2.2.2.2.2.1 (tF b.1).2.2.2.2.2.2.1 (tF b.1).2.2.2.2.2.2.2.1 (tF b.1).2.2.2.2.2.2.2.2.1 (tF b.1).2.2.2.2.2.2.2.2.2.1 (tF b.1).2.2.2.2.2.2.2.2.2.2.1 (tF b.1).2.2.2.2.2.2.2.2.2.2.2.1 (tF b.1).2.2.2.2.2.2.2.2.2.2.2.2 (nI o) (nI b.2.1.length) (zRows n α) b.2.2.1 (tf b.2.2.2) g1 g2 g3 g4 x1 x2 x3 hf) (zPool Δ n α σ)) (fun rv w hq => ?_) (fun E w hq => ?_)
  · obtain ⟨w1, ⟨q, rfl, rfl, rfl⟩, rfl⟩ := hq
    obtain ⟨rfl, rfl⟩ := zAns_r hr
    exact ⟨_, zSame.rf, _, rfl, rfl, ad, α, o, _, n, σ, g1, g2, g3, g4, rfl, hW, hH, rfl⟩
  · obtain ⟨w1, ⟨rfl, rfl⟩, rfl⟩ := hq
    obtain ⟨rfl, rfl⟩ := zAns_l hr
    exact ⟨_, zSame.rf, rfl, ad, α, o, _, n, σ, g1, g2, g3, g4, rfl, hW, hH, rfl⟩
def s_easiest (b : zOb) (x1 : Int32) : Option ((String ⊕ Int32) × zOb) := (fX6_easiest (tF b.1).2.2.1 (tF b.1).2.2.2.2.2.1 (tF b.1).2.2.2.2.2.2.1 (tF b.1).2.2.2.2.2.2.2.1 (tF b.1).2.2.2.2.2.2.2.2.1 (tF b.1).2.2.2.2.2.2.2.2.2.2.2.2 x1).map (zAns b (fun q => (q, b)))
theorem C_easiest (l : Launch) (hT : l.stackTraces = false) (Δ : zE) {b b' : zOb} {r : String ⊕ Int32} (x1 : Int32) (h : s_easiest b x1 = some (r, b')) : zCt l Δ yX6_easiest (.code yX6_easiest cX6_easiest 2 (some .int)) 7 120 1 6 [.int x1] b r b' := by
  rintro a ws ⟨ad, α, o, k, n, σ, g1, g2, g3, g4, rfl, hW, ⟨hH1, rfl, hH3⟩, rfl⟩
  have hH : zHl o b.2.1.length n σ b.2.1 := ⟨hH1, rfl, hH3⟩
  obtain ⟨res, hf, hr⟩ := zmap_ok h
  refine zMX.weak (zMX.frame (mX6_easiest l hT Δ ad (tF b.1).1 (tF b.1).2.1 (tF b.1).2.2.1 (tF b.1).2.2.2.1 (tF b.1).2.2.2.2.1 (tF b.1).2.2.2.2.2.1 (tF b.1).2.2.2.2.2.2.1 (tF b.1).2.2.2.2.2.2.2.1 (tF b.1).2.2.2.2.2.2.2.2.1 (tF b.1).2.2.2.2.2.2.2.2.2.1 (tF b.1).2.2.2.2.2.2.2.2.2.2.1 (tF b.1).2.2.2.2.2.2.2.2.2.2.2.1 (tF b.1).2.2.2.2.2.2.2.2.2.2.2.2 (nI o) (nI b.2.1.length) (zRows n α) b.2.2.1 (tf b.2.2.2) g1 g2 g3 g4 x1 hf) (zPool Δ n α σ)) (fun rv w hq => ?_) (fun E w hq => ?_)
  · obtain ⟨w1, ⟨q, rfl, rfl, rfl⟩, rfl⟩ := hq
    obtain ⟨rfl, rfl⟩ := zAns_r hr
    exact ⟨_, zSame.rf, _, rfl, rfl, ad, α, o, _, n, σ, g1, g2, g3, g4, rfl, hW, hH, rfl⟩
  · obtain ⟨w1, ⟨rfl, rfl⟩, rfl⟩ := hq
    obtain ⟨rfl, rfl⟩ := zAns_l hr
    exact ⟨_, zSame.rf, rfl, ad, α, o, _, n, σ, g1, g2, g3, g4, rfl, hW, hH, rfl⟩
def s_enough (b : zOb) (x1 : Int32) : Option ((String ⊕ Int32) × zOb) := (fX6_enough (tF b.1).2.2.1 (tF b.1).2.2.2.2.2.2.1 (tF b.1).2.2.2.2.2.2.2.1 (tF b.1).2.2.2.2.2.2.2.2.1 x1).map (zAns b (fun q => (q, b)))
theorem C_enough (l : Launch) (hT : l.stackTraces = false) (Δ : zE) {b b' : zOb} {r : String ⊕ Int32} (x1 : Int32) (h : s_enough b x1 = some (r, b')) : zCt l Δ yX6_enough (.code yX6_enough cX6_enough 2 (some .int)) 7 110 1 6 [.int x1] b r b' := by
  rintro a ws ⟨ad, α, o, k, n, σ, g1, g2, g3, g4, rfl, hW, ⟨hH1, rfl, hH3⟩, rfl⟩
  have hH : zHl o b.2.1.length n σ b.2.1 := ⟨hH1, rfl, hH3⟩
  obtain ⟨res, hf, hr⟩ := zmap_ok h
  refine zMX.weak (zMX.frame (mX6_enough l hT Δ ad (tF b.1).1 (tF b.1).2.1 (tF b.1).2.2.1 (tF b.1).2.2.2.1 (tF b.1).2.2.2.2.1 (tF b.1).2.2.2.2.2.1 (tF b.1).2.2.2.2.2.2.1 (tF b.1).2.2.2.2.2.2.2.1 (tF b.1).2.2.2.2.2.2.2.2.1 (tF b.1).2.2.2.2.2.2.2.2.2.1 (tF b.1).2.2.2.2.2.2.2.2.2.2.1 (tF b.1).2.2.2.2.2.2.2.2.2.2.2.1 (tF b.1).2.2.2.2.2.2.2.2.2.2.2.2 (nI o) (nI b.2.1.length) (zRows n α) b.2.2.1 (tf b.2.2.2) g1 g2 g3 g4 x1 hf) (zPool Δ n α σ)) (fun rv w hq => ?_) (fun E w hq => ?_)
  · obtain ⟨w1, ⟨q, rfl, rfl, rfl⟩, rfl⟩ := hq
    obtain ⟨rfl, rfl⟩ := zAns_r hr
    exact ⟨_, zSame.rf, _, rfl, rfl, ad, α, o, _, n, σ, g1, g2, g3, g4, rfl, hW, hH, rfl⟩
  · obtain ⟨w1, ⟨rfl, rfl⟩, rfl⟩ := hq
    obtain ⟨rfl, rfl⟩ := zAns_l hr
    exact ⟨_, zSame.rf, rfl, ad, α, o, _, n, σ, g1, g2, g3, g4, rfl, hW, hH, rfl⟩
def s_clearBuffer (b : zOb)  : Option ((String ⊕ Int32) × zOb) := (fX6_clearBuffer b.2.2.1 ).map (fun q => (.inr q.1, (b.1, b.2.1, q.2, b.2.2.2)))
theorem C_clearBuffer (l : Launch) (hT : l.stackTraces = false) (Δ : zE) {b b' : zOb} {r : String ⊕ Int32}  (h : s_clearBuffer b  = some (r, b')) : zCt l Δ yX6_clearBuffer (.code yX6_clearBuffer cX6_clearBuffer 2 (some .int)) 0 0 0 0 [] b r b' := by
  rintro a ws ⟨ad, α, o, k, n, σ, g1, g2, g3, g4, rfl, hW, ⟨hH1, rfl, hH3⟩, rfl⟩
  have hH : zHl o b.2.1.length n σ b.2.1 := ⟨hH1, rfl, hH3⟩
  obtain ⟨res, hf, hr⟩ := zmap_ok h
  refine zMX.weak (zMX.frame ((mX6_clearBuffer l Δ ad (tF b.1).1 (tF b.1).2.1 (tF b.1).2.2.1 (tF b.1).2.2.2.1 (tF b.1).2.2.2.2.1 (tF b.1).2.2.2.2.2.1 (tF b.1).2.2.2.2.2.2.1 (tF b.1).2.2.2.2.2.2.2.1 (tF b.1).2.2.2.2.2.2.2.2.1 (tF b.1).2.2.2.2.2.2.2.2.2.1 (tF b.1).2.2.2.2.2.2.2.2.2.2.1 (tF b.1).2.2.2.2.2.2.2.2.2.2.2.1 (tF b.1).2.2.2.2.2.2.2.2.2.2.2.2 (nI o) (nI b.2.1.length) (zRows n α) b.2.2.1 (tf b.2.2.2) g1 g2 g3 g4  hf).toX rfl) (zPool Δ n α σ)) (fun rv w hq => ?_) (fun E w hq => ?_)
  · obtain ⟨w1, ⟨rfl, rfl⟩, rfl⟩ := hq
    cases hr
    exact ⟨_, zSame.rf, _, rfl, rfl, ad, α, o, _, n, σ, g1, g2, g3, g4, rfl, hW, hH, rfl⟩
  · obtain ⟨w1, hq, -⟩ := hq
    exact hq.elim
def s_firstError (b : zOb)  : Option ((String ⊕ Int32) × zOb) := (fX6_firstError b.2.2.1 (tf b.2.2.2) 0 0 0 0 ).map (fun q => (.inr q.1, b))
theorem C_firstError (l : Launch) (hT : l.stackTraces = false) (Δ : zE) {b b' : zOb} {r : String ⊕ Int32}  (h : s_firstError b  = some (r, b')) : zCt l Δ yX6_firstError (.code yX6_firstError cX6_firstError 1 (some .int)) 4 85 0 0 [] b r b' := by
  rintro a ws ⟨ad, α, o, k, n, σ, g1, g2, g3, g4, rfl, hW, ⟨hH1, rfl, hH3⟩, rfl⟩
  have hH : zHl o b.2.1.length n σ b.2.1 := ⟨hH1, rfl, hH3⟩
  have h : (fX6_firstError b.2.2.1 (tf b.2.2.2) g1 g2 g3 g4).map (fun q => ((.inr q.1, b) : (String ⊕ Int32) × zOb)) = some (r, b') := h
  obtain ⟨res, hf, hr⟩ := zmap_ok h
  refine zMX.weak (zMX.frame ((mX6_firstError l Δ ad (tF b.1).1 (tF b.1).2.1 (tF b.1).2.2.1 (tF b.1).2.2.2.1 (tF b.1).2.2.2.2.1 (tF b.1).2.2.2.2.2.1 (tF b.1).2.2.2.2.2.2.1 (tF b.1).2.2.2.2.2.2.2.1 (tF b.1).2.2.2.2.2.2.2.2.1 (tF b.1).2.2.2.2.2.2.2.2.2.1 (tF b.1).2.2.2.2.2.2.2.2.2.2.1 (tF b.1).2.2.2.2.2.2.2.2.2.2.2.1 (tF b.1).2.2.2.2.2.2.2.2.2.2.2.2 (nI o) (nI b.2.1.length) (zRows n α) b.2.2.1 (tf b.2.2.2) g1 g2 g3 g4  hf).toX rfl) (zPool Δ n α σ)) (fun rv w hq => ?_) (fun E w hq => ?_)
  · obtain ⟨w1, ⟨rfl, rfl⟩, rfl⟩ := hq
    cases hr
    exact ⟨_, zSame.rf, _, rfl, rfl, ad, α, o, _, n, σ, res.2.1, res.2.2.1, res.2.2.2.1, res.2.2.2.2, rfl, hW, hH, rfl⟩
  · obtain ⟨w1, hq, -⟩ := hq
    exact hq.elim
def s_undo (b : zOb) : Option ((String ⊕ Int32) × zOb) := some (match b.2.1 with
  | [] => (.inl "java/lang/IllegalStateException", b)
  | t :: hs => (.inr (nI hs.length), (t, hs, b.2.2)))
theorem C_undo (l : Launch) (hT : l.stackTraces = false) (Δ : zE) {b b' : zOb} {r : String ⊕ Int32} (h : s_undo b = some (r, b')) : zCt l Δ yX6_undo (.code yX6_undo cX6_undo 2 (some .int)) 6 90 1 6 [] b r b' := by
  rintro a ws ⟨ad, α, o, k, n, σ, g1, g2, g3, g4, rfl, hW, hH, rfl⟩
  refine zMX.weak (mX6_undo l hT Δ ad (tF b.1).1 (tF b.1).2.1 (tF b.1).2.2.1 (tF b.1).2.2.2.1 (tF b.1).2.2.2.2.1 (tF b.1).2.2.2.2.2.1 (tF b.1).2.2.2.2.2.2.1 (tF b.1).2.2.2.2.2.2.2.1 (tF b.1).2.2.2.2.2.2.2.2.1 (tF b.1).2.2.2.2.2.2.2.2.2.1 (tF b.1).2.2.2.2.2.2.2.2.2.2.1 (tF b.1).2.2.2.2.2.2.2.2.2.2.2.1 (tF b.1).2.2.2.2.2.2.2.2.2.2.2.2 b.2.2.1 (tf b.2.2.2) g1 g2 g3 g4 o k n α σ hH.1) (fun rv w hq => ?_) (fun E w hq => ?_)
  · obtain ⟨hk, rfl, rfl⟩ := hq
    obtain ⟨c, hs, len, codes⟩ := b
    cases hs with
    | nil => exact absurd hH.2.1.symm hk
    | cons u hs =>
      obtain ⟨-, hl, hu, hp⟩ := hH.pop
      cases h
      have e : tN (zcp (tF c) (σ (zl o k))) = u := (tN_zcp _ _).trans hu.symm
      have hz := zSame.app (zS_X6 (Δ := Δ) ad (zcp (tF c) (σ (zl o k))) (nI o) (nI (k - 1)) (zRows n α) len (codes := tf codes) (fun _ _ => rfl) g1 g2 g3 g4) (zSame.rf (Δ := Δ) (w := zPool Δ n α σ))
      rw [e] at hz
      exact ⟨_, hz, _, rfl, congrArg (fun z => some (Value.int (nI z))) hl, ad, α, o, k - 1, n, σ, g1, g2, g3, g4, rfl, (by rw [hu, tN_tN]), hp, rfl⟩
  · obtain ⟨rfl, rfl, rfl⟩ := hq
    obtain ⟨c, hs, len, codes⟩ := b
    obtain rfl := List.length_eq_zero_iff.mp hH.2.1
    cases h
    exact ⟨_, zSame.rf, rfl, ad, α, o, 0, n, σ, g1, g2, g3, g4, rfl, hW, hH, rfl⟩
theorem C_digest (l : Launch) (hT : l.stackTraces = false) (Δ : zE) {b : zOb} {v : Int64} (h : fX6_digest (tF b.1).1 (tF b.1).2.1 (tF b.1).2.2.1 (tF b.1).2.2.2.1 (tF b.1).2.2.2.2.1 (tF b.1).2.2.2.2.2.1 (tF b.1).2.2.2.2.2.2.1 (tF b.1).2.2.2.2.2.2.2.1 (tF b.1).2.2.2.2.2.2.2.2.1 (tF b.1).2.2.2.2.2.2.2.2.2.1 (tF b.1).2.2.2.2.2.2.2.2.2.2.1 (tF b.1).2.2.2.2.2.2.2.2.2.2.2.1 (tF b.1).2.2.2.2.2.2.2.2.2.2.2.2 (nI b.2.1.length) b.2.2.1 (tf b.2.2.2) = some v) (a : Nat) (ws : va_W) (hw : wOb Δ a b ws) : zMX l Δ yX6_digest (.code yX6_digest cX6_digest 4 (some .long)) 6 146 0 0 [.ref a] ws (fun rv w => rv = some (.long v) ∧ wOb Δ a b w) (fun _ _ => False) := by
  obtain ⟨ad, α, o, k, n, σ, g1, g2, g3, g4, rfl, hW, ⟨hH1, rfl, hH3⟩, rfl⟩ := hw
  have hH : zHl o b.2.1.length n σ b.2.1 := ⟨hH1, rfl, hH3⟩
  refine zMX.weak (zMX.frame ((mX6_digest l Δ ad (tF b.1).1 (tF b.1).2.1 (tF b.1).2.2.1 (tF b.1).2.2.2.1 (tF b.1).2.2.2.2.1 (tF b.1).2.2.2.2.2.1 (tF b.1).2.2.2.2.2.2.1 (tF b.1).2.2.2.2.2.2.2.1 (tF b.1).2.2.2.2.2.2.2.2.1 (tF b.1).2.2.2.2.2.2.2.2.2.1 (tF b.1).2.2.2.2.2.2.2.2.2.2.1 (tF b.1).2.2.2.2.2.2.2.2.2.2.2.1 (tF b.1).2.2.2.2.2.2.2.2.2.2.2.2 (nI o) (nI b.2.1.length) (zRows n α) b.2.2.1 (tf b.2.2.2) g1 g2 g3 g4 h).toX rfl) (zPool Δ n α σ)) (fun rv w hq => ?_) (fun E w hq => ?_)
  · obtain ⟨w1, ⟨rfl, rfl⟩, rfl⟩ := hq
    exact ⟨_, zSame.rf, rfl, ad, α, o, _, n, σ, g1, g2, g3, g4, rfl, hW, hH, rfl⟩
  · obtain ⟨w1, hq, -⟩ := hq
    exact hq.elim
theorem C_readShare (l : Launch) (hT : l.stackTraces = false) (Δ : zE) {b : zOb} {v : UInt64} (h : fX6_readShare (tF b.1).2.2.1 (tF b.1).2.2.2.2.2.2.2.2.1 = some v) (a : Nat) (ws : va_W) (hw : wOb Δ a b ws) : zMX l Δ yX6_readShare (.code yX6_readShare cX6_readShare 1 (some .double)) 3 62 0 0 [.ref a] ws (fun rv w => rv = some (.double v) ∧ wOb Δ a b w) (fun _ _ => False) := by
  obtain ⟨ad, α, o, k, n, σ, g1, g2, g3, g4, rfl, hW, ⟨hH1, rfl, hH3⟩, rfl⟩ := hw
  have hH : zHl o b.2.1.length n σ b.2.1 := ⟨hH1, rfl, hH3⟩
  refine zMX.weak (zMX.frame ((mX6_readShare l Δ ad (tF b.1).1 (tF b.1).2.1 (tF b.1).2.2.1 (tF b.1).2.2.2.1 (tF b.1).2.2.2.2.1 (tF b.1).2.2.2.2.2.1 (tF b.1).2.2.2.2.2.2.1 (tF b.1).2.2.2.2.2.2.2.1 (tF b.1).2.2.2.2.2.2.2.2.1 (tF b.1).2.2.2.2.2.2.2.2.2.1 (tF b.1).2.2.2.2.2.2.2.2.2.2.1 (tF b.1).2.2.2.2.2.2.2.2.2.2.2.1 (tF b.1).2.2.2.2.2.2.2.2.2.2.2.2 (nI o) (nI b.2.1.length) (zRows n α) b.2.2.1 (tf b.2.2.2) g1 g2 g3 g4 h).toX rfl) (zPool Δ n α σ)) (fun rv w hq => ?_) (fun E w hq => ?_)
  · obtain ⟨w1, ⟨rfl, rfl⟩, rfl⟩ := hq
    exact ⟨_, zSame.rf, rfl, ad, α, o, _, n, σ, g1, g2, g3, g4, rfl, hW, hH, rfl⟩
  · obtain ⟨w1, hq, -⟩ := hq
    exact hq.elim
/-- a new object -/
def s_new : zOb := (tN zInit, [], 0, tl (fun _ => 0) 60 0)
theorem C_init (l : Launch) (Δ : zE) (h0 : Nat) : zMX l Δ yX6_init (.code yX6_init cX6_init 1 none) 3 52 18 203 [.ref h0] [(h0, .inr (6, [.null, .null, .null]))] (fun rv w => rv = none ∧ wOb Δ h0 s_new w) (fun _ _ => False) := by
  refine zMX.weak ((mX6_init l Δ h0).toX) (fun rv w hq => ?_) (fun E w hq => hq.elim)
  obtain ⟨rfl, ad, rfl, rfl⟩ := hq
  have h1 := zS_X6 (Δ := Δ) ad zInit 0 0 (fun _ => none) 0 (codes := fun _ => 0) (codes' := tf (tl (fun _ => 0) 60 0)) (fun _ h => tf_tl h) 0 0 0 0
  have e : zRows 0 (fun _ _ => 0) = fun _ => none := by
    funext j
    exact if_neg (Nat.not_lt_zero j)
  refine ⟨_, h1, rfl, ad, fun _ _ => 0, 0, 0, 0, fun _ => zInit, 0, 0, 0, 0, rfl, tN_tN _, ⟨⟨by decide, by decide, by decide, by decide, Or.inl rfl⟩, rfl, fun i t hi => by cases hi⟩, ?_⟩
  rw [e]
  exact (List.append_nil _).symm
