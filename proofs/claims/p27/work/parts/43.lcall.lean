def s_call (b : zOb) (w x1 x2 x3 : Int32) : Option ((String ⊕ Int32) × zOb) := if w = 0 then s_add b x1 x2 x3 else (if w = 1 then s_change b x1 x2 x3 else (if w = 2 then s_removeLast b else (if w = 3 then s_set b x1 x2 else (if w = 4 then s_mail b x1 x2 else (if w = 5 then s_mailAll b x1 x2 else (if w = 6 then s_forget b x1 else (if w = 7 then s_catchUp b x1 else (if w = 8 then s_append b x1 else (if w = 9 then s_addAll b else (if w = 10 then s_undo b else (if w = 11 then s_part b x1 x2 else (if w = 12 then s_knows b x1 x2 else (if w = 13 then s_reader b x1 x2 else (if w = 14 then s_plot b x1 x2 else (if w = 15 then s_count b x1 else (if w = 16 then s_setting b x1 else (if w = 17 then s_recap b x1 x2 x3 else (if w = 18 then s_easiest b x1 else (s_enough b x1)))))))))))))))))))
set_option maxRecDepth 100000 in
set_option maxHeartbeats 4000000 in
theorem M_call (l : Launch) (hT : l.stackTraces = false) (Δ : zE) {b b' : zOb} {r : String ⊕ Int32} (w x1 x2 x3 : Int32) (h : s_call b w x1 x2 x3 = some (r, b')) : zCt l Δ yL_call (.code yL_call cL_call 5 (some .int)) 8 141 15 139 [.int w, .int x1, .int x2, .int x3] b r b' := by
  intro a ws hw
  refine x_start hT (by decide +kernel) (Nat.le_of_ble_eq_true rfl) ?_
  intro p e s m args below meth c A ls Y htab Z hl
  have X := Y.1
  have hl : lv_has ls 5 [(0, .ref a), (1, .int w), (2, .int x1), (3, .int x2), (4, .int x3)] := hl
  unfold s_call at h
  refine lv_iload_n X.x X.b dL_call_0 rfl (lv_at hl 1 rfl) ?_
  by_cases h0 : w = 0
  · have h := zif_t h0 h
    refine lv_tableIn (tgt := 92) X.x X.b dL_call_1 (zt_lo h0 (by decide)) (zt_hi h0 (by decide)) (zt_at (off := 91) h0 rfl) (by decide) ?_
    refine lv_aload_n X.x X.b dL_call_92 rfl (lv_at hl 0 rfl) ?_
    refine lv_iload_n X.x X.b dL_call_93 rfl (lv_at hl 2 rfl) ?_
    refine lv_iload_n X.x X.b dL_call_94 rfl (lv_at hl 3 rfl) ?_
    refine lv_iload X.x X.b dL_call_95 (lv_at hl 4 rfl) ?_
    exact l_thru Y htab Z hl hw (C_add l hT Δ x1 x2 x3 h) wd_358 wd_359 wd_360 wd_19 wd_361 ok_X6_add rfl rfl rfl ⟨Nat.le_of_ble_eq_true rfl, Nat.le_of_ble_eq_true rfl⟩ ⟨Nat.le_of_ble_eq_true rfl, Nat.le_of_ble_eq_true rfl⟩ (Nat.le_of_ble_eq_true rfl) (Nat.le_of_ble_eq_true rfl) dL_call_97 dL_call_100
  · have h := zif_f h0 h
    by_cases h1 : w = 1
    · have h := zif_t h1 h
      refine lv_tableIn (tgt := 101) X.x X.b dL_call_1 (zt_lo h1 (by decide)) (zt_hi h1 (by decide)) (zt_at (off := 100) h1 rfl) (by decide) ?_
      refine lv_aload_n X.x X.b dL_call_101 rfl (lv_at hl 0 rfl) ?_
      refine lv_iload_n X.x X.b dL_call_102 rfl (lv_at hl 2 rfl) ?_
      refine lv_iload_n X.x X.b dL_call_103 rfl (lv_at hl 3 rfl) ?_
      refine lv_iload X.x X.b dL_call_104 (lv_at hl 4 rfl) ?_
      exact l_thru Y htab Z hl hw (C_change l hT Δ x1 x2 x3 h) wd_386 wd_387 wd_388 wd_19 wd_389 ok_X6_change rfl rfl rfl ⟨Nat.le_of_ble_eq_true rfl, Nat.le_of_ble_eq_true rfl⟩ ⟨Nat.le_of_ble_eq_true rfl, Nat.le_of_ble_eq_true rfl⟩ (Nat.le_of_ble_eq_true rfl) (Nat.le_of_ble_eq_true rfl) dL_call_106 dL_call_109
    · have h := zif_f h1 h
      by_cases h2 : w = 2
      · have h := zif_t h2 h
        refine lv_tableIn (tgt := 110) X.x X.b dL_call_1 (zt_lo h2 (by decide)) (zt_hi h2 (by decide)) (zt_at (off := 109) h2 rfl) (by decide) ?_
        refine lv_aload_n X.x X.b dL_call_110 rfl (lv_at hl 0 rfl) ?_
        exact l_thru Y htab Z hl hw (C_removeLast l hT Δ  h) wd_414 wd_415 wd_416 wd_19 wd_417 ok_X6_removeLast rfl rfl rfl ⟨Nat.le_of_ble_eq_true rfl, Nat.le_of_ble_eq_true rfl⟩ ⟨Nat.le_of_ble_eq_true rfl, Nat.le_of_ble_eq_true rfl⟩ (Nat.le_of_ble_eq_true rfl) (Nat.le_of_ble_eq_true rfl) dL_call_111 dL_call_114
      · have h := zif_f h2 h
        by_cases h3 : w = 3
        · have h := zif_t h3 h
          refine lv_tableIn (tgt := 115) X.x X.b dL_call_1 (zt_lo h3 (by decide)) (zt_hi h3 (by decide)) (zt_at (off := 114) h3 rfl) (by decide) ?_
          refine lv_aload_n X.x X.b dL_call_115 rfl (lv_at hl 0 rfl) ?_
          refine lv_iload_n X.x X.b dL_call_116 rfl (lv_at hl 2 rfl) ?_
          refine lv_iload_n X.x X.b dL_call_117 rfl (lv_at hl 3 rfl) ?_
          exact l_thru Y htab Z hl hw (C_set l hT Δ x1 x2 h) wd_438 wd_439 wd_440 wd_19 wd_441 ok_X6_set rfl rfl rfl ⟨Nat.le_of_ble_eq_true rfl, Nat.le_of_ble_eq_true rfl⟩ ⟨Nat.le_of_ble_eq_true rfl, Nat.le_of_ble_eq_true rfl⟩ (Nat.le_of_ble_eq_true rfl) (Nat.le_of_ble_eq_true rfl) dL_call_118 dL_call_121
        · have h := zif_f h3 h
          by_cases h4 : w = 4
          · have h := zif_t h4 h
            refine lv_tableIn (tgt := 122) X.x X.b dL_call_1 (zt_lo h4 (by decide)) (zt_hi h4 (by decide)) (zt_at (off := 121) h4 rfl) (by decide) ?_
            refine lv_aload_n X.x X.b dL_call_122 rfl (lv_at hl 0 rfl) ?_
            refine lv_iload_n X.x X.b dL_call_123 rfl (lv_at hl 2 rfl) ?_
            refine lv_iload_n X.x X.b dL_call_124 rfl (lv_at hl 3 rfl) ?_
            exact l_thru Y htab Z hl hw (C_mail l hT Δ x1 x2 h) wd_447 wd_448 wd_449 wd_19 wd_450 ok_X6_mail rfl rfl rfl ⟨Nat.le_of_ble_eq_true rfl, Nat.le_of_ble_eq_true rfl⟩ ⟨Nat.le_of_ble_eq_true rfl, Nat.le_of_ble_eq_true rfl⟩ (Nat.le_of_ble_eq_true rfl) (Nat.le_of_ble_eq_true rfl) dL_call_125 dL_call_128
          · have h := zif_f h4 h
            by_cases h5 : w = 5
            · have h := zif_t h5 h
              refine lv_tableIn (tgt := 129) X.x X.b dL_call_1 (zt_lo h5 (by decide)) (zt_hi h5 (by decide)) (zt_at (off := 128) h5 rfl) (by decide) ?_
              refine lv_aload_n X.x X.b dL_call_129 rfl (lv_at hl 0 rfl) ?_
              refine lv_iload_n X.x X.b dL_call_130 rfl (lv_at hl 2 rfl) ?_
              refine lv_iload_n X.x X.b dL_call_131 rfl (lv_at hl 3 rfl) ?_
              exact l_thru Y htab Z hl hw (C_mailAll l hT Δ x1 x2 h) wd_489 wd_490 wd_491 wd_19 wd_492 ok_X6_mailAll rfl rfl rfl ⟨Nat.le_of_ble_eq_true rfl, Nat.le_of_ble_eq_true rfl⟩ ⟨Nat.le_of_ble_eq_true rfl, Nat.le_of_ble_eq_true rfl⟩ (Nat.le_of_ble_eq_true rfl) (Nat.le_of_ble_eq_true rfl) dL_call_132 dL_call_135
            · have h := zif_f h5 h
              by_cases h6 : w = 6
              · have h := zif_t h6 h
                refine lv_tableIn (tgt := 136) X.x X.b dL_call_1 (zt_lo h6 (by decide)) (zt_hi h6 (by decide)) (zt_at (off := 135) h6 rfl) (by decide) ?_
                refine lv_aload_n X.x X.b dL_call_136 rfl (lv_at hl 0 rfl) ?_
                refine lv_iload_n X.x X.b dL_call_137 rfl (lv_at hl 2 rfl) ?_
                exact l_thru Y htab Z hl hw (C_forget l hT Δ x1 h) wd_500 wd_501 wd_502 wd_19 wd_503 ok_X6_forget rfl rfl rfl ⟨Nat.le_of_ble_eq_true rfl, Nat.le_of_ble_eq_true rfl⟩ ⟨Nat.le_of_ble_eq_true rfl, Nat.le_of_ble_eq_true rfl⟩ (Nat.le_of_ble_eq_true rfl) (Nat.le_of_ble_eq_true rfl) dL_call_138 dL_call_141
              · have h := zif_f h6 h
                by_cases h7 : w = 7
                · have h := zif_t h7 h
                  refine lv_tableIn (tgt := 142) X.x X.b dL_call_1 (zt_lo h7 (by decide)) (zt_hi h7 (by decide)) (zt_at (off := 141) h7 rfl) (by decide) ?_
                  refine lv_aload_n X.x X.b dL_call_142 rfl (lv_at hl 0 rfl) ?_
                  refine lv_iload_n X.x X.b dL_call_143 rfl (lv_at hl 2 rfl) ?_
                  exact l_thru Y htab Z hl hw (C_catchUp l hT Δ x1 h) wd_509 wd_510 wd_511 wd_19 wd_512 ok_X6_catchUp rfl rfl rfl ⟨Nat.le_of_ble_eq_true rfl, Nat.le_of_ble_eq_true rfl⟩ ⟨Nat.le_of_ble_eq_true rfl, Nat.le_of_ble_eq_true rfl⟩ (Nat.le_of_ble_eq_true rfl) (Nat.le_of_ble_eq_true rfl) dL_call_144 dL_call_147
                · have h := zif_f h7 h
                  by_cases h8 : w = 8
                  · have h := zif_t h8 h
                    refine lv_tableIn (tgt := 148) X.x X.b dL_call_1 (zt_lo h8 (by decide)) (zt_hi h8 (by decide)) (zt_at (off := 147) h8 rfl) (by decide) ?_
                    refine lv_aload_n X.x X.b dL_call_148 rfl (lv_at hl 0 rfl) ?_
                    refine lv_iload_n X.x X.b dL_call_149 rfl (lv_at hl 2 rfl) ?_
                    exact l_thru Y htab Z hl hw (C_append l hT Δ x1 h) wd_517 wd_518 wd_519 wd_19 wd_520 ok_X6_append rfl rfl rfl ⟨Nat.le_of_ble_eq_true rfl, Nat.le_of_ble_eq_true rfl⟩ ⟨Nat.le_of_ble_eq_true rfl, Nat.le_of_ble_eq_true rfl⟩ (Nat.le_of_ble_eq_true rfl) (Nat.le_of_ble_eq_true rfl) dL_call_150 dL_call_153
                  · have h := zif_f h8 h
                    by_cases h9 : w = 9
                    · have h := zif_t h9 h
                      refine lv_tableIn (tgt := 154) X.x X.b dL_call_1 (zt_lo h9 (by decide)) (zt_hi h9 (by decide)) (zt_at (off := 153) h9 rfl) (by decide) ?_
                      refine lv_aload_n X.x X.b dL_call_154 rfl (lv_at hl 0 rfl) ?_
                      exact l_thru Y htab Z hl hw (C_addAll l hT Δ  h) wd_527 wd_528 wd_529 wd_19 wd_530 ok_X6_addAll rfl rfl rfl ⟨Nat.le_of_ble_eq_true rfl, Nat.le_of_ble_eq_true rfl⟩ ⟨Nat.le_of_ble_eq_true rfl, Nat.le_of_ble_eq_true rfl⟩ (Nat.le_of_ble_eq_true rfl) (Nat.le_of_ble_eq_true rfl) dL_call_155 dL_call_158
                    · have h := zif_f h9 h
                      by_cases h10 : w = 10
                      · have h := zif_t h10 h
                        refine lv_tableIn (tgt := 159) X.x X.b dL_call_1 (zt_lo h10 (by decide)) (zt_hi h10 (by decide)) (zt_at (off := 158) h10 rfl) (by decide) ?_
                        refine lv_aload_n X.x X.b dL_call_159 rfl (lv_at hl 0 rfl) ?_
                        exact l_thru Y htab Z hl hw (C_undo l hT Δ  h) wd_193 wd_194 wd_195 wd_19 wd_196 ok_X6_undo rfl rfl rfl ⟨Nat.le_of_ble_eq_true rfl, Nat.le_of_ble_eq_true rfl⟩ ⟨Nat.le_of_ble_eq_true rfl, Nat.le_of_ble_eq_true rfl⟩ (Nat.le_of_ble_eq_true rfl) (Nat.le_of_ble_eq_true rfl) dL_call_160 dL_call_163
                      · have h := zif_f h10 h
                        by_cases h11 : w = 11
                        · have h := zif_t h11 h
                          refine lv_tableIn (tgt := 164) X.x X.b dL_call_1 (zt_lo h11 (by decide)) (zt_hi h11 (by decide)) (zt_at (off := 163) h11 rfl) (by decide) ?_
                          refine lv_aload_n X.x X.b dL_call_164 rfl (lv_at hl 0 rfl) ?_
                          refine lv_iload_n X.x X.b dL_call_165 rfl (lv_at hl 2 rfl) ?_
                          refine lv_iload_n X.x X.b dL_call_166 rfl (lv_at hl 3 rfl) ?_
                          exact l_thru Y htab Z hl hw (C_part l hT Δ x1 x2 h) wd_584 wd_585 wd_586 wd_19 wd_587 ok_X6_part rfl rfl rfl ⟨Nat.le_of_ble_eq_true rfl, Nat.le_of_ble_eq_true rfl⟩ ⟨Nat.le_of_ble_eq_true rfl, Nat.le_of_ble_eq_true rfl⟩ (Nat.le_of_ble_eq_true rfl) (Nat.le_of_ble_eq_true rfl) dL_call_167 dL_call_170
                        · have h := zif_f h11 h
                          by_cases h12 : w = 12
                          · have h := zif_t h12 h
                            refine lv_tableIn (tgt := 171) X.x X.b dL_call_1 (zt_lo h12 (by decide)) (zt_hi h12 (by decide)) (zt_at (off := 170) h12 rfl) (by decide) ?_
                            refine lv_aload_n X.x X.b dL_call_171 rfl (lv_at hl 0 rfl) ?_
                            refine lv_iload_n X.x X.b dL_call_172 rfl (lv_at hl 2 rfl) ?_
                            refine lv_iload_n X.x X.b dL_call_173 rfl (lv_at hl 3 rfl) ?_
                            exact l_thru Y htab Z hl hw (C_knows l hT Δ x1 x2 h) wd_597 wd_598 wd_599 wd_19 wd_600 ok_X6_knows rfl rfl rfl ⟨Nat.le_of_ble_eq_true rfl, Nat.le_of_ble_eq_true rfl⟩ ⟨Nat.le_of_ble_eq_true rfl, Nat.le_of_ble_eq_true rfl⟩ (Nat.le_of_ble_eq_true rfl) (Nat.le_of_ble_eq_true rfl) dL_call_174 dL_call_177
                          · have h := zif_f h12 h
                            by_cases h13 : w = 13
                            · have h := zif_t h13 h
                              refine lv_tableIn (tgt := 178) X.x X.b dL_call_1 (zt_lo h13 (by decide)) (zt_hi h13 (by decide)) (zt_at (off := 177) h13 rfl) (by decide) ?_
                              refine lv_aload_n X.x X.b dL_call_178 rfl (lv_at hl 0 rfl) ?_
                              refine lv_iload_n X.x X.b dL_call_179 rfl (lv_at hl 2 rfl) ?_
                              refine lv_iload_n X.x X.b dL_call_180 rfl (lv_at hl 3 rfl) ?_
                              exact l_thru Y htab Z hl hw (C_reader l hT Δ x1 x2 h) wd_605 wd_606 wd_607 wd_19 wd_608 ok_X6_reader rfl rfl rfl ⟨Nat.le_of_ble_eq_true rfl, Nat.le_of_ble_eq_true rfl⟩ ⟨Nat.le_of_ble_eq_true rfl, Nat.le_of_ble_eq_true rfl⟩ (Nat.le_of_ble_eq_true rfl) (Nat.le_of_ble_eq_true rfl) dL_call_181 dL_call_184
                            · have h := zif_f h13 h
                              by_cases h14 : w = 14
                              · have h := zif_t h14 h
                                refine lv_tableIn (tgt := 185) X.x X.b dL_call_1 (zt_lo h14 (by decide)) (zt_hi h14 (by decide)) (zt_at (off := 184) h14 rfl) (by decide) ?_
                                refine lv_aload_n X.x X.b dL_call_185 rfl (lv_at hl 0 rfl) ?_
                                refine lv_iload_n X.x X.b dL_call_186 rfl (lv_at hl 2 rfl) ?_
                                refine lv_iload_n X.x X.b dL_call_187 rfl (lv_at hl 3 rfl) ?_
                                exact l_thru Y htab Z hl hw (C_plot l hT Δ x1 x2 h) wd_617 wd_618 wd_619 wd_19 wd_620 ok_X6_plot rfl rfl rfl ⟨Nat.le_of_ble_eq_true rfl, Nat.le_of_ble_eq_true rfl⟩ ⟨Nat.le_of_ble_eq_true rfl, Nat.le_of_ble_eq_true rfl⟩ (Nat.le_of_ble_eq_true rfl) (Nat.le_of_ble_eq_true rfl) dL_call_188 dL_call_191
                              · have h := zif_f h14 h
                                by_cases h15 : w = 15
                                · have h := zif_t h15 h
                                  refine lv_tableIn (tgt := 192) X.x X.b dL_call_1 (zt_lo h15 (by decide)) (zt_hi h15 (by decide)) (zt_at (off := 191) h15 rfl) (by decide) ?_
                                  refine lv_aload_n X.x X.b dL_call_192 rfl (lv_at hl 0 rfl) ?_
                                  refine lv_iload_n X.x X.b dL_call_193 rfl (lv_at hl 2 rfl) ?_
                                  exact l_thru Y htab Z hl hw (C_count l hT Δ x1 h) wd_290 wd_291 wd_292 wd_19 wd_293 ok_X6_count rfl rfl rfl ⟨Nat.le_of_ble_eq_true rfl, Nat.le_of_ble_eq_true rfl⟩ ⟨Nat.le_of_ble_eq_true rfl, Nat.le_of_ble_eq_true rfl⟩ (Nat.le_of_ble_eq_true rfl) (Nat.le_of_ble_eq_true rfl) dL_call_194 dL_call_197
                                · have h := zif_f h15 h
                                  by_cases h16 : w = 16
                                  · have h := zif_t h16 h
                                    refine lv_tableIn (tgt := 198) X.x X.b dL_call_1 (zt_lo h16 (by decide)) (zt_hi h16 (by decide)) (zt_at (off := 197) h16 rfl) (by decide) ?_
                                    refine lv_aload_n X.x X.b dL_call_198 rfl (lv_at hl 0 rfl) ?_
                                    refine lv_iload_n X.x X.b dL_call_199 rfl (lv_at hl 2 rfl) ?_
                                    exact l_thru Y htab Z hl hw (C_setting l hT Δ x1 h) wd_642 wd_643 wd_644 wd_19 wd_645 ok_X6_setting rfl rfl rfl ⟨Nat.le_of_ble_eq_true rfl, Nat.le_of_ble_eq_true rfl⟩ ⟨Nat.le_of_ble_eq_true rfl, Nat.le_of_ble_eq_true rfl⟩ (Nat.le_of_ble_eq_true rfl) (Nat.le_of_ble_eq_true rfl) dL_call_200 dL_call_203
                                  · have h := zif_f h16 h
                                    by_cases h17 : w = 17
                                    · have h := zif_t h17 h
                                      refine lv_tableIn (tgt := 204) X.x X.b dL_call_1 (zt_lo h17 (by decide)) (zt_hi h17 (by decide)) (zt_at (off := 203) h17 rfl) (by decide) ?_
                                      refine lv_aload_n X.x X.b dL_call_204 rfl (lv_at hl 0 rfl) ?_
                                      refine lv_iload_n X.x X.b dL_call_205 rfl (lv_at hl 2 rfl) ?_
                                      refine lv_iload_n X.x X.b dL_call_206 rfl (lv_at hl 3 rfl) ?_
                                      refine lv_iload X.x X.b dL_call_207 (lv_at hl 4 rfl) ?_
                                      exact l_thru Y htab Z hl hw (C_recap l hT Δ x1 x2 x3 h) wd_646 wd_647 wd_648 wd_19 wd_649 ok_X6_recap rfl rfl rfl ⟨Nat.le_of_ble_eq_true rfl, Nat.le_of_ble_eq_true rfl⟩ ⟨Nat.le_of_ble_eq_true rfl, Nat.le_of_ble_eq_true rfl⟩ (Nat.le_of_ble_eq_true rfl) (Nat.le_of_ble_eq_true rfl) dL_call_209 dL_call_212
                                    · have h := zif_f h17 h
                                      by_cases h18 : w = 18
                                      · have h := zif_t h18 h
                                        refine lv_tableIn (tgt := 213) X.x X.b dL_call_1 (zt_lo h18 (by decide)) (zt_hi h18 (by decide)) (zt_at (off := 212) h18 rfl) (by decide) ?_
                                        refine lv_aload_n X.x X.b dL_call_213 rfl (lv_at hl 0 rfl) ?_
                                        refine lv_iload_n X.x X.b dL_call_214 rfl (lv_at hl 2 rfl) ?_
                                        exact l_thru Y htab Z hl hw (C_easiest l hT Δ x1 h) wd_654 wd_655 wd_656 wd_19 wd_657 ok_X6_easiest rfl rfl rfl ⟨Nat.le_of_ble_eq_true rfl, Nat.le_of_ble_eq_true rfl⟩ ⟨Nat.le_of_ble_eq_true rfl, Nat.le_of_ble_eq_true rfl⟩ (Nat.le_of_ble_eq_true rfl) (Nat.le_of_ble_eq_true rfl) dL_call_215 dL_call_218
                                      · have h := zif_f h18 h
                                        refine lv_tableOut (tgt := 219) X.x X.b dL_call_1 (by have := (w : Int32).toInt; have := zt_ne (n := 0) h0 (by decide); have := zt_ne (n := 1) h1 (by decide); have := zt_ne (n := 2) h2 (by decide); have := zt_ne (n := 3) h3 (by decide); have := zt_ne (n := 4) h4 (by decide); have := zt_ne (n := 5) h5 (by decide); have := zt_ne (n := 6) h6 (by decide); have := zt_ne (n := 7) h7 (by decide); have := zt_ne (n := 8) h8 (by decide); have := zt_ne (n := 9) h9 (by decide); have := zt_ne (n := 10) h10 (by decide); have := zt_ne (n := 11) h11 (by decide); have := zt_ne (n := 12) h12 (by decide); have := zt_ne (n := 13) h13 (by decide); have := zt_ne (n := 14) h14 (by decide); have := zt_ne (n := 15) h15 (by decide); have := zt_ne (n := 16) h16 (by decide); have := zt_ne (n := 17) h17 (by decide); have := zt_ne (n := 18) h18 (by decide); omega) (by decide) ?_
                                        refine lv_aload_n X.x X.b dL_call_219 rfl (lv_at hl 0 rfl) ?_
                                        refine lv_iload_n X.x X.b dL_call_220 rfl (lv_at hl 2 rfl) ?_
                                        exact l_thru Y htab Z hl hw (C_enough l hT Δ x1 h) wd_663 wd_664 wd_665 wd_19 wd_666 ok_X6_enough rfl rfl rfl ⟨Nat.le_of_ble_eq_true rfl, Nat.le_of_ble_eq_true rfl⟩ ⟨Nat.le_of_ble_eq_true rfl, Nat.le_of_ble_eq_true rfl⟩ (Nat.le_of_ble_eq_true rfl) (Nat.le_of_ble_eq_true rfl) dL_call_221 dL_call_224
/-- what the law's told answers of it -/
def s_code (r : String ⊕ Int32) : Option Int32 := match r with
  | .inr v => some v
  | .inl E => if E = "java/lang/IllegalArgumentException" then some (-11) else if E = "java/lang/IllegalStateException" then some (-12) else if E = "java/lang/IndexOutOfBoundsException" then some (-13) else none
def s_told (b : zOb) (w x1 x2 x3 : Int32) : Option (Int32 × zOb) := (s_call b w x1 x2 x3).bind (fun z => (s_code z.1).map (fun v => (v, z.2)))
set_option maxRecDepth 100000 in
set_option maxHeartbeats 4000000 in
theorem M_told (l : Launch) (hT : l.stackTraces = false) (Δ : zE) {b b' : zOb} {v : Int32} (w x1 x2 x3 : Int32) (h : s_told b w x1 x2 x3 = some (v, b')) (a : Nat) (ws : va_W) (hw : wOb Δ a b ws) : zMX l Δ yL_told (.codeWith yL_told cL_told 6 (some .int) [(0, 9, 10, 81), (0, 9, 15, 83), (0, 9, 20, 85)]) 9 165 15 139 [.ref a, .int w, .int x1, .int x2, .int x3] ws (fun rv w => rv = some (.int v) ∧ wOb Δ a b' w) (fun _ _ => False) := by
  obtain ⟨⟨r, b1⟩, hc, h⟩ := zb_ok h
  obtain ⟨v1, hv, h⟩ := zmap_ok h
  obtain ⟨rfl, rfl⟩ : v1 = v ∧ b1 = b' := Prod.mk.inj h
  refine x_startH hT (by decide +kernel) (Nat.le_of_ble_eq_true rfl) ?_
  intro p e s m args below meth c A ls Y htab Z hl
  have X := Y.1
  have hl : lv_has ls 6 [(0, .ref a), (1, .int w), (2, .int x1), (3, .int x2), (4, .int x3)] := hl
  refine lv_aload_n X.x X.b dL_told_0 rfl (lv_at hl 0 rfl) ?_
  refine lv_iload_n X.x X.b dL_told_1 rfl (lv_at hl 1 rfl) ?_
  refine lv_iload_n X.x X.b dL_told_2 rfl (lv_at hl 2 rfl) ?_
  refine lv_iload_n X.x X.b dL_told_3 rfl (lv_at hl 3 rfl) ?_
  refine lv_iload X.x X.b dL_told_4 (lv_at hl 4 rfl) ?_
  refine x_goes (rest := []) (wr := []) Y Z (by rw [List.append_nil]) (vx_runS (As := [.ref a, .int w, .int x1, .int x2, .int x3]) (rest := []) (n := 5) Y.1.1 (M_call l hT Δ w x1 x2 x3 hc a ws hw s.heap.size) (va_cwS 5 Y.1.ts (x_gS wd_355 wd_356 wd_18 wd_357) rfl rfl rfl ⟨ok_L_call.1, ok_L_call.2.1, ok_L_call.2.2⟩ ⟨Nat.le_of_ble_eq_true rfl, Nat.le_of_ble_eq_true rfl⟩) ⟨xBlind, xPre Y Z (by rw [List.append_nil])⟩ rfl rfl hl.1 rfl (lv_room (Nat.le_of_ble_eq_true rfl)) dL_told_6 ⟨Nat.le_of_ble_eq_true rfl, Nat.le_of_ble_eq_true rfl⟩) (fun E ce q w9 H1 locs1 hPX Z9 g1 g2 g3 => ?_) (fun rv w1 H1 locs1 hP Z9 => ?_)
  · obtain ⟨hr, hw9⟩ := hPX
    subst hr
    rw [List.append_nil] at Z9
    by_cases e0 : E = "java/lang/IllegalArgumentException"
    · subst e0
      refine vx_catch X.own [] ⟨0, 9, 10, 81⟩ [⟨0, 9, 15, 83⟩, ⟨0, 9, 20, 85⟩] (htab.trans rfl) (fun z hz => absurd hz List.not_mem_nil) rfl (by decide) (X.ts _ wd_352) (va_Nw.use rfl (X.K.2.1 _ (zNw_of 299 (by decide +kernel) (by decide +kernel)))) g1 g2 g3 ?_
      refine lv_astore (lv' := [(5, .ref q), (0, .ref a), (1, .int w), (2, .int x1), (3, .int x2), (4, .int x3)]) X.x X.b dL_told_10 hl (Nat.le_of_ble_eq_true rfl) rfl (fun ls hl => ?_)
      refine lv_bipush (v := (-11)) X.x X.b dL_told_12 (by decide) ?_
      obtain rfl : ((-11) : Int32) = v1 := Option.some.inj hv
      exact x_iret X Z9 ⟨rfl, hw9⟩ (Nat.le_of_ble_eq_true rfl) (Nat.le_of_ble_eq_true rfl) dL_told_14
    by_cases e1 : E = "java/lang/IllegalStateException"
    · subst e1
      refine vx_catch X.own [⟨0, 9, 10, 81⟩] ⟨0, 9, 15, 83⟩ [⟨0, 9, 20, 85⟩] (htab.trans rfl) (fun z hz => by
        obtain rfl := List.mem_singleton.mp hz
        exact Or.inr ⟨by decide, "java/lang/IllegalArgumentException", X.ts _ wd_352, X.K.2.2.2.2 ("java/lang/IllegalStateException", "java/lang/IllegalArgumentException") (by decide +kernel)⟩) rfl (by decide) (X.ts _ wd_353) (va_Nw.use rfl (X.K.2.1 _ (zNw_of 203 (by decide +kernel) (by decide +kernel)))) g1 g2 g3 ?_
      refine lv_astore (lv' := [(5, .ref q), (0, .ref a), (1, .int w), (2, .int x1), (3, .int x2), (4, .int x3)]) X.x X.b dL_told_15 hl (Nat.le_of_ble_eq_true rfl) rfl (fun ls hl => ?_)
      refine lv_bipush (v := (-12)) X.x X.b dL_told_17 (by decide) ?_
      obtain rfl : ((-12) : Int32) = v1 := Option.some.inj hv
      exact x_iret X Z9 ⟨rfl, hw9⟩ (Nat.le_of_ble_eq_true rfl) (Nat.le_of_ble_eq_true rfl) dL_told_19
    by_cases e2 : E = "java/lang/IndexOutOfBoundsException"
    · subst e2
      refine vx_catch X.own [⟨0, 9, 10, 81⟩, ⟨0, 9, 15, 83⟩] ⟨0, 9, 20, 85⟩ [] (htab.trans rfl) (fun z hz => by
        rcases List.mem_cons.mp hz with rfl | hz
        · exact Or.inr ⟨by decide, "java/lang/IllegalArgumentException", X.ts _ wd_352, X.K.2.2.2.2 ("java/lang/IndexOutOfBoundsException", "java/lang/IllegalArgumentException") (by decide +kernel)⟩
        · obtain rfl := List.mem_singleton.mp hz
          exact Or.inr ⟨by decide, "java/lang/IllegalStateException", X.ts _ wd_353, X.K.2.2.2.2 ("java/lang/IndexOutOfBoundsException", "java/lang/IllegalStateException") (by decide +kernel)⟩) rfl (by decide) (X.ts _ wd_354) (va_Nw.use rfl (X.K.2.1 _ (zNw_of 396 (by decide +kernel) (by decide +kernel)))) g1 g2 g3 ?_
      refine lv_astore (lv' := [(5, .ref q), (0, .ref a), (1, .int w), (2, .int x1), (3, .int x2), (4, .int x3)]) X.x X.b dL_told_20 hl (Nat.le_of_ble_eq_true rfl) rfl (fun ls hl => ?_)
      refine lv_bipush (v := (-13)) X.x X.b dL_told_22 (by decide) ?_
      obtain rfl : ((-13) : Int32) = v1 := Option.some.inj hv
      exact x_iret X Z9 ⟨rfl, hw9⟩ (Nat.le_of_ble_eq_true rfl) (Nat.le_of_ble_eq_true rfl) dL_told_24
    exfalso
    unfold s_code at hv
    simp only [e0, e1, e2, if_false] at hv
    cases hv
  · obtain ⟨v2, rfl, rfl, hw2⟩ := hP
    rw [List.append_nil] at Z9
    obtain rfl : v2 = v1 := Option.some.inj hv
    exact x_iret X Z9 ⟨rfl, hw2⟩ (Nat.le_of_ble_eq_true rfl) (Nat.le_of_ble_eq_true rfl) dL_told_9
