/-! THE LAW: serial, its states and answers -/
def dI3 : DecidableEq Int32 := inferInstance
def dLi : DecidableEq (List Int32) := inferInstance
def dTS : DecidableEq tSC := (@instDecidableEqProd _ _ dI3 (@instDecidableEqProd _ _ dI3 (@instDecidableEqProd _ _ dI3 (@instDecidableEqProd _ _ dLi (@instDecidableEqProd _ _ dLi (@instDecidableEqProd _ _ dLi (@instDecidableEqProd _ _ dLi (@instDecidableEqProd _ _ dLi (@instDecidableEqProd _ _ dLi (@instDecidableEqProd _ _ dLi (@instDecidableEqProd _ _ dLi (@instDecidableEqProd _ _ dLi dLi))))))))))))
def dOb : DecidableEq zOb := (@instDecidableEqProd _ _ dTS (@instDecidableEqProd _ _ (@instDecidableEqList _ dTS) (@instDecidableEqProd _ _ dI3 dLi)))
def dAns : DecidableEq (Option ((String ⊕ Int32) × zOb)) := by
  have h := dOb
  exact inferInstance
def dTold : DecidableEq (Option (Int32 × zOb)) := by
  have h := dOb
  exact inferInstance
theorem sb_ok {x y : zOb} (h : @decide (x = y) (dOb x y) = true) : x = y := @of_decide_eq_true _ (dOb x y) h
theorem sa_ok {x y : Option ((String ⊕ Int32) × zOb)} (h : @decide (x = y) (dAns x y) = true) : x = y := @of_decide_eq_true _ (dAns x y) h
theorem st_ok {x y : Option (Int32 × zOb)} (h : @decide (x = y) (dTold x y) = true) : x = y := @of_decide_eq_true _ (dTold x y) h
theorem lk_part {b : zOb} {v x1 x2 : Int32} (h : fX6_part (tF b.1).2.2.1 (tF b.1).2.2.2.1 (tF b.1).2.2.2.2.1 (tF b.1).2.2.2.2.2.1 (tF b.1).2.2.2.2.2.2.1 (tF b.1).2.2.2.2.2.2.2.2.1 x1 x2 = some (.inr v)) : s_part b x1 x2 = some (.inr v, b) := by
  unfold s_part
  rw [h]
  rfl
theorem lk_knows {b : zOb} {v x1 x2 : Int32} (h : fX6_knows (tF b.1).2.2.1 (tF b.1).2.2.2.2.2.2.2.1 (tF b.1).2.2.2.2.2.2.2.2.1 x1 x2 = some (.inr v)) : s_knows b x1 x2 = some (.inr v, b) := by
  unfold s_knows
  rw [h]
  rfl
theorem lk_reader {b : zOb} {v x1 x2 : Int32} (h : fX6_reader (tF b.1).2.2.1 (tF b.1).2.2.2.1 (tF b.1).2.2.2.2.1 (tF b.1).2.2.2.2.2.2.2.1 (tF b.1).2.2.2.2.2.2.2.2.1 (tF b.1).2.2.2.2.2.2.2.2.2.1 (tF b.1).2.2.2.2.2.2.2.2.2.2.1 (tF b.1).2.2.2.2.2.2.2.2.2.2.2.1 x1 x2 = some (.inr v)) : s_reader b x1 x2 = some (.inr v, b) := by
  unfold s_reader
  rw [h]
  rfl
theorem lk_plot {b : zOb} {v x1 x2 : Int32} (h : fX6_plot (tF b.1).2.2.1 (tF b.1).2.2.2.1 (tF b.1).2.2.2.2.1 (tF b.1).2.2.2.2.2.2.2.1 (tF b.1).2.2.2.2.2.2.2.2.1 x1 x2 = some (.inr v)) : s_plot b x1 x2 = some (.inr v, b) := by
  unfold s_plot
  rw [h]
  rfl
theorem lk_count {b : zOb} {v x1 : Int32} (h : fX6_count (tF b.1).1 (tF b.1).2.1 (tF b.1).2.2.1 (tF b.1).2.2.2.2.2.1 (tF b.1).2.2.2.2.2.2.2.1 (tF b.1).2.2.2.2.2.2.2.2.1 (tF b.1).2.2.2.2.2.2.2.2.2.1 (nI b.2.1.length) x1 = some (.inr v)) : s_count b x1 = some (.inr v, b) := by
  unfold s_count
  rw [h]
  rfl
theorem lk_setting {b : zOb} {v x1 : Int32} (h : fX6_setting (tF b.1).2.2.2.2.2.2.2.2.2.2.2.2 x1 = some (.inr v)) : s_setting b x1 = some (.inr v, b) := by
  unfold s_setting
  rw [h]
  rfl
theorem lk_recap {b : zOb} {v x1 x2 x3 : Int32} (h : fX6_recap (tF b.1).2.2.1 (tF b.1).2.2.2.2.2.1 (tF b.1).2.2.2.2.2.2.1 (tF b.1).2.2.2.2.2.2.2.1 (tF b.1).2.2.2.2.2.2.2.2.1 (tF b.1).2.2.2.2.2.2.2.2.2.2.2.2 x1 x2 x3 = some (.inr v)) : s_recap b x1 x2 x3 = some (.inr v, b) := by
  unfold s_recap
  rw [h]
  rfl
theorem lk_easiest {b : zOb} {v x1 : Int32} (h : fX6_easiest (tF b.1).2.2.1 (tF b.1).2.2.2.2.2.1 (tF b.1).2.2.2.2.2.2.1 (tF b.1).2.2.2.2.2.2.2.1 (tF b.1).2.2.2.2.2.2.2.2.1 (tF b.1).2.2.2.2.2.2.2.2.2.2.2.2 x1 = some (.inr v)) : s_easiest b x1 = some (.inr v, b) := by
  unfold s_easiest
  rw [h]
  rfl
theorem lk_enough {b : zOb} {v x1 : Int32} (h : fX6_enough (tF b.1).2.2.1 (tF b.1).2.2.2.2.2.2.1 (tF b.1).2.2.2.2.2.2.2.1 (tF b.1).2.2.2.2.2.2.2.2.1 x1 = some (.inr v)) : s_enough b x1 = some (.inr v, b) := by
  unfold s_enough
  rw [h]
  rfl
def ks_0 : tSC := (0, 0, 0, [0, 0, 0, 0, 0, 0, 0, 0, 0, 0, 0, 0, 0, 0, 0, 0, 0, 0, 0, 0], [0, 0, 0, 0, 0, 0, 0, 0, 0, 0, 0, 0, 0, 0, 0, 0, 0, 0, 0, 0], [0, 0, 0, 0, 0, 0, 0, 0, 0, 0, 0, 0, 0, 0, 0, 0, 0, 0, 0, 0], [0, 0, 0, 0, 0, 0, 0, 0, 0, 0, 0, 0, 0, 0, 0, 0, 0, 0, 0, 0], [0, 0, 0, 0, 0, 0], [0, 0, 0, 0, 0, 0], [0, 0, 0, 0, 0, 0], [0, 0, 0, 0, 0, 0], [0, 0, 0, 0, 0, 0], [4, 10])
def kc_0 : List Int32 := [0, 0, 0, 0, 0, 0, 0, 0, 0, 0, 0, 0, 0, 0, 0, 0, 0, 0, 0, 0, 0, 0, 0, 0, 0, 0, 0, 0, 0, 0, 0, 0, 0, 0, 0, 0, 0, 0, 0, 0, 0, 0, 0, 0, 0, 0, 0, 0, 0, 0, 0, 0, 0, 0, 0, 0, 0, 0, 0, 0]
def T_0 : zOb := (ks_0, [], 0, kc_0)
def ks_1 : tSC := (0, 0, 1, [1, 0, 0, 0, 0, 0, 0, 0, 0, 0, 0, 0, 0, 0, 0, 0, 0, 0, 0, 0], [(-1), 0, 0, 0, 0, 0, 0, 0, 0, 0, 0, 0, 0, 0, 0, 0, 0, 0, 0, 0], [20, 0, 0, 0, 0, 0, 0, 0, 0, 0, 0, 0, 0, 0, 0, 0, 0, 0, 0, 0], [0, 0, 0, 0, 0, 0, 0, 0, 0, 0, 0, 0, 0, 0, 0, 0, 0, 0, 0, 0], [0, 0, 0, 0, 0, 0], [0, 0, 0, 0, 0, 0], [0, 0, 0, 0, 0, 0], [0, 0, 0, 0, 0, 0], [0, 0, 0, 0, 0, 0], [4, 10])
def T_1 : zOb := (ks_1, [ks_0], 0, kc_0)
def ks_2 : tSC := (0, 0, 2, [1, 3, 0, 0, 0, 0, 0, 0, 0, 0, 0, 0, 0, 0, 0, 0, 0, 0, 0, 0], [(-1), 1, 0, 0, 0, 0, 0, 0, 0, 0, 0, 0, 0, 0, 0, 0, 0, 0, 0, 0], [20, 15, 0, 0, 0, 0, 0, 0, 0, 0, 0, 0, 0, 0, 0, 0, 0, 0, 0, 0], [0, 1, 0, 0, 0, 0, 0, 0, 0, 0, 0, 0, 0, 0, 0, 0, 0, 0, 0, 0], [0, 0, 0, 0, 0, 0], [0, 0, 0, 0, 0, 0], [0, 0, 0, 0, 0, 0], [0, 0, 0, 0, 0, 0], [0, 0, 0, 0, 0, 0], [4, 10])
def T_2 : zOb := (ks_2, [ks_1, ks_0], 0, kc_0)
def ks_3 : tSC := (0, 0, 3, [1, 3, 2, 0, 0, 0, 0, 0, 0, 0, 0, 0, 0, 0, 0, 0, 0, 0, 0, 0], [(-1), 1, (-1), 0, 0, 0, 0, 0, 0, 0, 0, 0, 0, 0, 0, 0, 0, 0, 0, 0], [20, 15, 9, 0, 0, 0, 0, 0, 0, 0, 0, 0, 0, 0, 0, 0, 0, 0, 0, 0], [0, 1, 2, 0, 0, 0, 0, 0, 0, 0, 0, 0, 0, 0, 0, 0, 0, 0, 0, 0], [0, 0, 0, 0, 0, 0], [0, 0, 0, 0, 0, 0], [0, 0, 0, 0, 0, 0], [0, 0, 0, 0, 0, 0], [0, 0, 0, 0, 0, 0], [4, 10])
def T_3 : zOb := (ks_3, [ks_2, ks_1, ks_0], 0, kc_0)
def ks_4 : tSC := (0, 0, 4, [1, 3, 2, 5, 0, 0, 0, 0, 0, 0, 0, 0, 0, 0, 0, 0, 0, 0, 0, 0], [(-1), 1, (-1), 2, 0, 0, 0, 0, 0, 0, 0, 0, 0, 0, 0, 0, 0, 0, 0, 0], [20, 15, 9, 99, 0, 0, 0, 0, 0, 0, 0, 0, 0, 0, 0, 0, 0, 0, 0, 0], [0, 1, 2, 2, 0, 0, 0, 0, 0, 0, 0, 0, 0, 0, 0, 0, 0, 0, 0, 0], [0, 0, 0, 0, 0, 0], [0, 0, 0, 0, 0, 0], [0, 0, 0, 0, 0, 0], [0, 0, 0, 0, 0, 0], [0, 0, 0, 0, 0, 0], [4, 10])
def T_4 : zOb := (ks_4, [ks_3, ks_2, ks_1, ks_0], 0, kc_0)
def ks_5 : tSC := (0, 0, 5, [1, 3, 2, 5, 7, 0, 0, 0, 0, 0, 0, 0, 0, 0, 0, 0, 0, 0, 0, 0], [(-1), 1, (-1), 2, (-1), 0, 0, 0, 0, 0, 0, 0, 0, 0, 0, 0, 0, 0, 0, 0], [20, 15, 9, 99, 10, 0, 0, 0, 0, 0, 0, 0, 0, 0, 0, 0, 0, 0, 0, 0], [0, 1, 2, 2, 12, 0, 0, 0, 0, 0, 0, 0, 0, 0, 0, 0, 0, 0, 0, 0], [0, 0, 0, 0, 0, 0], [0, 0, 0, 0, 0, 0], [0, 0, 0, 0, 0, 0], [0, 0, 0, 0, 0, 0], [0, 0, 0, 0, 0, 0], [4, 10])
def T_5 : zOb := (ks_5, [ks_4, ks_3, ks_2, ks_1, ks_0], 0, kc_0)
def ks_6 : tSC := (0, 0, 5, [1, 3, 2, 5, 7, 0, 0, 0, 0, 0, 0, 0, 0, 0, 0, 0, 0, 0, 0, 0], [(-1), 1, (-1), 2, (-1), 0, 0, 0, 0, 0, 0, 0, 0, 0, 0, 0, 0, 0, 0, 0], [20, 15, 9, 99, 10, 0, 0, 0, 0, 0, 0, 0, 0, 0, 0, 0, 0, 0, 0, 0], [0, 1, 2, 2, 12, 0, 0, 0, 0, 0, 0, 0, 0, 0, 0, 0, 0, 0, 0, 0], [0, 0, 0, 0, 0, 0], [0, 0, 0, 0, 0, 0], [0, 0, 0, 0, 0, 0], [0, 0, 0, 0, 0, 0], [0, 0, 0, 0, 0, 0], [2, 10])
def T_6 : zOb := (ks_6, [ks_5, ks_4, ks_3, ks_2, ks_1, ks_0], 0, kc_0)
def ks_7 : tSC := (1, 0, 5, [1, 3, 2, 5, 7, 0, 0, 0, 0, 0, 0, 0, 0, 0, 0, 0, 0, 0, 0, 0], [(-1), 1, (-1), 2, (-1), 0, 0, 0, 0, 0, 0, 0, 0, 0, 0, 0, 0, 0, 0, 0], [20, 15, 9, 99, 10, 0, 0, 0, 0, 0, 0, 0, 0, 0, 0, 0, 0, 0, 0, 0], [0, 1, 2, 2, 12, 0, 0, 0, 0, 0, 0, 0, 0, 0, 0, 0, 0, 0, 0, 0], [12, 0, 0, 0, 0, 0], [16, 0, 0, 0, 0, 0], [21, 0, 0, 0, 0, 0], [2, 0, 0, 0, 0, 0], [2, 0, 0, 0, 0, 0], [2, 10])
def T_7 : zOb := (ks_7, [ks_6, ks_5, ks_4, ks_3, ks_2, ks_1], 0, kc_0)
def ks_8 : tSC := (2, 0, 5, [1, 3, 2, 5, 7, 0, 0, 0, 0, 0, 0, 0, 0, 0, 0, 0, 0, 0, 0, 0], [(-1), 1, (-1), 2, (-1), 0, 0, 0, 0, 0, 0, 0, 0, 0, 0, 0, 0, 0, 0, 0], [20, 15, 9, 99, 10, 0, 0, 0, 0, 0, 0, 0, 0, 0, 0, 0, 0, 0, 0, 0], [0, 1, 2, 2, 12, 0, 0, 0, 0, 0, 0, 0, 0, 0, 0, 0, 0, 0, 0, 0], [12, 3, 0, 0, 0, 0], [16, 8, 0, 0, 0, 0], [21, 103, 0, 0, 0, 0], [2, 2, 0, 0, 0, 0], [2, 0, 0, 0, 0, 0], [2, 10])
def T_8 : zOb := (ks_8, [ks_7, ks_6, ks_5, ks_4, ks_3, ks_2], 0, kc_0)
def ks_9 : tSC := (6, 2, 5, [1, 3, 2, 5, 7, 0, 0, 0, 0, 0, 0, 0, 0, 0, 0, 0, 0, 0, 0, 0], [(-1), 1, (-1), 2, (-1), 0, 0, 0, 0, 0, 0, 0, 0, 0, 0, 0, 0, 0, 0, 0], [20, 15, 9, 99, 10, 0, 0, 0, 0, 0, 0, 0, 0, 0, 0, 0, 0, 0, 0, 0], [0, 1, 2, 2, 12, 0, 0, 0, 0, 0, 0, 0, 0, 0, 0, 0, 0, 0, 0, 0], [12, 3, 0, 0, 0, 0], [16, 8, 1, 1, 1, 1], [21, 103, 20, 20, 20, 20], [2, 2, 0, 0, 0, 0], [2, 0, 0, 0, 0, 0], [2, 10])
def T_9 : zOb := (ks_9, [ks_8, ks_7, ks_6, ks_5, ks_4, ks_3], 0, kc_0)
def ks_10 : tSC := (6, 2, 5, [1, 3, 2, 5, 7, 0, 0, 0, 0, 0, 0, 0, 0, 0, 0, 0, 0, 0, 0, 0], [(-1), 1, (-1), 2, (-1), 0, 0, 0, 0, 0, 0, 0, 0, 0, 0, 0, 0, 0, 0, 0], [20, 15, 9, 99, 10, 0, 0, 0, 0, 0, 0, 0, 0, 0, 0, 0, 0, 0, 0, 0], [0, 1, 2, 2, 12, 0, 0, 0, 0, 0, 0, 0, 0, 0, 0, 0, 0, 0, 0, 0], [12, 0, 0, 0, 0, 0], [16, 8, 1, 1, 1, 1], [21, 103, 20, 20, 20, 20], [2, 2, 0, 0, 0, 0], [2, 0, 0, 0, 0, 0], [2, 10])
def T_10 : zOb := (ks_10, [ks_9, ks_8, ks_7, ks_6, ks_5, ks_4], 0, kc_0)
def ks_11 : tSC := (10, 2, 5, [1, 3, 2, 5, 7, 0, 0, 0, 0, 0, 0, 0, 0, 0, 0, 0, 0, 0, 0, 0], [(-1), 1, (-1), 2, (-1), 0, 0, 0, 0, 0, 0, 0, 0, 0, 0, 0, 0, 0, 0, 0], [20, 15, 9, 99, 10, 0, 0, 0, 0, 0, 0, 0, 0, 0, 0, 0, 0, 0, 0, 0], [0, 1, 2, 2, 12, 0, 0, 0, 0, 0, 0, 0, 0, 0, 0, 0, 0, 0, 0, 0], [0, 0, 0, 0, 0, 0], [31, 8, 1, 1, 1, 1], [164, 103, 20, 20, 20, 20], [2, 2, 0, 0, 0, 0], [2, 0, 0, 0, 0, 0], [2, 10])
def T_11 : zOb := (ks_11, [ks_10, ks_9, ks_8, ks_7, ks_6, ks_5], 0, kc_0)
def ks_12 : tSC := (10, 2, 4, [1, 3, 2, 5, 7, 0, 0, 0, 0, 0, 0, 0, 0, 0, 0, 0, 0, 0, 0, 0], [(-1), 1, (-1), 2, (-1), 0, 0, 0, 0, 0, 0, 0, 0, 0, 0, 0, 0, 0, 0, 0], [20, 15, 9, 99, 10, 0, 0, 0, 0, 0, 0, 0, 0, 0, 0, 0, 0, 0, 0, 0], [0, 1, 2, 2, 12, 0, 0, 0, 0, 0, 0, 0, 0, 0, 0, 0, 0, 0, 0, 0], [0, 0, 0, 0, 0, 0], [15, 8, 1, 1, 1, 1], [164, 103, 20, 20, 20, 20], [2, 2, 0, 0, 0, 0], [2, 0, 0, 0, 0, 0], [2, 10])
def T_12 : zOb := (ks_12, [ks_11, ks_10, ks_9, ks_8, ks_7, ks_6], 0, kc_0)
def ks_13 : tSC := (10, 2, 4, [1, 3, 2, 2, 7, 0, 0, 0, 0, 0, 0, 0, 0, 0, 0, 0, 0, 0, 0, 0], [(-1), 1, (-1), (-1), (-1), 0, 0, 0, 0, 0, 0, 0, 0, 0, 0, 0, 0, 0, 0, 0], [20, 15, 9, 99, 10, 0, 0, 0, 0, 0, 0, 0, 0, 0, 0, 0, 0, 0, 0, 0], [0, 1, 2, 4, 12, 0, 0, 0, 0, 0, 0, 0, 0, 0, 0, 0, 0, 0, 0, 0], [0, 0, 0, 0, 0, 0], [15, 8, 1, 1, 1, 1], [164, 103, 20, 20, 20, 20], [2, 2, 0, 0, 0, 0], [2, 0, 0, 0, 0, 0], [2, 10])
def T_13 : zOb := (ks_13, [ks_12, ks_11, ks_10, ks_9, ks_8, ks_7], 0, kc_0)
def T_14 : zOb := (ks_12, [ks_11, ks_10, ks_9, ks_8, ks_7], 0, kc_0)
def T_15 : zOb := (ks_11, [ks_10, ks_9, ks_8, ks_7], 0, kc_0)
def ks_14 : tSC := (0, 0, 1, [1, 0, 0, 0, 0, 0, 0, 0, 0, 0, 0, 0, 0, 0, 0, 0, 0, 0, 0, 0], [0, 0, 0, 0, 0, 0, 0, 0, 0, 0, 0, 0, 0, 0, 0, 0, 0, 0, 0, 0], [1, 0, 0, 0, 0, 0, 0, 0, 0, 0, 0, 0, 0, 0, 0, 0, 0, 0, 0, 0], [0, 0, 0, 0, 0, 0, 0, 0, 0, 0, 0, 0, 0, 0, 0, 0, 0, 0, 0, 0], [0, 0, 0, 0, 0, 0], [0, 0, 0, 0, 0, 0], [0, 0, 0, 0, 0, 0], [0, 0, 0, 0, 0, 0], [0, 0, 0, 0, 0, 0], [4, 10])
def T_16 : zOb := (ks_14, [ks_0], 0, kc_0)
def ks_15 : tSC := (0, 0, 2, [1, 1, 0, 0, 0, 0, 0, 0, 0, 0, 0, 0, 0, 0, 0, 0, 0, 0, 0, 0], [0, 0, 0, 0, 0, 0, 0, 0, 0, 0, 0, 0, 0, 0, 0, 0, 0, 0, 0, 0], [1, 2, 0, 0, 0, 0, 0, 0, 0, 0, 0, 0, 0, 0, 0, 0, 0, 0, 0, 0], [0, 1, 0, 0, 0, 0, 0, 0, 0, 0, 0, 0, 0, 0, 0, 0, 0, 0, 0, 0], [0, 0, 0, 0, 0, 0], [0, 0, 0, 0, 0, 0], [0, 0, 0, 0, 0, 0], [0, 0, 0, 0, 0, 0], [0, 0, 0, 0, 0, 0], [4, 10])
def T_17 : zOb := (ks_15, [ks_14, ks_0], 0, kc_0)
def ks_16 : tSC := (0, 0, 3, [1, 1, 1, 0, 0, 0, 0, 0, 0, 0, 0, 0, 0, 0, 0, 0, 0, 0, 0, 0], [0, 0, 0, 0, 0, 0, 0, 0, 0, 0, 0, 0, 0, 0, 0, 0, 0, 0, 0, 0], [1, 2, 3, 0, 0, 0, 0, 0, 0, 0, 0, 0, 0, 0, 0, 0, 0, 0, 0, 0], [0, 1, 2, 0, 0, 0, 0, 0, 0, 0, 0, 0, 0, 0, 0, 0, 0, 0, 0, 0], [0, 0, 0, 0, 0, 0], [0, 0, 0, 0, 0, 0], [0, 0, 0, 0, 0, 0], [0, 0, 0, 0, 0, 0], [0, 0, 0, 0, 0, 0], [4, 10])
def T_18 : zOb := (ks_16, [ks_15, ks_14, ks_0], 0, kc_0)
def ks_17 : tSC := (0, 0, 4, [1, 1, 1, 1, 0, 0, 0, 0, 0, 0, 0, 0, 0, 0, 0, 0, 0, 0, 0, 0], [0, 0, 0, 0, 0, 0, 0, 0, 0, 0, 0, 0, 0, 0, 0, 0, 0, 0, 0, 0], [1, 2, 3, 4, 0, 0, 0, 0, 0, 0, 0, 0, 0, 0, 0, 0, 0, 0, 0, 0], [0, 1, 2, 4, 0, 0, 0, 0, 0, 0, 0, 0, 0, 0, 0, 0, 0, 0, 0, 0], [0, 0, 0, 0, 0, 0], [0, 0, 0, 0, 0, 0], [0, 0, 0, 0, 0, 0], [0, 0, 0, 0, 0, 0], [0, 0, 0, 0, 0, 0], [4, 10])
def T_19 : zOb := (ks_17, [ks_16, ks_15, ks_14, ks_0], 0, kc_0)
def ks_18 : tSC := (0, 0, 5, [1, 1, 1, 1, 1, 0, 0, 0, 0, 0, 0, 0, 0, 0, 0, 0, 0, 0, 0, 0], [0, 0, 0, 0, 0, 0, 0, 0, 0, 0, 0, 0, 0, 0, 0, 0, 0, 0, 0, 0], [1, 2, 3, 4, 5, 0, 0, 0, 0, 0, 0, 0, 0, 0, 0, 0, 0, 0, 0, 0], [0, 1, 2, 4, 8, 0, 0, 0, 0, 0, 0, 0, 0, 0, 0, 0, 0, 0, 0, 0], [0, 0, 0, 0, 0, 0], [0, 0, 0, 0, 0, 0], [0, 0, 0, 0, 0, 0], [0, 0, 0, 0, 0, 0], [0, 0, 0, 0, 0, 0], [4, 10])
def T_20 : zOb := (ks_18, [ks_17, ks_16, ks_15, ks_14, ks_0], 0, kc_0)
def ks_19 : tSC := (0, 0, 6, [1, 1, 1, 1, 1, 1, 0, 0, 0, 0, 0, 0, 0, 0, 0, 0, 0, 0, 0, 0], [0, 0, 0, 0, 0, 0, 0, 0, 0, 0, 0, 0, 0, 0, 0, 0, 0, 0, 0, 0], [1, 2, 3, 4, 5, 6, 0, 0, 0, 0, 0, 0, 0, 0, 0, 0, 0, 0, 0, 0], [0, 1, 2, 4, 8, 16, 0, 0, 0, 0, 0, 0, 0, 0, 0, 0, 0, 0, 0, 0], [0, 0, 0, 0, 0, 0], [0, 0, 0, 0, 0, 0], [0, 0, 0, 0, 0, 0], [0, 0, 0, 0, 0, 0], [0, 0, 0, 0, 0, 0], [4, 10])
def T_21 : zOb := (ks_19, [ks_18, ks_17, ks_16, ks_15, ks_14, ks_0], 0, kc_0)
def ks_20 : tSC := (0, 0, 7, [1, 1, 1, 1, 1, 1, 1, 0, 0, 0, 0, 0, 0, 0, 0, 0, 0, 0, 0, 0], [0, 0, 0, 0, 0, 0, 0, 0, 0, 0, 0, 0, 0, 0, 0, 0, 0, 0, 0, 0], [1, 2, 3, 4, 5, 6, 7, 0, 0, 0, 0, 0, 0, 0, 0, 0, 0, 0, 0, 0], [0, 1, 2, 4, 8, 16, 32, 0, 0, 0, 0, 0, 0, 0, 0, 0, 0, 0, 0, 0], [0, 0, 0, 0, 0, 0], [0, 0, 0, 0, 0, 0], [0, 0, 0, 0, 0, 0], [0, 0, 0, 0, 0, 0], [0, 0, 0, 0, 0, 0], [4, 10])
def T_22 : zOb := (ks_20, [ks_19, ks_18, ks_17, ks_16, ks_15, ks_14], 0, kc_0)
def ks_21 : tSC := (0, 0, 8, [1, 1, 1, 1, 1, 1, 1, 1, 0, 0, 0, 0, 0, 0, 0, 0, 0, 0, 0, 0], [0, 0, 0, 0, 0, 0, 0, 0, 0, 0, 0, 0, 0, 0, 0, 0, 0, 0, 0, 0], [1, 2, 3, 4, 5, 6, 7, 8, 0, 0, 0, 0, 0, 0, 0, 0, 0, 0, 0, 0], [0, 1, 2, 4, 8, 16, 32, 64, 0, 0, 0, 0, 0, 0, 0, 0, 0, 0, 0, 0], [0, 0, 0, 0, 0, 0], [0, 0, 0, 0, 0, 0], [0, 0, 0, 0, 0, 0], [0, 0, 0, 0, 0, 0], [0, 0, 0, 0, 0, 0], [4, 10])
def T_23 : zOb := (ks_21, [ks_20, ks_19, ks_18, ks_17, ks_16, ks_15], 0, kc_0)
def ks_22 : tSC := (0, 0, 9, [1, 1, 1, 1, 1, 1, 1, 1, 1, 0, 0, 0, 0, 0, 0, 0, 0, 0, 0, 0], [0, 0, 0, 0, 0, 0, 0, 0, 0, 0, 0, 0, 0, 0, 0, 0, 0, 0, 0, 0], [1, 2, 3, 4, 5, 6, 7, 8, 9, 0, 0, 0, 0, 0, 0, 0, 0, 0, 0, 0], [0, 1, 2, 4, 8, 16, 32, 64, 128, 0, 0, 0, 0, 0, 0, 0, 0, 0, 0, 0], [0, 0, 0, 0, 0, 0], [0, 0, 0, 0, 0, 0], [0, 0, 0, 0, 0, 0], [0, 0, 0, 0, 0, 0], [0, 0, 0, 0, 0, 0], [4, 10])
def T_24 : zOb := (ks_22, [ks_21, ks_20, ks_19, ks_18, ks_17, ks_16], 0, kc_0)
def ks_23 : tSC := (0, 0, 10, [1, 1, 1, 1, 1, 1, 1, 1, 1, 1, 0, 0, 0, 0, 0, 0, 0, 0, 0, 0], [0, 0, 0, 0, 0, 0, 0, 0, 0, 0, 0, 0, 0, 0, 0, 0, 0, 0, 0, 0], [1, 2, 3, 4, 5, 6, 7, 8, 9, 10, 0, 0, 0, 0, 0, 0, 0, 0, 0, 0], [0, 1, 2, 4, 8, 16, 32, 64, 128, 256, 0, 0, 0, 0, 0, 0, 0, 0, 0, 0], [0, 0, 0, 0, 0, 0], [0, 0, 0, 0, 0, 0], [0, 0, 0, 0, 0, 0], [0, 0, 0, 0, 0, 0], [0, 0, 0, 0, 0, 0], [4, 10])
def T_25 : zOb := (ks_23, [ks_22, ks_21, ks_20, ks_19, ks_18, ks_17], 0, kc_0)
def ks_24 : tSC := (0, 0, 11, [1, 1, 1, 1, 1, 1, 1, 1, 1, 1, 1, 0, 0, 0, 0, 0, 0, 0, 0, 0], [0, 0, 0, 0, 0, 0, 0, 0, 0, 0, 0, 0, 0, 0, 0, 0, 0, 0, 0, 0], [1, 2, 3, 4, 5, 6, 7, 8, 9, 10, 11, 0, 0, 0, 0, 0, 0, 0, 0, 0], [0, 1, 2, 4, 8, 16, 32, 64, 128, 256, 512, 0, 0, 0, 0, 0, 0, 0, 0, 0], [0, 0, 0, 0, 0, 0], [0, 0, 0, 0, 0, 0], [0, 0, 0, 0, 0, 0], [0, 0, 0, 0, 0, 0], [0, 0, 0, 0, 0, 0], [4, 10])
def T_26 : zOb := (ks_24, [ks_23, ks_22, ks_21, ks_20, ks_19, ks_18], 0, kc_0)
def ks_25 : tSC := (0, 0, 12, [1, 1, 1, 1, 1, 1, 1, 1, 1, 1, 1, 1, 0, 0, 0, 0, 0, 0, 0, 0], [0, 0, 0, 0, 0, 0, 0, 0, 0, 0, 0, 0, 0, 0, 0, 0, 0, 0, 0, 0], [1, 2, 3, 4, 5, 6, 7, 8, 9, 10, 11, 12, 0, 0, 0, 0, 0, 0, 0, 0], [0, 1, 2, 4, 8, 16, 32, 64, 128, 256, 512, 1024, 0, 0, 0, 0, 0, 0, 0, 0], [0, 0, 0, 0, 0, 0], [0, 0, 0, 0, 0, 0], [0, 0, 0, 0, 0, 0], [0, 0, 0, 0, 0, 0], [0, 0, 0, 0, 0, 0], [4, 10])
def T_27 : zOb := (ks_25, [ks_24, ks_23, ks_22, ks_21, ks_20, ks_19], 0, kc_0)
def ks_26 : tSC := (0, 0, 13, [1, 1, 1, 1, 1, 1, 1, 1, 1, 1, 1, 1, 1, 0, 0, 0, 0, 0, 0, 0], [0, 0, 0, 0, 0, 0, 0, 0, 0, 0, 0, 0, 0, 0, 0, 0, 0, 0, 0, 0], [1, 2, 3, 4, 5, 6, 7, 8, 9, 10, 11, 12, 13, 0, 0, 0, 0, 0, 0, 0], [0, 1, 2, 4, 8, 16, 32, 64, 128, 256, 512, 1024, 2048, 0, 0, 0, 0, 0, 0, 0], [0, 0, 0, 0, 0, 0], [0, 0, 0, 0, 0, 0], [0, 0, 0, 0, 0, 0], [0, 0, 0, 0, 0, 0], [0, 0, 0, 0, 0, 0], [4, 10])
def T_28 : zOb := (ks_26, [ks_25, ks_24, ks_23, ks_22, ks_21, ks_20], 0, kc_0)
def ks_27 : tSC := (0, 0, 14, [1, 1, 1, 1, 1, 1, 1, 1, 1, 1, 1, 1, 1, 1, 0, 0, 0, 0, 0, 0], [0, 0, 0, 0, 0, 0, 0, 0, 0, 0, 0, 0, 0, 0, 0, 0, 0, 0, 0, 0], [1, 2, 3, 4, 5, 6, 7, 8, 9, 10, 11, 12, 13, 14, 0, 0, 0, 0, 0, 0], [0, 1, 2, 4, 8, 16, 32, 64, 128, 256, 512, 1024, 2048, 4096, 0, 0, 0, 0, 0, 0], [0, 0, 0, 0, 0, 0], [0, 0, 0, 0, 0, 0], [0, 0, 0, 0, 0, 0], [0, 0, 0, 0, 0, 0], [0, 0, 0, 0, 0, 0], [4, 10])
def T_29 : zOb := (ks_27, [ks_26, ks_25, ks_24, ks_23, ks_22, ks_21], 0, kc_0)
def ks_28 : tSC := (0, 0, 15, [1, 1, 1, 1, 1, 1, 1, 1, 1, 1, 1, 1, 1, 1, 1, 0, 0, 0, 0, 0], [0, 0, 0, 0, 0, 0, 0, 0, 0, 0, 0, 0, 0, 0, 0, 0, 0, 0, 0, 0], [1, 2, 3, 4, 5, 6, 7, 8, 9, 10, 11, 12, 13, 14, 15, 0, 0, 0, 0, 0], [0, 1, 2, 4, 8, 16, 32, 64, 128, 256, 512, 1024, 2048, 4096, 8192, 0, 0, 0, 0, 0], [0, 0, 0, 0, 0, 0], [0, 0, 0, 0, 0, 0], [0, 0, 0, 0, 0, 0], [0, 0, 0, 0, 0, 0], [0, 0, 0, 0, 0, 0], [4, 10])
def T_30 : zOb := (ks_28, [ks_27, ks_26, ks_25, ks_24, ks_23, ks_22], 0, kc_0)
def ks_29 : tSC := (0, 0, 16, [1, 1, 1, 1, 1, 1, 1, 1, 1, 1, 1, 1, 1, 1, 1, 1, 0, 0, 0, 0], [0, 0, 0, 0, 0, 0, 0, 0, 0, 0, 0, 0, 0, 0, 0, 0, 0, 0, 0, 0], [1, 2, 3, 4, 5, 6, 7, 8, 9, 10, 11, 12, 13, 14, 15, 16, 0, 0, 0, 0], [0, 1, 2, 4, 8, 16, 32, 64, 128, 256, 512, 1024, 2048, 4096, 8192, 16384, 0, 0, 0, 0], [0, 0, 0, 0, 0, 0], [0, 0, 0, 0, 0, 0], [0, 0, 0, 0, 0, 0], [0, 0, 0, 0, 0, 0], [0, 0, 0, 0, 0, 0], [4, 10])
def T_31 : zOb := (ks_29, [ks_28, ks_27, ks_26, ks_25, ks_24, ks_23], 0, kc_0)
def ks_30 : tSC := (0, 0, 17, [1, 1, 1, 1, 1, 1, 1, 1, 1, 1, 1, 1, 1, 1, 1, 1, 1, 0, 0, 0], [0, 0, 0, 0, 0, 0, 0, 0, 0, 0, 0, 0, 0, 0, 0, 0, 0, 0, 0, 0], [1, 2, 3, 4, 5, 6, 7, 8, 9, 10, 11, 12, 13, 14, 15, 16, 17, 0, 0, 0], [0, 1, 2, 4, 8, 16, 32, 64, 128, 256, 512, 1024, 2048, 4096, 8192, 16384, 32768, 0, 0, 0], [0, 0, 0, 0, 0, 0], [0, 0, 0, 0, 0, 0], [0, 0, 0, 0, 0, 0], [0, 0, 0, 0, 0, 0], [0, 0, 0, 0, 0, 0], [4, 10])
def T_32 : zOb := (ks_30, [ks_29, ks_28, ks_27, ks_26, ks_25, ks_24], 0, kc_0)
def ks_31 : tSC := (0, 0, 18, [1, 1, 1, 1, 1, 1, 1, 1, 1, 1, 1, 1, 1, 1, 1, 1, 1, 1, 0, 0], [0, 0, 0, 0, 0, 0, 0, 0, 0, 0, 0, 0, 0, 0, 0, 0, 0, 0, 0, 0], [1, 2, 3, 4, 5, 6, 7, 8, 9, 10, 11, 12, 13, 14, 15, 16, 17, 18, 0, 0], [0, 1, 2, 4, 8, 16, 32, 64, 128, 256, 512, 1024, 2048, 4096, 8192, 16384, 32768, 65536, 0, 0], [0, 0, 0, 0, 0, 0], [0, 0, 0, 0, 0, 0], [0, 0, 0, 0, 0, 0], [0, 0, 0, 0, 0, 0], [0, 0, 0, 0, 0, 0], [4, 10])
def T_33 : zOb := (ks_31, [ks_30, ks_29, ks_28, ks_27, ks_26, ks_25], 0, kc_0)
def ks_32 : tSC := (0, 0, 19, [1, 1, 1, 1, 1, 1, 1, 1, 1, 1, 1, 1, 1, 1, 1, 1, 1, 1, 1, 0], [0, 0, 0, 0, 0, 0, 0, 0, 0, 0, 0, 0, 0, 0, 0, 0, 0, 0, 0, 0], [1, 2, 3, 4, 5, 6, 7, 8, 9, 10, 11, 12, 13, 14, 15, 16, 17, 18, 19, 0], [0, 1, 2, 4, 8, 16, 32, 64, 128, 256, 512, 1024, 2048, 4096, 8192, 16384, 32768, 65536, 131072, 0], [0, 0, 0, 0, 0, 0], [0, 0, 0, 0, 0, 0], [0, 0, 0, 0, 0, 0], [0, 0, 0, 0, 0, 0], [0, 0, 0, 0, 0, 0], [4, 10])
def T_34 : zOb := (ks_32, [ks_31, ks_30, ks_29, ks_28, ks_27, ks_26], 0, kc_0)
def ks_33 : tSC := (0, 0, 20, [1, 1, 1, 1, 1, 1, 1, 1, 1, 1, 1, 1, 1, 1, 1, 1, 1, 1, 1, 1], [0, 0, 0, 0, 0, 0, 0, 0, 0, 0, 0, 0, 0, 0, 0, 0, 0, 0, 0, 0], [1, 2, 3, 4, 5, 6, 7, 8, 9, 10, 11, 12, 13, 14, 15, 16, 17, 18, 19, 20], [0, 1, 2, 4, 8, 16, 32, 64, 128, 256, 512, 1024, 2048, 4096, 8192, 16384, 32768, 65536, 131072, 262144], [0, 0, 0, 0, 0, 0], [0, 0, 0, 0, 0, 0], [0, 0, 0, 0, 0, 0], [0, 0, 0, 0, 0, 0], [0, 0, 0, 0, 0, 0], [4, 10])
def T_35 : zOb := (ks_33, [ks_32, ks_31, ks_30, ks_29, ks_28, ks_27], 0, kc_0)
def kc_1 : List Int32 := [48, 0, 0, 0, 0, 0, 0, 0, 0, 0, 0, 0, 0, 0, 0, 0, 0, 0, 0, 0, 0, 0, 0, 0, 0, 0, 0, 0, 0, 0, 0, 0, 0, 0, 0, 0, 0, 0, 0, 0, 0, 0, 0, 0, 0, 0, 0, 0, 0, 0, 0, 0, 0, 0, 0, 0, 0, 0, 0, 0]
def T_36 : zOb := (ks_33, [ks_32, ks_31, ks_30, ks_29, ks_28, ks_27], 1, kc_1)
def T_37 : zOb := (ks_33, [ks_32, ks_31, ks_30, ks_29, ks_28, ks_27], 0, kc_1)
def ks_34 : tSC := (0, 0, 20, [1, 1, 1, 1, 1, 1, 1, 1, 1, 1, 1, 1, 1, 1, 1, 1, 1, 1, 1, 1], [0, 0, 0, 0, 0, 0, 0, 0, 0, 0, 0, 0, 0, 0, 0, 0, 0, 0, 0, 0], [1, 2, 3, 4, 5, 6, 7, 8, 9, 10, 11, 12, 13, 14, 15, 16, 17, 18, 19, 20], [0, 1, 2, 4, 8, 16, 32, 64, 128, 256, 512, 1024, 2048, 4096, 8192, 16384, 32768, 65536, 131072, 262144], [0, 0, 0, 0, 0, 0], [0, 0, 0, 0, 0, 0], [0, 0, 0, 0, 0, 0], [0, 0, 0, 0, 0, 0], [0, 0, 0, 0, 0, 0], [19, 10])
def T_38 : zOb := (ks_34, [ks_33, ks_32, ks_31, ks_30, ks_29, ks_28], 0, kc_1)
def ks_35 : tSC := (0, 0, 20, [1, 1, 1, 1, 1, 1, 1, 1, 1, 1, 1, 1, 1, 1, 1, 1, 1, 1, 1, 1], [0, 0, 0, 0, 0, 0, 0, 0, 0, 0, 0, 0, 0, 0, 0, 0, 0, 0, 0, 0], [1, 2, 3, 4, 5, 6, 7, 8, 9, 10, 11, 12, 13, 14, 15, 16, 17, 18, 19, 20], [0, 1, 2, 4, 8, 16, 32, 64, 128, 256, 512, 1024, 2048, 4096, 8192, 16384, 32768, 65536, 131072, 262144], [0, 0, 0, 0, 0, 0], [0, 0, 0, 0, 0, 0], [0, 0, 0, 0, 0, 0], [0, 0, 0, 0, 0, 0], [0, 0, 0, 0, 0, 0], [19, 20])
def T_39 : zOb := (ks_35, [ks_34, ks_33, ks_32, ks_31, ks_30, ks_29], 0, kc_1)
def ks_36 : tSC := (1, 0, 20, [1, 1, 1, 1, 1, 1, 1, 1, 1, 1, 1, 1, 1, 1, 1, 1, 1, 1, 1, 1], [0, 0, 0, 0, 0, 0, 0, 0, 0, 0, 0, 0, 0, 0, 0, 0, 0, 0, 0, 0], [1, 2, 3, 4, 5, 6, 7, 8, 9, 10, 11, 12, 13, 14, 15, 16, 17, 18, 19, 20], [0, 1, 2, 4, 8, 16, 32, 64, 128, 256, 512, 1024, 2048, 4096, 8192, 16384, 32768, 65536, 131072, 262144], [0, 0, 0, 524287, 0, 0], [0, 0, 0, 524288, 0, 0], [0, 0, 0, 39, 0, 0], [0, 0, 0, 19, 0, 0], [0, 0, 0, 0, 0, 0], [19, 20])
def T_40 : zOb := (ks_36, [ks_35, ks_34, ks_33, ks_32, ks_31, ks_30], 0, kc_1)
theorem T_new : s_new = T_0 := sb_ok (by decide +kernel)
theorem fc_0 : s_told T_0 10 0 0 0 = some ((-12), T_0) := st_ok (by decide +kernel)
theorem fc_1 : s_told T_0 2 0 0 0 = some ((-12), T_0) := st_ok (by decide +kernel)
theorem fc_2 : fX6_readShare (tF T_0.1).2.2.1 (tF T_0.1).2.2.2.2.2.2.2.2.1 = some FP.dconst1 := by decide +kernel
theorem fc_3 : s_count T_0 5 = some (.inr 6, T_0) := lk_count (by decide +kernel)
theorem fc_4 : s_easiest T_0 0 = some (.inr (-1), T_0) := lk_easiest (by decide +kernel)
theorem fc_5 : s_enough T_0 5 = some (.inr 0, T_0) := lk_enough (by decide +kernel)
theorem fc_6 : s_add T_0 1 (-1) 20 = some (.inr 0, T_1) := sa_ok (by decide +kernel)
theorem fc_7 : s_add T_1 3 1 15 = some (.inr 1, T_2) := sa_ok (by decide +kernel)
theorem fc_8 : s_add T_2 2 (-1) 9 = some (.inr 2, T_3) := sa_ok (by decide +kernel)
theorem fc_9 : s_add T_3 5 2 99 = some (.inr 3, T_4) := sa_ok (by decide +kernel)
theorem fc_10 : s_add T_4 7 (-1) 10 = some (.inr 4, T_5) := sa_ok (by decide +kernel)
theorem fc_11 : s_part T_5 1 3 = some (.inr 1, T_5) := lk_part (by decide +kernel)
theorem fc_12 : s_part T_5 2 3 = some (.inr 2, T_5) := lk_part (by decide +kernel)
theorem fc_13 : s_part T_5 3 3 = some (.inr 2, T_5) := lk_part (by decide +kernel)
theorem fc_14 : s_part T_5 4 3 = some (.inr 12, T_5) := lk_part (by decide +kernel)
theorem fc_15 : s_part T_5 4 6 = some (.inr 4, T_5) := lk_part (by decide +kernel)
theorem fc_16 : s_part T_5 1 4 = some (.inr 2, T_5) := lk_part (by decide +kernel)
theorem fc_17 : s_part T_5 0 6 = some (.inr 0, T_5) := lk_part (by decide +kernel)
theorem fc_18 : s_part T_5 3 1 = some (.inr 2, T_5) := lk_part (by decide +kernel)
theorem fc_19 : s_part T_5 4 1 = some (.inr (-1), T_5) := lk_part (by decide +kernel)
theorem fc_20 : s_count T_5 1 = some (.inr 153, T_5) := lk_count (by decide +kernel)
theorem fc_21 : s_recap T_5 0 4 0 = some (.inr 4, T_5) := lk_recap (by decide +kernel)
theorem fc_22 : s_recap T_5 0 4 1 = some (.inr 15, T_5) := lk_recap (by decide +kernel)
theorem fc_23 : s_recap T_5 0 4 2 = some (.inr 15, T_5) := lk_recap (by decide +kernel)
theorem fc_24 : s_recap T_5 0 4 3 = some (.inr 0, T_5) := lk_recap (by decide +kernel)
theorem fc_25 : s_recap T_5 0 4 4 = some (.inr 25, T_5) := lk_recap (by decide +kernel)
theorem fc_26 : s_set T_5 0 2 = some (.inr 4, T_6) := sa_ok (by decide +kernel)
theorem fc_27 : s_recap T_6 0 4 2 = some (.inr 12, T_6) := lk_recap (by decide +kernel)
theorem fc_28 : s_recap T_6 0 4 1 = some (.inr 11, T_6) := lk_recap (by decide +kernel)
theorem fc_29 : s_recap T_6 0 4 3 = some (.inr 2, T_6) := lk_recap (by decide +kernel)
theorem fc_30 : s_easiest T_6 0 = some (.inr 2, T_6) := lk_easiest (by decide +kernel)
theorem fc_31 : s_enough T_6 0 = some (.inr 4, T_6) := lk_enough (by decide +kernel)
theorem fc_32 : s_mail T_6 0 4 = some (.inr 2, T_7) := sa_ok (by decide +kernel)
theorem fc_33 : s_told T_7 4 0 4 0 = some ((-12), T_7) := st_ok (by decide +kernel)
theorem fc_34 : s_knows T_7 0 3 = some (.inr 1, T_7) := lk_knows (by decide +kernel)
theorem fc_35 : s_knows T_7 0 4 = some (.inr 2, T_7) := lk_knows (by decide +kernel)
theorem fc_36 : s_knows T_7 0 1 = some (.inr 0, T_7) := lk_knows (by decide +kernel)
theorem fc_37 : s_reader T_7 0 3 = some (.inr 0, T_7) := lk_reader (by decide +kernel)
theorem fc_38 : s_reader T_7 0 4 = some (.inr 21, T_7) := lk_reader (by decide +kernel)
theorem fc_39 : s_reader T_7 0 5 = some (.inr 2, T_7) := lk_reader (by decide +kernel)
theorem fc_40 : s_reader T_7 0 6 = some (.inr 2, T_7) := lk_reader (by decide +kernel)
theorem fc_41 : s_recap T_7 0 2 0 = some (.inr 2, T_7) := lk_recap (by decide +kernel)
theorem fc_42 : s_mail T_7 1 3 = some (.inr 2, T_8) := sa_ok (by decide +kernel)
theorem fc_43 : s_reader T_8 1 4 = some (.inr 103, T_8) := lk_reader (by decide +kernel)
theorem fc_44 : s_reader T_8 1 1 = some (.inr 2, T_8) := lk_reader (by decide +kernel)
theorem fc_45 : s_reader T_8 1 3 = some (.inr 6, T_8) := lk_reader (by decide +kernel)
theorem fc_46 : s_plot T_8 1 3 = some (.inr 1, T_8) := lk_plot (by decide +kernel)
theorem fc_47 : s_plot T_8 2 3 = some (.inr 1, T_8) := lk_plot (by decide +kernel)
theorem fc_48 : s_plot T_8 0 0 = some (.inr 4, T_8) := lk_plot (by decide +kernel)
theorem fc_49 : s_plot T_8 0 1 = some (.inr 4, T_8) := lk_plot (by decide +kernel)
theorem fc_50 : s_plot T_8 5 1 = some (.inr (-1), T_8) := lk_plot (by decide +kernel)
theorem fc_51 : s_plot T_8 2 2 = some (.inr 1, T_8) := lk_plot (by decide +kernel)
theorem fc_52 : s_mailAll T_8 0 3 = some (.inr 4, T_9) := sa_ok (by decide +kernel)
theorem fc_53 : s_count T_9 3 = some (.inr 2, T_9) := lk_count (by decide +kernel)
theorem fc_54 : s_count T_9 2 = some (.inr 6, T_9) := lk_count (by decide +kernel)
theorem fc_55 : s_knows T_9 2 0 = some (.inr 2, T_9) := lk_knows (by decide +kernel)
theorem fc_56 : s_part T_9 0 5 = some (.inr 60, T_9) := lk_part (by decide +kernel)
theorem fc_57 : s_forget T_9 1 = some (.inr 2, T_10) := sa_ok (by decide +kernel)
theorem fc_58 : s_reader T_10 1 3 = some (.inr 4, T_10) := lk_reader (by decide +kernel)
theorem fc_59 : s_catchUp T_10 0 = some (.inr 143, T_11) := sa_ok (by decide +kernel)
theorem fc_60 : s_reader T_11 0 0 = some (.inr 5, T_11) := lk_reader (by decide +kernel)
theorem fc_61 : s_count T_11 5 = some (.inr 1, T_11) := lk_count (by decide +kernel)
theorem fc_62 : s_count T_11 4 = some (.inr 347, T_11) := lk_count (by decide +kernel)
theorem fc_63 : fX6_readShare (tF T_11.1).2.2.1 (tF T_11.1).2.2.2.2.2.2.2.2.1 = some 4599676419421066581 := by decide +kernel
theorem fc_64 : s_easiest T_11 0 = some (.inr (-1), T_11) := lk_easiest (by decide +kernel)
theorem fc_65 : s_enough T_11 0 = some (.inr 0, T_11) := lk_enough (by decide +kernel)
theorem fc_66 : s_removeLast T_11  = some (.inr 1, T_12) := sa_ok (by decide +kernel)
theorem fc_67 : s_count T_12 0 = some (.inr 4, T_12) := lk_count (by decide +kernel)
theorem fc_68 : s_change T_12 3 2 (-1) = some (.inr 5, T_13) := sa_ok (by decide +kernel)
theorem fc_69 : s_part T_13 3 3 = some (.inr 4, T_13) := lk_part (by decide +kernel)
theorem fc_70 : s_part T_13 3 2 = some (.inr 99, T_13) := lk_part (by decide +kernel)
theorem fc_71 : s_knows T_13 0 3 = some (.inr 2, T_13) := lk_knows (by decide +kernel)
theorem fc_72 : s_count T_13 6 = some (.inr 6, T_13) := lk_count (by decide +kernel)
theorem fc_73 : s_undo T_13  = some (.inr 5, T_14) := sa_ok (by decide +kernel)
theorem fc_74 : s_part T_14 3 0 = some (.inr 5, T_14) := lk_part (by decide +kernel)
theorem fc_75 : s_undo T_14  = some (.inr 4, T_15) := sa_ok (by decide +kernel)
theorem fc_76 : s_count T_15 0 = some (.inr 5, T_15) := lk_count (by decide +kernel)
theorem fc_77 : s_knows T_15 0 4 = some (.inr 2, T_15) := lk_knows (by decide +kernel)
theorem fc_78 : s_add T_0 1 0 1 = some (.inr 0, T_16) := sa_ok (by decide +kernel)
theorem fc_79 : s_add T_16 1 0 2 = some (.inr 1, T_17) := sa_ok (by decide +kernel)
theorem fc_80 : s_add T_17 1 0 3 = some (.inr 2, T_18) := sa_ok (by decide +kernel)
theorem fc_81 : s_add T_18 1 0 4 = some (.inr 3, T_19) := sa_ok (by decide +kernel)
theorem fc_82 : s_add T_19 1 0 5 = some (.inr 4, T_20) := sa_ok (by decide +kernel)
theorem fc_83 : s_add T_20 1 0 6 = some (.inr 5, T_21) := sa_ok (by decide +kernel)
theorem fc_84 : s_add T_21 1 0 7 = some (.inr 6, T_22) := sa_ok (by decide +kernel)
theorem fc_85 : s_add T_22 1 0 8 = some (.inr 7, T_23) := sa_ok (by decide +kernel)
theorem fc_86 : s_add T_23 1 0 9 = some (.inr 8, T_24) := sa_ok (by decide +kernel)
theorem fc_87 : s_add T_24 1 0 10 = some (.inr 9, T_25) := sa_ok (by decide +kernel)
theorem fc_88 : s_add T_25 1 0 11 = some (.inr 10, T_26) := sa_ok (by decide +kernel)
theorem fc_89 : s_add T_26 1 0 12 = some (.inr 11, T_27) := sa_ok (by decide +kernel)
theorem fc_90 : s_add T_27 1 0 13 = some (.inr 12, T_28) := sa_ok (by decide +kernel)
theorem fc_91 : s_add T_28 1 0 14 = some (.inr 13, T_29) := sa_ok (by decide +kernel)
theorem fc_92 : s_add T_29 1 0 15 = some (.inr 14, T_30) := sa_ok (by decide +kernel)
theorem fc_93 : s_add T_30 1 0 16 = some (.inr 15, T_31) := sa_ok (by decide +kernel)
theorem fc_94 : s_add T_31 1 0 17 = some (.inr 16, T_32) := sa_ok (by decide +kernel)
theorem fc_95 : s_add T_32 1 0 18 = some (.inr 17, T_33) := sa_ok (by decide +kernel)
theorem fc_96 : s_add T_33 1 0 19 = some (.inr 18, T_34) := sa_ok (by decide +kernel)
theorem fc_97 : s_add T_34 1 0 20 = some (.inr 19, T_35) := sa_ok (by decide +kernel)
theorem fc_98 : s_told T_35 0 1 (-1) 5 = some ((-12), T_35) := st_ok (by decide +kernel)
theorem fc_99 : s_told T_35 0 0 (-1) 5 = some ((-11), T_35) := st_ok (by decide +kernel)
theorem fc_100 : s_append T_35 48 = some (.inr 1, T_36) := sa_ok (by decide +kernel)
theorem fc_101 : s_told T_36 9 0 0 0 = some ((-12), T_36) := st_ok (by decide +kernel)
theorem fc_102 : s_clearBuffer T_36  = some (.inr 1, T_37) := sa_ok (by decide +kernel)
theorem fc_103 : s_told T_37 9 0 0 0 = some ((-11), T_37) := st_ok (by decide +kernel)
theorem fc_104 : s_part T_37 19 6 = some (.inr 19, T_37) := lk_part (by decide +kernel)
theorem fc_105 : s_enough T_37 0 = some (.inr 19, T_37) := lk_enough (by decide +kernel)
theorem fc_106 : s_set T_37 0 19 = some (.inr 4, T_38) := sa_ok (by decide +kernel)
theorem fc_107 : s_set T_38 1 20 = some (.inr 10, T_39) := sa_ok (by decide +kernel)
theorem fc_108 : s_mail T_39 3 19 = some (.inr 19, T_40) := sa_ok (by decide +kernel)
theorem fc_109 : s_reader T_40 3 4 = some (.inr 39, T_40) := lk_reader (by decide +kernel)
theorem fc_110 : s_reader T_40 3 3 = some (.inr 1, T_40) := lk_reader (by decide +kernel)
theorem fc_111 : s_plot T_40 0 2 = some (.inr 20, T_40) := lk_plot (by decide +kernel)
