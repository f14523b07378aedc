/-! THE LAW: texts, its states and answers -/
def dOpt : DecidableEq (Option zOb) := by
  have h := dOb
  exact inferInstance
theorem so_ok {x y : Option zOb} (h : @decide (x = y) (dOpt x y) = true) : x = y := @of_decide_eq_true _ (dOpt x y) h
def kc_2 : List Int32 := [49, 48, 0, 0, 0, 0, 0, 0, 0, 0, 0, 0, 0, 0, 0, 0, 0, 0, 0, 0, 0, 0, 0, 0, 0, 0, 0, 0, 0, 0, 0, 0, 0, 0, 0, 0, 0, 0, 0, 0, 0, 0, 0, 0, 0, 0, 0, 0, 0, 0, 0, 0, 0, 0, 0, 0, 0, 0, 0, 0]
def T_41 : zOb := (ks_0, [], 2, kc_2)
def kc_3 : List Int32 := [48, 33, 49, 0, 0, 0, 0, 0, 0, 0, 0, 0, 0, 0, 0, 0, 0, 0, 0, 0, 0, 0, 0, 0, 0, 0, 0, 0, 0, 0, 0, 0, 0, 0, 0, 0, 0, 0, 0, 0, 0, 0, 0, 0, 0, 0, 0, 0, 0, 0, 0, 0, 0, 0, 0, 0, 0, 0, 0, 0]
def T_42 : zOb := (ks_0, [], 3, kc_3)
def kc_4 : List Int32 := [48, 33, 48, 0, 0, 0, 0, 0, 0, 0, 0, 0, 0, 0, 0, 0, 0, 0, 0, 0, 0, 0, 0, 0, 0, 0, 0, 0, 0, 0, 0, 0, 0, 0, 0, 0, 0, 0, 0, 0, 0, 0, 0, 0, 0, 0, 0, 0, 0, 0, 0, 0, 0, 0, 0, 0, 0, 0, 0, 0]
def T_43 : zOb := (ks_0, [], 3, kc_4)
def ks_37 : tSC := (0, 0, 1, [1, 0, 0, 0, 0, 0, 0, 0, 0, 0, 0, 0, 0, 0, 0, 0, 0, 0, 0, 0], [0, 0, 0, 0, 0, 0, 0, 0, 0, 0, 0, 0, 0, 0, 0, 0, 0, 0, 0, 0], [10, 0, 0, 0, 0, 0, 0, 0, 0, 0, 0, 0, 0, 0, 0, 0, 0, 0, 0, 0], [0, 0, 0, 0, 0, 0, 0, 0, 0, 0, 0, 0, 0, 0, 0, 0, 0, 0, 0, 0], [0, 0, 0, 0, 0, 0], [0, 0, 0, 0, 0, 0], [0, 0, 0, 0, 0, 0], [0, 0, 0, 0, 0, 0], [0, 0, 0, 0, 0, 0], [4, 10])
def T_44 : zOb := (ks_37, [ks_0], 0, kc_4)
def kc_5 : List Int32 := [48, 49, 33, 49, 119, 48, 0, 0, 0, 0, 0, 0, 0, 0, 0, 0, 0, 0, 0, 0, 0, 0, 0, 0, 0, 0, 0, 0, 0, 0, 0, 0, 0, 0, 0, 0, 0, 0, 0, 0, 0, 0, 0, 0, 0, 0, 0, 0, 0, 0, 0, 0, 0, 0, 0, 0, 0, 0, 0, 0]
def T_45 : zOb := (ks_0, [], 6, kc_5)
def kc_6 : List Int32 := [48, 119, 0, 0, 0, 0, 0, 0, 0, 0, 0, 0, 0, 0, 0, 0, 0, 0, 0, 0, 0, 0, 0, 0, 0, 0, 0, 0, 0, 0, 0, 0, 0, 0, 0, 0, 0, 0, 0, 0, 0, 0, 0, 0, 0, 0, 0, 0, 0, 0, 0, 0, 0, 0, 0, 0, 0, 0, 0, 0]
def T_46 : zOb := (ks_0, [], 2, kc_6)
def kc_7 : List Int32 := [48, 119, 49, 48, 48, 0, 0, 0, 0, 0, 0, 0, 0, 0, 0, 0, 0, 0, 0, 0, 0, 0, 0, 0, 0, 0, 0, 0, 0, 0, 0, 0, 0, 0, 0, 0, 0, 0, 0, 0, 0, 0, 0, 0, 0, 0, 0, 0, 0, 0, 0, 0, 0, 0, 0, 0, 0, 0, 0, 0]
def T_47 : zOb := (ks_0, [], 5, kc_7)
def kc_8 : List Int32 := [48, 119, 53, 33, 0, 0, 0, 0, 0, 0, 0, 0, 0, 0, 0, 0, 0, 0, 0, 0, 0, 0, 0, 0, 0, 0, 0, 0, 0, 0, 0, 0, 0, 0, 0, 0, 0, 0, 0, 0, 0, 0, 0, 0, 0, 0, 0, 0, 0, 0, 0, 0, 0, 0, 0, 0, 0, 0, 0, 0]
def T_48 : zOb := (ks_0, [], 4, kc_8)
def kc_9 : List Int32 := [53, 59, 48, 0, 0, 0, 0, 0, 0, 0, 0, 0, 0, 0, 0, 0, 0, 0, 0, 0, 0, 0, 0, 0, 0, 0, 0, 0, 0, 0, 0, 0, 0, 0, 0, 0, 0, 0, 0, 0, 0, 0, 0, 0, 0, 0, 0, 0, 0, 0, 0, 0, 0, 0, 0, 0, 0, 0, 0, 0]
def T_49 : zOb := (ks_0, [], 3, kc_9)
def ks_38 : tSC := (0, 0, 2, [32, 1, 0, 0, 0, 0, 0, 0, 0, 0, 0, 0, 0, 0, 0, 0, 0, 0, 0, 0], [(-1), (-1), 0, 0, 0, 0, 0, 0, 0, 0, 0, 0, 0, 0, 0, 0, 0, 0, 0, 0], [10, 10, 0, 0, 0, 0, 0, 0, 0, 0, 0, 0, 0, 0, 0, 0, 0, 0, 0, 0], [0, 0, 0, 0, 0, 0, 0, 0, 0, 0, 0, 0, 0, 0, 0, 0, 0, 0, 0, 0], [0, 0, 0, 0, 0, 0], [0, 0, 0, 0, 0, 0], [0, 0, 0, 0, 0, 0], [0, 0, 0, 0, 0, 0], [0, 0, 0, 0, 0, 0], [4, 10])
def T_50 : zOb := (ks_38, [ks_0], 0, kc_9)
def kc_10 : List Int32 := [59, 0, 0, 0, 0, 0, 0, 0, 0, 0, 0, 0, 0, 0, 0, 0, 0, 0, 0, 0, 0, 0, 0, 0, 0, 0, 0, 0, 0, 0, 0, 0, 0, 0, 0, 0, 0, 0, 0, 0, 0, 0, 0, 0, 0, 0, 0, 0, 0, 0, 0, 0, 0, 0, 0, 0, 0, 0, 0, 0]
def T_51 : zOb := (ks_0, [], 1, kc_10)
def kc_11 : List Int32 := [48, 59, 0, 0, 0, 0, 0, 0, 0, 0, 0, 0, 0, 0, 0, 0, 0, 0, 0, 0, 0, 0, 0, 0, 0, 0, 0, 0, 0, 0, 0, 0, 0, 0, 0, 0, 0, 0, 0, 0, 0, 0, 0, 0, 0, 0, 0, 0, 0, 0, 0, 0, 0, 0, 0, 0, 0, 0, 0, 0]
def T_52 : zOb := (ks_0, [], 2, kc_11)
def kc_12 : List Int32 := [48, 48, 0, 0, 0, 0, 0, 0, 0, 0, 0, 0, 0, 0, 0, 0, 0, 0, 0, 0, 0, 0, 0, 0, 0, 0, 0, 0, 0, 0, 0, 0, 0, 0, 0, 0, 0, 0, 0, 0, 0, 0, 0, 0, 0, 0, 0, 0, 0, 0, 0, 0, 0, 0, 0, 0, 0, 0, 0, 0]
def T_53 : zOb := (ks_0, [], 2, kc_12)
def kc_13 : List Int32 := [54, 0, 0, 0, 0, 0, 0, 0, 0, 0, 0, 0, 0, 0, 0, 0, 0, 0, 0, 0, 0, 0, 0, 0, 0, 0, 0, 0, 0, 0, 0, 0, 0, 0, 0, 0, 0, 0, 0, 0, 0, 0, 0, 0, 0, 0, 0, 0, 0, 0, 0, 0, 0, 0, 0, 0, 0, 0, 0, 0]
def T_54 : zOb := (ks_0, [], 1, kc_13)
def kc_14 : List Int32 := [48, 33, 0, 0, 0, 0, 0, 0, 0, 0, 0, 0, 0, 0, 0, 0, 0, 0, 0, 0, 0, 0, 0, 0, 0, 0, 0, 0, 0, 0, 0, 0, 0, 0, 0, 0, 0, 0, 0, 0, 0, 0, 0, 0, 0, 0, 0, 0, 0, 0, 0, 0, 0, 0, 0, 0, 0, 0, 0, 0]
def T_55 : zOb := (ks_0, [], 2, kc_14)
def kc_15 : List Int32 := [48, 49, 50, 51, 52, 53, 33, 53, 0, 0, 0, 0, 0, 0, 0, 0, 0, 0, 0, 0, 0, 0, 0, 0, 0, 0, 0, 0, 0, 0, 0, 0, 0, 0, 0, 0, 0, 0, 0, 0, 0, 0, 0, 0, 0, 0, 0, 0, 0, 0, 0, 0, 0, 0, 0, 0, 0, 0, 0, 0]
def T_56 : zOb := (ks_0, [], 8, kc_15)
def kc_16 : List Int32 := [48, 49, 50, 51, 52, 53, 33, 53, 119, 57, 57, 0, 0, 0, 0, 0, 0, 0, 0, 0, 0, 0, 0, 0, 0, 0, 0, 0, 0, 0, 0, 0, 0, 0, 0, 0, 0, 0, 0, 0, 0, 0, 0, 0, 0, 0, 0, 0, 0, 0, 0, 0, 0, 0, 0, 0, 0, 0, 0, 0]
def T_57 : zOb := (ks_0, [], 11, kc_16)
def ks_39 : tSC := (0, 0, 1, [63, 0, 0, 0, 0, 0, 0, 0, 0, 0, 0, 0, 0, 0, 0, 0, 0, 0, 0, 0], [5, 0, 0, 0, 0, 0, 0, 0, 0, 0, 0, 0, 0, 0, 0, 0, 0, 0, 0, 0], [99, 0, 0, 0, 0, 0, 0, 0, 0, 0, 0, 0, 0, 0, 0, 0, 0, 0, 0, 0], [0, 0, 0, 0, 0, 0, 0, 0, 0, 0, 0, 0, 0, 0, 0, 0, 0, 0, 0, 0], [0, 0, 0, 0, 0, 0], [0, 0, 0, 0, 0, 0], [0, 0, 0, 0, 0, 0], [0, 0, 0, 0, 0, 0], [0, 0, 0, 0, 0, 0], [4, 10])
def T_58 : zOb := (ks_39, [ks_0], 0, kc_16)
def kc_17 : List Int32 := [48, 119, 57, 57, 59, 0, 0, 0, 0, 0, 0, 0, 0, 0, 0, 0, 0, 0, 0, 0, 0, 0, 0, 0, 0, 0, 0, 0, 0, 0, 0, 0, 0, 0, 0, 0, 0, 0, 0, 0, 0, 0, 0, 0, 0, 0, 0, 0, 0, 0, 0, 0, 0, 0, 0, 0, 0, 0, 0, 0]
def T_59 : zOb := (ks_0, [], 5, kc_17)
def kc_18 : List Int32 := [48, 33, 48, 48, 0, 0, 0, 0, 0, 0, 0, 0, 0, 0, 0, 0, 0, 0, 0, 0, 0, 0, 0, 0, 0, 0, 0, 0, 0, 0, 0, 0, 0, 0, 0, 0, 0, 0, 0, 0, 0, 0, 0, 0, 0, 0, 0, 0, 0, 0, 0, 0, 0, 0, 0, 0, 0, 0, 0, 0]
def T_60 : zOb := (ks_0, [], 4, kc_18)
def kc_19 : List Int32 := [48, 119, 119, 0, 0, 0, 0, 0, 0, 0, 0, 0, 0, 0, 0, 0, 0, 0, 0, 0, 0, 0, 0, 0, 0, 0, 0, 0, 0, 0, 0, 0, 0, 0, 0, 0, 0, 0, 0, 0, 0, 0, 0, 0, 0, 0, 0, 0, 0, 0, 0, 0, 0, 0, 0, 0, 0, 0, 0, 0]
def T_61 : zOb := (ks_0, [], 3, kc_19)
def kc_20 : List Int32 := [48, 50, 33, 50, 119, 55, 59, 53, 0, 0, 0, 0, 0, 0, 0, 0, 0, 0, 0, 0, 0, 0, 0, 0, 0, 0, 0, 0, 0, 0, 0, 0, 0, 0, 0, 0, 0, 0, 0, 0, 0, 0, 0, 0, 0, 0, 0, 0, 0, 0, 0, 0, 0, 0, 0, 0, 0, 0, 0, 0]
def T_62 : zOb := (ks_0, [], 8, kc_20)
def kc_21 : List Int32 := [48, 50, 33, 50, 119, 55, 59, 53, 59, 49, 33, 49, 0, 0, 0, 0, 0, 0, 0, 0, 0, 0, 0, 0, 0, 0, 0, 0, 0, 0, 0, 0, 0, 0, 0, 0, 0, 0, 0, 0, 0, 0, 0, 0, 0, 0, 0, 0, 0, 0, 0, 0, 0, 0, 0, 0, 0, 0, 0, 0]
def T_63 : zOb := (ks_0, [], 12, kc_21)
def ks_40 : tSC := (0, 0, 3, [5, 32, 2, 0, 0, 0, 0, 0, 0, 0, 0, 0, 0, 0, 0, 0, 0, 0, 0, 0], [2, (-1), 1, 0, 0, 0, 0, 0, 0, 0, 0, 0, 0, 0, 0, 0, 0, 0, 0, 0], [7, 10, 10, 0, 0, 0, 0, 0, 0, 0, 0, 0, 0, 0, 0, 0, 0, 0, 0, 0], [0, 0, 0, 0, 0, 0, 0, 0, 0, 0, 0, 0, 0, 0, 0, 0, 0, 0, 0, 0], [0, 0, 0, 0, 0, 0], [0, 0, 0, 0, 0, 0], [0, 0, 0, 0, 0, 0], [0, 0, 0, 0, 0, 0], [0, 0, 0, 0, 0, 0], [4, 10])
def T_64 : zOb := (ks_40, [ks_0], 0, kc_21)
def T_65 : zOb := (ks_0, [], 0, kc_21)
def kc_22 : List Int32 := [48, 59, 48, 59, 48, 59, 48, 59, 48, 59, 48, 59, 48, 59, 48, 59, 48, 59, 48, 59, 48, 59, 48, 59, 48, 59, 48, 59, 48, 59, 48, 59, 48, 59, 48, 59, 48, 59, 48, 59, 48, 59, 48, 59, 48, 59, 48, 59, 48, 59, 48, 59, 48, 59, 48, 59, 48, 59, 48, 59]
def T_66 : zOb := (ks_0, [], 60, kc_22)
def T_67 : zOb := (ks_0, [], 0, kc_22)
/-- the texts' last object behind k appends -/
def U_ch (k : Nat) : Int32 := if k % 2 = 0 then 48 else 59
def U_s : List Int32 := [48, 59, 48, 59, 48, 59, 48, 59, 48, 59, 48, 59, 48, 59, 48, 59, 48, 59, 48, 59, 48, 59, 48, 59, 48, 59, 48, 59, 48, 59, 48, 59, 48, 59, 48, 59, 48, 59, 48, 59, 48, 59, 48, 59, 48, 59, 48, 59, 48, 59, 48, 59, 48, 59, 48, 59, 48, 59, 48, 59]
def U_t (k : Nat) : zOb := (ks_0, [], nI k, U_s.take k ++ kc_21.drop k)
theorem U_all (k : Nat) (h : k < 60) : s_append (U_t k) (U_ch k) = some (.inr (nI (k + 1)), U_t (k + 1)) := by
  have h1 : ∀ k, k < 60 → @decide (s_append (U_t k) (U_ch k) = some (.inr (nI (k + 1)), U_t (k + 1))) (dAns _ _) = true := by decide +kernel
  exact sa_ok (h1 k h)
theorem U_rem : ∀ k, k < 60 → nI k - nI k / 2 * 2 = if k % 2 = 0 then 0 else 1 := by decide +kernel
theorem fc_112 : s_types 8 s_new 0 = some T_0 := so_ok (by decide +kernel)
theorem fc_113 : s_types 8 T_0 0 = some T_0 := so_ok (by decide +kernel)
theorem fc_114 : s_firstError T_0 = some (.inr 0, T_0) := sa_ok (by decide +kernel)
theorem fc_115 : s_told T_0 9 0 0 0 = some ((-11), T_0) := st_ok (by decide +kernel)
theorem fc_116 : s_types 8 s_new 12592 = some T_41 := so_ok (by decide +kernel)
theorem fc_117 : s_types 8 T_41 0 = some T_41 := so_ok (by decide +kernel)
theorem fc_118 : s_firstError T_41 = some (.inr 1, T_41) := sa_ok (by decide +kernel)
theorem fc_119 : s_told T_41 9 0 0 0 = some ((-11), T_41) := st_ok (by decide +kernel)
theorem fc_120 : s_types 8 s_new 3154225 = some T_42 := so_ok (by decide +kernel)
theorem fc_121 : s_types 8 T_42 0 = some T_42 := so_ok (by decide +kernel)
theorem fc_122 : s_firstError T_42 = some (.inr 2, T_42) := sa_ok (by decide +kernel)
theorem fc_123 : s_told T_42 9 0 0 0 = some ((-11), T_42) := st_ok (by decide +kernel)
theorem fc_124 : s_types 8 s_new 3154224 = some T_43 := so_ok (by decide +kernel)
theorem fc_125 : s_types 8 T_43 0 = some T_43 := so_ok (by decide +kernel)
theorem fc_126 : s_firstError T_43 = some (.inr 3, T_43) := sa_ok (by decide +kernel)
theorem fc_127 : s_told T_43 9 0 0 0 = some (1, T_44) := st_ok (by decide +kernel)
theorem fc_128 : s_count T_44 0 = some (.inr 1, T_44) := lk_count (by decide +kernel)
theorem fc_129 : s_clearBuffer T_44 = some (.inr 0, T_44) := sa_ok (by decide +kernel)
theorem fc_130 : s_types 8 s_new 52987568420656 = some T_45 := so_ok (by decide +kernel)
theorem fc_131 : s_types 8 T_45 0 = some T_45 := so_ok (by decide +kernel)
theorem fc_132 : s_firstError T_45 = some (.inr 5, T_45) := sa_ok (by decide +kernel)
theorem fc_133 : s_told T_45 9 0 0 0 = some ((-11), T_45) := st_ok (by decide +kernel)
theorem fc_134 : s_types 8 s_new 12407 = some T_46 := so_ok (by decide +kernel)
theorem fc_135 : s_types 8 T_46 0 = some T_46 := so_ok (by decide +kernel)
theorem fc_136 : s_firstError T_46 = some (.inr 2, T_46) := sa_ok (by decide +kernel)
theorem fc_137 : s_told T_46 9 0 0 0 = some ((-11), T_46) := st_ok (by decide +kernel)
theorem fc_138 : s_types 8 s_new 208158142512 = some T_47 := so_ok (by decide +kernel)
theorem fc_139 : s_types 8 T_47 0 = some T_47 := so_ok (by decide +kernel)
theorem fc_140 : s_firstError T_47 = some (.inr 4, T_47) := sa_ok (by decide +kernel)
theorem fc_141 : s_told T_47 9 0 0 0 = some ((-11), T_47) := st_ok (by decide +kernel)
theorem fc_142 : s_types 8 s_new 813118753 = some T_48 := so_ok (by decide +kernel)
theorem fc_143 : s_types 8 T_48 0 = some T_48 := so_ok (by decide +kernel)
theorem fc_144 : s_firstError T_48 = some (.inr 3, T_48) := sa_ok (by decide +kernel)
theorem fc_145 : s_told T_48 9 0 0 0 = some ((-11), T_48) := st_ok (by decide +kernel)
theorem fc_146 : s_types 8 s_new 3488560 = some T_49 := so_ok (by decide +kernel)
theorem fc_147 : s_types 8 T_49 0 = some T_49 := so_ok (by decide +kernel)
theorem fc_148 : s_firstError T_49 = some (.inr 3, T_49) := sa_ok (by decide +kernel)
theorem fc_149 : s_told T_49 9 0 0 0 = some (2, T_50) := st_ok (by decide +kernel)
theorem fc_150 : s_count T_50 0 = some (.inr 2, T_50) := lk_count (by decide +kernel)
theorem fc_151 : s_clearBuffer T_50 = some (.inr 0, T_50) := sa_ok (by decide +kernel)
theorem fc_152 : s_types 8 s_new 59 = some T_51 := so_ok (by decide +kernel)
theorem fc_153 : s_types 8 T_51 0 = some T_51 := so_ok (by decide +kernel)
theorem fc_154 : s_firstError T_51 = some (.inr 0, T_51) := sa_ok (by decide +kernel)
theorem fc_155 : s_told T_51 9 0 0 0 = some ((-11), T_51) := st_ok (by decide +kernel)
theorem fc_156 : s_types 8 s_new 12347 = some T_52 := so_ok (by decide +kernel)
theorem fc_157 : s_types 8 T_52 0 = some T_52 := so_ok (by decide +kernel)
theorem fc_158 : s_firstError T_52 = some (.inr 2, T_52) := sa_ok (by decide +kernel)
theorem fc_159 : s_told T_52 9 0 0 0 = some ((-11), T_52) := st_ok (by decide +kernel)
theorem fc_160 : s_types 8 s_new 12336 = some T_53 := so_ok (by decide +kernel)
theorem fc_161 : s_types 8 T_53 0 = some T_53 := so_ok (by decide +kernel)
theorem fc_162 : s_firstError T_53 = some (.inr 1, T_53) := sa_ok (by decide +kernel)
theorem fc_163 : s_told T_53 9 0 0 0 = some ((-11), T_53) := st_ok (by decide +kernel)
theorem fc_164 : s_types 8 s_new 54 = some T_54 := so_ok (by decide +kernel)
theorem fc_165 : s_types 8 T_54 0 = some T_54 := so_ok (by decide +kernel)
theorem fc_166 : s_firstError T_54 = some (.inr 0, T_54) := sa_ok (by decide +kernel)
theorem fc_167 : s_told T_54 9 0 0 0 = some ((-11), T_54) := st_ok (by decide +kernel)
theorem fc_168 : s_types 8 s_new 12321 = some T_55 := so_ok (by decide +kernel)
theorem fc_169 : s_types 8 T_55 0 = some T_55 := so_ok (by decide +kernel)
theorem fc_170 : s_firstError T_55 = some (.inr 2, T_55) := sa_ok (by decide +kernel)
theorem fc_171 : s_told T_55 9 0 0 0 = some ((-11), T_55) := st_ok (by decide +kernel)
theorem fc_172 : s_types 8 s_new 3472611983179981109 = some T_56 := so_ok (by decide +kernel)
theorem fc_173 : s_types 8 T_56 7813433 = some T_57 := so_ok (by decide +kernel)
theorem fc_174 : s_firstError T_57 = some (.inr 11, T_57) := sa_ok (by decide +kernel)
theorem fc_175 : s_told T_57 9 0 0 0 = some (1, T_58) := st_ok (by decide +kernel)
theorem fc_176 : s_count T_58 0 = some (.inr 1, T_58) := lk_count (by decide +kernel)
theorem fc_177 : s_clearBuffer T_58 = some (.inr 0, T_58) := sa_ok (by decide +kernel)
theorem fc_178 : s_types 8 s_new 208158669115 = some T_59 := so_ok (by decide +kernel)
theorem fc_179 : s_types 8 T_59 0 = some T_59 := so_ok (by decide +kernel)
theorem fc_180 : s_firstError T_59 = some (.inr 5, T_59) := sa_ok (by decide +kernel)
theorem fc_181 : s_told T_59 9 0 0 0 = some ((-11), T_59) := st_ok (by decide +kernel)
theorem fc_182 : s_types 8 s_new 807481392 = some T_60 := so_ok (by decide +kernel)
theorem fc_183 : s_types 8 T_60 0 = some T_60 := so_ok (by decide +kernel)
theorem fc_184 : s_firstError T_60 = some (.inr 3, T_60) := sa_ok (by decide +kernel)
theorem fc_185 : s_told T_60 9 0 0 0 = some ((-11), T_60) := st_ok (by decide +kernel)
theorem fc_186 : s_types 8 s_new 3176311 = some T_61 := so_ok (by decide +kernel)
theorem fc_187 : s_types 8 T_61 0 = some T_61 := so_ok (by decide +kernel)
theorem fc_188 : s_firstError T_61 = some (.inr 2, T_61) := sa_ok (by decide +kernel)
theorem fc_189 : s_told T_61 9 0 0 0 = some ((-11), T_61) := st_ok (by decide +kernel)
theorem fc_190 : s_types 8 T_0 3472874763288263477 = some T_62 := so_ok (by decide +kernel)
theorem fc_191 : s_types 8 T_62 993075505 = some T_63 := so_ok (by decide +kernel)
theorem fc_192 : s_addAll T_63  = some (.inr 3, T_64) := sa_ok (by decide +kernel)
theorem fc_193 : s_count T_64 6 = some (.inr 1, T_64) := lk_count (by decide +kernel)
theorem fc_194 : s_part T_64 0 0 = some (.inr 5, T_64) := lk_part (by decide +kernel)
theorem fc_195 : s_part T_64 0 1 = some (.inr 2, T_64) := lk_part (by decide +kernel)
theorem fc_196 : s_part T_64 0 2 = some (.inr 7, T_64) := lk_part (by decide +kernel)
theorem fc_197 : s_part T_64 1 0 = some (.inr 32, T_64) := lk_part (by decide +kernel)
theorem fc_198 : s_part T_64 1 1 = some (.inr (-1), T_64) := lk_part (by decide +kernel)
theorem fc_199 : s_part T_64 1 2 = some (.inr 10, T_64) := lk_part (by decide +kernel)
theorem fc_200 : s_part T_64 2 1 = some (.inr 1, T_64) := lk_part (by decide +kernel)
theorem fc_201 : s_undo T_64  = some (.inr 0, T_65) := sa_ok (by decide +kernel)
theorem fc_202 : s_count T_65 0 = some (.inr 0, T_65) := lk_count (by decide +kernel)
theorem fc_203 : s_told T_66 8 48 0 0 = some ((-12), T_66) := st_ok (by decide +kernel)
theorem fc_204 : s_firstError T_66  = some (.inr 60, T_66) := sa_ok (by decide +kernel)
theorem fc_205 : s_told T_66 9 0 0 0 = some ((-11), T_66) := st_ok (by decide +kernel)
theorem fc_206 : s_clearBuffer T_66  = some (.inr 60, T_67) := sa_ok (by decide +kernel)
