/-! fetch rows of the methods 0 to 19, laid by wip/whole/gen/fetch.py -/
theorem f0_12 : (0, 12, 0, 0) ∈ pm_fld := by decide
theorem f0_19 : (0, 19, 0, 1) ∈ pm_fld := by decide
theorem f0_28 : (0, 28, 0, 2) ∈ pm_fld := by decide
theorem f0_37 : (0, 37, 0, 3) ∈ pm_fld := by decide
theorem f0_41 : (0, 41, 0, 4) ∈ pm_fld := by decide
theorem f0_45 : (0, 45, 1, 7) ∈ pm_fld := by decide
theorem f0_83 : (0, 83, 0, 5) ∈ pm_fld := by decide
theorem f0_112 : (0, 112, 1, 5) ∈ pm_fld := by decide
theorem f0_115 : (0, 115, 1, 3) ∈ pm_fld := by decide
theorem f0_123 : (0, 123, 0, 6) ∈ pm_fld := by decide
theorem f0_126 : (0, 126, 1, 6) ∈ pm_fld := by decide
theorem f1_9 : (1, 9, 1, 0) ∈ pm_fld := by decide
theorem f1_15 : (1, 15, 1, 1) ∈ pm_fld := by decide
theorem f1_18 : (1, 18, 1, 2) ∈ pm_fld := by decide
theorem f1_21 : (1, 21, 1, 3) ∈ pm_fld := by decide
theorem f1_25 : (1, 25, 1, 4) ∈ pm_fld := by decide
theorem f1_28 : (1, 28, 1, 5) ∈ pm_fld := by decide
theorem f1_31 : (1, 31, 1, 6) ∈ pm_fld := by decide
theorem f1_35 : (1, 35, 1, 7) ∈ pm_fld := by decide
theorem f2_10 : (2, 10, 2, 0) ∈ pm_fld := by decide
theorem f2_16 : (2, 16, 2, 1) ∈ pm_fld := by decide
theorem f2_19 : (2, 19, 2, 2) ∈ pm_fld := by decide
theorem f2_23 : (2, 23, 2, 3) ∈ pm_fld := by decide
theorem f3_9 : (3, 9, 3, 1) ∈ pm_fld := by decide
theorem f3_15 : (3, 15, 3, 0) ∈ pm_fld := by decide
theorem f3_19 : (3, 19, 2, 2) ∈ pm_fld := by decide
theorem f3_25 : (3, 25, 3, 3) ∈ pm_fld := by decide
theorem f3_28 : (3, 28, 3, 4) ∈ pm_fld := by decide
theorem f3_40 : (3, 40, 3, 2) ∈ pm_fld := by decide
theorem f3_43 : (3, 43, 2, 1) ∈ pm_fld := by decide
theorem f3_46 : (3, 46, 2, 0) ∈ pm_fld := by decide
theorem f4_12 : (4, 12, 4, 3) ∈ pm_fld := by decide
theorem f4_18 : (4, 18, 4, 4) ∈ pm_fld := by decide
theorem f4_22 : (4, 22, 4, 5) ∈ pm_fld := by decide
theorem f4_25 : (4, 25, 4, 6) ∈ pm_fld := by decide
theorem f4_29 : (4, 29, 4, 7) ∈ pm_fld := by decide
theorem f4_32 : (4, 32, 4, 0) ∈ pm_fld := by decide
theorem f4_36 : (4, 36, 4, 1) ∈ pm_fld := by decide
theorem f4_40 : (4, 40, 4, 2) ∈ pm_fld := by decide
theorem f4_44 : (4, 44, 5, 0) ∈ pm_fld := by decide
theorem f4_73 : (4, 73, 4, 9) ∈ pm_fld := by decide
theorem f4_77 : (4, 77, 1, 6) ∈ pm_fld := by decide
theorem f4_85 : (4, 85, 2, 2) ∈ pm_fld := by decide
theorem f4_88 : (4, 88, 2, 0) ∈ pm_fld := by decide
theorem f4_91 : (4, 91, 2, 1) ∈ pm_fld := by decide
theorem f4_111 : (4, 111, 1, 7) ∈ pm_fld := by decide
theorem f4_114 : (4, 114, 1, 5) ∈ pm_fld := by decide
theorem f4_120 : (4, 120, 5, 4) ∈ pm_fld := by decide
theorem f4_123 : (4, 123, 5, 2) ∈ pm_fld := by decide
theorem f4_145 : (4, 145, 5, 1) ∈ pm_fld := by decide
theorem f4_157 : (4, 157, 4, 8) ∈ pm_fld := by decide
theorem f5_9 : (5, 9, 5, 0) ∈ pm_fld := by decide
theorem f5_15 : (5, 15, 5, 1) ∈ pm_fld := by decide
theorem f5_19 : (5, 19, 5, 2) ∈ pm_fld := by decide
theorem f5_22 : (5, 22, 5, 3) ∈ pm_fld := by decide
theorem f5_29 : (5, 29, 5, 5) ∈ pm_fld := by decide
theorem f5_37 : (5, 37, 5, 4) ∈ pm_fld := by decide
theorem f6_7 : (6, 7, 6, 0) ∈ pm_fld := by decide
theorem f6_13 : (6, 13, 6, 1) ∈ pm_fld := by decide
theorem f6_16 : (6, 16, 6, 2) ∈ pm_fld := by decide
theorem f6_19 : (6, 19, 6, 3) ∈ pm_fld := by decide
theorem f6_22 : (6, 22, 6, 4) ∈ pm_fld := by decide
theorem f6_26 : (6, 26, 6, 5) ∈ pm_fld := by decide
theorem f6_29 : (6, 29, 6, 6) ∈ pm_fld := by decide
theorem f6_32 : (6, 32, 6, 7) ∈ pm_fld := by decide
theorem f6_35 : (6, 35, 6, 8) ∈ pm_fld := by decide
theorem f6_38 : (6, 38, 6, 9) ∈ pm_fld := by decide
theorem f6_42 : (6, 42, 6, 10) ∈ pm_fld := by decide
theorem f6_45 : (6, 45, 6, 11) ∈ pm_fld := by decide
theorem f6_48 : (6, 48, 6, 12) ∈ pm_fld := by decide
theorem k0_56 : (0, 56, 18, 1, (some 0 : Option Nat)) ∈ pm_call := by decide
theorem k0_59 : (0, 59, 24, 1, (some 1 : Option Nat)) ∈ pm_call := by decide
theorem k0_63 : (0, 63, 17, 2, (some 0 : Option Nat)) ∈ pm_call := by decide
theorem k0_67 : (0, 67, 14, 1, (none : Option Nat)) ∈ pm_call := by decide
theorem k0_71 : (0, 71, 25, 4, (some 1 : Option Nat)) ∈ pm_call := by decide
theorem k0_80 : (0, 80, 15, 1, (none : Option Nat)) ∈ pm_call := by decide
theorem k0_88 : (0, 88, 19, 2, (some 0 : Option Nat)) ∈ pm_call := by decide
theorem k0_91 : (0, 91, 21, 1, (some 0 : Option Nat)) ∈ pm_call := by decide
theorem k0_95 : (0, 95, 22, 1, (some 0 : Option Nat)) ∈ pm_call := by decide
theorem k0_98 : (0, 98, 23, 2, (some 0 : Option Nat)) ∈ pm_call := by decide
theorem k0_106 : (0, 106, 20, 3, (some 0 : Option Nat)) ∈ pm_call := by decide
theorem k0_119 : (0, 119, 26, 2, (some 1 : Option Nat)) ∈ pm_call := by decide
theorem k0_133 : (0, 133, 32, 1, (some 2 : Option Nat)) ∈ pm_call := by decide
theorem k0_136 : (0, 136, 28, 1, (some 1 : Option Nat)) ∈ pm_call := by decide
theorem k0_139 : (0, 139, 33, 4, (some 2 : Option Nat)) ∈ pm_call := by decide
theorem k0_143 : (0, 143, 29, 2, (some 1 : Option Nat)) ∈ pm_call := by decide
theorem k0_146 : (0, 146, 30, 2, (some 1 : Option Nat)) ∈ pm_call := by decide
theorem k0_149 : (0, 149, 37, 1, (some 3 : Option Nat)) ∈ pm_call := by decide
theorem k0_152 : (0, 152, 43, 1, (some 4 : Option Nat)) ∈ pm_call := by decide
theorem k0_155 : (0, 155, 38, 1, (some 3 : Option Nat)) ∈ pm_call := by decide
theorem k0_158 : (0, 158, 42, 2, (some 4 : Option Nat)) ∈ pm_call := by decide
theorem k1_38 : (1, 38, 25, 4, (some 1 : Option Nat)) ∈ pm_call := by decide
theorem k1_42 : (1, 42, 27, 2, (some 1 : Option Nat)) ∈ pm_call := by decide
theorem k1_46 : (1, 46, 16, 1, (none : Option Nat)) ∈ pm_call := by decide
theorem k1_50 : (1, 50, 29, 2, (some 1 : Option Nat)) ∈ pm_call := by decide
theorem k1_54 : (1, 54, 31, 3, (some 1 : Option Nat)) ∈ pm_call := by decide
theorem k1_58 : (1, 58, 14, 1, (none : Option Nat)) ∈ pm_call := by decide
theorem k1_61 : (1, 61, 15, 1, (none : Option Nat)) ∈ pm_call := by decide
theorem k1_64 : (1, 64, 33, 4, (some 2 : Option Nat)) ∈ pm_call := by decide
theorem k2_26 : (2, 26, 15, 1, (none : Option Nat)) ∈ pm_call := by decide
theorem k2_30 : (2, 30, 34, 2, (some 2 : Option Nat)) ∈ pm_call := by decide
theorem k2_34 : (2, 34, 35, 1, (some 2 : Option Nat)) ∈ pm_call := by decide
theorem k3_32 : (3, 32, 40, 4, (some 3 : Option Nat)) ∈ pm_call := by decide
theorem k3_36 : (3, 36, 36, 2, (some 2 : Option Nat)) ∈ pm_call := by decide
theorem k3_49 : (3, 49, 41, 2, (some 3 : Option Nat)) ∈ pm_call := by decide
theorem k3_52 : (3, 52, 15, 1, (none : Option Nat)) ∈ pm_call := by decide
theorem k4_47 : (4, 47, 14, 1, (none : Option Nat)) ∈ pm_call := by decide
theorem k4_51 : (4, 51, 45, 1, (some 4 : Option Nat)) ∈ pm_call := by decide
theorem k4_55 : (4, 55, 46, 1, (some 4 : Option Nat)) ∈ pm_call := by decide
theorem k4_58 : (4, 58, 53, 2, (some 4 : Option Nat)) ∈ pm_call := by decide
theorem k4_61 : (4, 61, 36, 2, (some 2 : Option Nat)) ∈ pm_call := by decide
theorem k4_66 : (4, 66, 56, 2, (some 4 : Option Nat)) ∈ pm_call := by decide
theorem k4_70 : (4, 70, 57, 1, (some 5 : Option Nat)) ∈ pm_call := by decide
theorem k4_82 : (4, 82, 44, 1, (some 4 : Option Nat)) ∈ pm_call := by decide
theorem k4_94 : (4, 94, 52, 2, (some 4 : Option Nat)) ∈ pm_call := by decide
theorem k4_97 : (4, 97, 15, 1, (none : Option Nat)) ∈ pm_call := by decide
theorem k4_100 : (4, 100, 58, 2, (some 5 : Option Nat)) ∈ pm_call := by decide
theorem k4_104 : (4, 104, 60, 3, (some 5 : Option Nat)) ∈ pm_call := by decide
theorem k4_108 : (4, 108, 47, 1, (some 4 : Option Nat)) ∈ pm_call := by decide
theorem k4_117 : (4, 117, 59, 2, (some 5 : Option Nat)) ∈ pm_call := by decide
theorem k4_126 : (4, 126, 48, 2, (some 4 : Option Nat)) ∈ pm_call := by decide
theorem k4_129 : (4, 129, 49, 2, (some 4 : Option Nat)) ∈ pm_call := by decide
theorem k4_132 : (4, 132, 50, 3, (some 4 : Option Nat)) ∈ pm_call := by decide
theorem k4_135 : (4, 135, 51, 4, (some 4 : Option Nat)) ∈ pm_call := by decide
theorem k4_139 : (4, 139, 54, 2, (some 4 : Option Nat)) ∈ pm_call := by decide
theorem k4_142 : (4, 142, 16, 1, (none : Option Nat)) ∈ pm_call := by decide
theorem k4_148 : (4, 148, 34, 2, (some 2 : Option Nat)) ∈ pm_call := by decide
theorem k4_151 : (4, 151, 35, 1, (some 2 : Option Nat)) ∈ pm_call := by decide
theorem k4_154 : (4, 154, 55, 2, (some 4 : Option Nat)) ∈ pm_call := by decide
theorem k4_160 : (4, 160, 39, 4, (some 3 : Option Nat)) ∈ pm_call := by decide
theorem k4_166 : (4, 166, 61, 2, (some 5 : Option Nat)) ∈ pm_call := by decide
theorem k5_25 : (5, 25, 62, 2, (some 5 : Option Nat)) ∈ pm_call := by decide
theorem k5_33 : (5, 33, 15, 1, (none : Option Nat)) ∈ pm_call := by decide
theorem k5_40 : (5, 40, 60, 3, (some 5 : Option Nat)) ∈ pm_call := by decide
theorem k6_51 : (6, 51, 64, 3, (some 6 : Option Nat)) ∈ pm_call := by decide
theorem k6_55 : (6, 55, 66, 5, (some 6 : Option Nat)) ∈ pm_call := by decide
theorem k6_59 : (6, 59, 65, 2, (some 6 : Option Nat)) ∈ pm_call := by decide
theorem k6_63 : (6, 63, 75, 1, (some 6 : Option Nat)) ∈ pm_call := by decide
theorem k6_66 : (6, 66, 73, 1, (some 6 : Option Nat)) ∈ pm_call := by decide
theorem k6_69 : (6, 69, 74, 1, (some 6 : Option Nat)) ∈ pm_call := by decide
theorem k6_73 : (6, 73, 76, 1, (some 6 : Option Nat)) ∈ pm_call := by decide
theorem k6_76 : (6, 76, 77, 3, (some 6 : Option Nat)) ∈ pm_call := by decide
theorem k7_7 : (7, 7, 0, 1, (some 0 : Option Nat)) ∈ pm_call := by decide
theorem k7_15 : (7, 15, 1, 2, (some 0 : Option Nat)) ∈ pm_call := by decide
theorem k7_21 : (7, 21, 2, 4, (some 0 : Option Nat)) ∈ pm_call := by decide
theorem k7_27 : (7, 27, 3, 4, (some 0 : Option Nat)) ∈ pm_call := by decide
theorem k7_30 : (7, 30, 4, 2, (some 0 : Option Nat)) ∈ pm_call := by decide
theorem k7_33 : (7, 33, 8, 2, (some 0 : Option Nat)) ∈ pm_call := by decide
theorem k7_36 : (7, 36, 9, 3, (some 0 : Option Nat)) ∈ pm_call := by decide
theorem k7_40 : (7, 40, 10, 3, (some 0 : Option Nat)) ∈ pm_call := by decide
theorem k7_44 : (7, 44, 11, 2, (some 0 : Option Nat)) ∈ pm_call := by decide
theorem k7_52 : (7, 52, 86, 2, (none : Option Nat)) ∈ pm_call := by decide
theorem k7_57 : (7, 57, 67, 1, (some 6 : Option Nat)) ∈ pm_call := by decide
theorem k7_58 : (7, 58, 63, 1, (some 6 : Option Nat)) ∈ pm_call := by decide
theorem k7_61 : (7, 61, 87, 3, (none : Option Nat)) ∈ pm_call := by decide
theorem k7_64 : (7, 64, 68, 2, (some 6 : Option Nat)) ∈ pm_call := by decide
theorem k7_65 : (7, 65, 88, 5, (none : Option Nat)) ∈ pm_call := by decide
theorem k7_68 : (7, 68, 69, 4, (some 6 : Option Nat)) ∈ pm_call := by decide
theorem k7_69 : (7, 69, 89, 5, (none : Option Nat)) ∈ pm_call := by decide
theorem k7_71 : (7, 71, 70, 4, (some 6 : Option Nat)) ∈ pm_call := by decide
theorem k7_72 : (7, 72, 90, 3, (none : Option Nat)) ∈ pm_call := by decide
theorem k7_74 : (7, 74, 71, 2, (some 6 : Option Nat)) ∈ pm_call := by decide
theorem k7_75 : (7, 75, 5, 1, (some 0 : Option Nat)) ∈ pm_call := by decide
theorem k7_78 : (7, 78, 72, 1, (some 6 : Option Nat)) ∈ pm_call := by decide
theorem k7_79 : (7, 79, 6, 1, (some 0 : Option Nat)) ∈ pm_call := by decide
theorem k7_83 : (7, 83, 78, 1, (some 6 : Option Nat)) ∈ pm_call := by decide
theorem k7_84 : (7, 84, 7, 1, (some 0 : Option Nat)) ∈ pm_call := by decide
theorem k7_87 : (7, 87, 79, 1, (some 6 : Option Nat)) ∈ pm_call := by decide
theorem k7_88 : (7, 88, 91, 3, (none : Option Nat)) ∈ pm_call := by decide
theorem k7_90 : (7, 90, 80, 2, (some 6 : Option Nat)) ∈ pm_call := by decide
theorem k7_91 : (7, 91, 92, 4, (none : Option Nat)) ∈ pm_call := by decide
theorem k7_94 : (7, 94, 81, 3, (some 6 : Option Nat)) ∈ pm_call := by decide
theorem k7_95 : (7, 95, 93, 4, (none : Option Nat)) ∈ pm_call := by decide
theorem k7_98 : (7, 98, 82, 3, (some 6 : Option Nat)) ∈ pm_call := by decide
theorem k7_99 : (7, 99, 94, 3, (none : Option Nat)) ∈ pm_call := by decide
theorem k7_101 : (7, 101, 83, 2, (some 6 : Option Nat)) ∈ pm_call := by decide
theorem k7_102 : (7, 102, 12, 1, (some 0 : Option Nat)) ∈ pm_call := by decide
theorem k7_105 : (7, 105, 84, 1, (some 6 : Option Nat)) ∈ pm_call := by decide
theorem k7_106 : (7, 106, 13, 2, (some 0 : Option Nat)) ∈ pm_call := by decide
theorem k7_109 : (7, 109, 85, 2, (some 6 : Option Nat)) ∈ pm_call := by decide
theorem g_0 {L : Nat} : (pm_cells L)[0]? = some (.inr (0, [.inl 1, .inl 2, .inl 3, .inl 4, .inl 6, .inr false, .inr false])) := rfl
theorem g_1 {L : Nat} : (pm_cells L)[1]? = some (.inr (1, [.inl 7, .inl 8, .inl 9, .inl 10, .inl 11, .inl 12, .inr false, .inr false])) := rfl
theorem g_2 {L : Nat} : (pm_cells L)[2]? = some (.inr (2, [.inl 13, .inl 14, .inr false, .inr false])) := rfl
theorem g_3 {L : Nat} : (pm_cells L)[3]? = some (.inr (3, [.inl 2, .inl 15, .inr false, .inr false, .inr true])) := rfl
theorem g_4 {L : Nat} : (pm_cells L)[4]? = some (.inr (4, [.inl 1, .inl 2, .inl 3, .inl 5, .inl 16, .inl 17, .inl 18, .inl 19, .inr false, .inr false])) := rfl
theorem g_5 {L : Nat} : (pm_cells L)[5]? = some (.inr (5, [.inl 20, .inl 21, .inl 22, .inl 23, .inr false, .inr false])) := rfl
theorem g_6 {L : Nat} : (pm_cells L)[6]? = some (.inl (0, 20)) := rfl
theorem g_7 {L : Nat} : (pm_cells L)[7]? = some (.inl (0, 2000)) := rfl
theorem g_8 {L : Nat} : (pm_cells L)[8]? = some (.inl (0, 2000)) := rfl
theorem g_9 {L : Nat} : (pm_cells L)[9]? = some (.inl (0, 2000)) := rfl
theorem g_10 {L : Nat} : (pm_cells L)[10]? = some (.inl (1, 2000)) := rfl
theorem g_11 {L : Nat} : (pm_cells L)[11]? = some (.inl (1, 2000)) := rfl
theorem g_12 {L : Nat} : (pm_cells L)[12]? = some (.inl (0, 12)) := rfl
theorem g_13 {L : Nat} : (pm_cells L)[13]? = some (.inl (0, 85212)) := rfl
theorem g_14 {L : Nat} : (pm_cells L)[14]? = some (.inl (0, 16117)) := rfl
theorem g_15 {L : Nat} : (pm_cells L)[15]? = some (.inl (0, 4000)) := rfl
theorem g_16 {L : Nat} : (pm_cells L)[16]? = some (.inl (0, 4000)) := rfl
theorem g_17 {L : Nat} : (pm_cells L)[17]? = some (.inl (0, 32232)) := rfl
theorem g_18 {L : Nat} : (pm_cells L)[18]? = some (.inl (1, 2000)) := rfl
theorem g_19 {L : Nat} : (pm_cells L)[19]? = some (.inl (0, 2001)) := rfl
theorem g_20 {L : Nat} : (pm_cells L)[20]? = some (.inl (1, 4000)) := rfl
theorem g_21 {L : Nat} : (pm_cells L)[21]? = some (.inl (0, 4000)) := rfl
theorem g_22 {L : Nat} : (pm_cells L)[22]? = some (.inl (0, 2000)) := rfl
theorem g_23 {L : Nat} : (pm_cells L)[23]? = some (.inl (0, 12)) := rfl
theorem g_24 {L : Nat} : (pm_cells L)[24]? = some (.inr (6, [.inr false, .inr false, .inr false, .inr false, .inl 25, .inl 26, .inl 27, .inl 28, .inl 29, .inl 30, .inl 31, .inl 32, .inl 33])) := rfl
theorem g_25 {L : Nat} : (pm_cells L)[25]? = some (.inl (0, 2000)) := rfl
theorem g_26 {L : Nat} : (pm_cells L)[26]? = some (.inl (0, 2000)) := rfl
theorem g_27 {L : Nat} : (pm_cells L)[27]? = some (.inl (0, 2000)) := rfl
theorem g_28 {L : Nat} : (pm_cells L)[28]? = some (.inl (0, 2000)) := rfl
theorem g_29 {L : Nat} : (pm_cells L)[29]? = some (.inl (0, 20)) := rfl
theorem g_30 {L : Nat} : (pm_cells L)[30]? = some (.inl (1, 12)) := rfl
theorem g_31 {L : Nat} : (pm_cells L)[31]? = some (.inl (1, 12)) := rfl
theorem g_32 {L : Nat} : (pm_cells L)[32]? = some (.inl (1, 2000)) := rfl
theorem g_33 {L : Nat} : (pm_cells L)[33]? = some (.inl (0, 20)) := rfl
theorem g_34 {L : Nat} : (pm_cells L)[34]? = some (.inl (2, 1)) := rfl
theorem g_35 {L : Nat} : (pm_cells L)[35]? = some (.inl (0, L)) := rfl
theorem f_0_12 : (pm_own 0, 12, 0, 0) ∈ pm_fld := f0_12
theorem f_0_45 : (pm_own 0, 45, 1, 7) ∈ pm_fld := f0_45
theorem k_0_56 : (pm_own 0, 56, 18, 1, (some 0 : Option Nat)) ∈ pm_call ∧ pm_rank 18 < pm_rank 0 := ⟨k0_56, by decide⟩
theorem k_0_59 : (pm_own 0, 59, 24, 1, (some 1 : Option Nat)) ∈ pm_call ∧ pm_rank 24 < pm_rank 0 := ⟨k0_59, by decide⟩
theorem t_0_12 : (0, 12, 49, 1, 51, 53) ∈ pm_thr := by decide
theorem m_0 : pm_mL 0 = 1 := rfl
theorem r_0 : pm_ret 0 = 1 := rfl
theorem i_0_0 : Jvm.ClassFile.decode (pm_bytes 0) 0 = .ok (.aload_n 0, 1) := by decide +kernel
theorem i_0_1 : Jvm.ClassFile.decode (pm_bytes 0) 1 = .ok (.getfield 12, 3) := by decide +kernel
theorem i_0_4 : Jvm.ClassFile.decode (pm_bytes 0) 4 = .ok (.getfield 45, 3) := by decide +kernel
theorem i_0_7 : Jvm.ClassFile.decode (pm_bytes 0) 7 = .ok (.bipush (12), 2) := by decide +kernel
theorem i_0_9 : Jvm.ClassFile.decode (pm_bytes 0) 9 = .ok (.if_icmp .ne (13), 3) := by decide +kernel
theorem i_0_12 : Jvm.ClassFile.decode (pm_bytes 0) 12 = .ok (.new 49, 3) := by decide +kernel
theorem i_0_15 : Jvm.ClassFile.decode (pm_bytes 0) 15 = .ok (.dup, 1) := by decide +kernel
theorem i_0_22 : Jvm.ClassFile.decode (pm_bytes 0) 22 = .ok (.aload_n 0, 1) := by decide +kernel
theorem i_0_23 : Jvm.ClassFile.decode (pm_bytes 0) 23 = .ok (.invokevirtual 56, 3) := by decide +kernel
theorem i_0_26 : Jvm.ClassFile.decode (pm_bytes 0) 26 = .ok (.aload_n 0, 1) := by decide +kernel
theorem i_0_27 : Jvm.ClassFile.decode (pm_bytes 0) 27 = .ok (.getfield 12, 3) := by decide +kernel
theorem i_0_30 : Jvm.ClassFile.decode (pm_bytes 0) 30 = .ok (.invokevirtual 59, 3) := by decide +kernel
theorem i_0_33 : Jvm.ClassFile.decode (pm_bytes 0) 33 = .ok (.ireturn, 1) := by decide +kernel
theorem f_1_12 : (pm_own 1, 12, 0, 0) ∈ pm_fld := f0_12
theorem k_1_56 : (pm_own 1, 56, 18, 1, (some 0 : Option Nat)) ∈ pm_call ∧ pm_rank 18 < pm_rank 1 := ⟨k0_56, by decide⟩
theorem k_1_63 : (pm_own 1, 63, 17, 2, (some 0 : Option Nat)) ∈ pm_call ∧ pm_rank 17 < pm_rank 1 := ⟨k0_63, by decide⟩
theorem k_1_67 : (pm_own 1, 67, 14, 1, (none : Option Nat)) ∈ pm_call ∧ pm_rank 14 < pm_rank 1 := ⟨k0_67, by decide⟩
theorem k_1_71 : (pm_own 1, 71, 25, 4, (some 1 : Option Nat)) ∈ pm_call ∧ pm_rank 25 < pm_rank 1 := ⟨k0_71, by decide⟩
theorem m_1 : pm_mL 1 = 2 := rfl
theorem r_1 : pm_ret 1 = 1 := rfl
theorem i_1_0 : Jvm.ClassFile.decode (pm_bytes 1) 0 = .ok (.aload_n 0, 1) := by decide +kernel
theorem i_1_1 : Jvm.ClassFile.decode (pm_bytes 1) 1 = .ok (.iload_n 1, 1) := by decide +kernel
theorem i_1_2 : Jvm.ClassFile.decode (pm_bytes 1) 2 = .ok (.invokevirtual 63, 3) := by decide +kernel
theorem i_1_5 : Jvm.ClassFile.decode (pm_bytes 1) 5 = .ok (.aload_n 0, 1) := by decide +kernel
theorem i_1_6 : Jvm.ClassFile.decode (pm_bytes 1) 6 = .ok (.invokevirtual 56, 3) := by decide +kernel
theorem i_1_9 : Jvm.ClassFile.decode (pm_bytes 1) 9 = .ok (.aload_n 0, 1) := by decide +kernel
theorem i_1_10 : Jvm.ClassFile.decode (pm_bytes 1) 10 = .ok (.getfield 12, 3) := by decide +kernel
theorem i_1_13 : Jvm.ClassFile.decode (pm_bytes 1) 13 = .ok (.iload_n 1, 1) := by decide +kernel
theorem i_1_14 : Jvm.ClassFile.decode (pm_bytes 1) 14 = .ok (.invokestatic 67, 3) := by decide +kernel
theorem i_1_17 : Jvm.ClassFile.decode (pm_bytes 1) 17 = .ok (.iconst 0, 1) := by decide +kernel
theorem i_1_18 : Jvm.ClassFile.decode (pm_bytes 1) 18 = .ok (.iconst 1, 1) := by decide +kernel
theorem i_1_19 : Jvm.ClassFile.decode (pm_bytes 1) 19 = .ok (.invokevirtual 71, 3) := by decide +kernel
theorem i_1_22 : Jvm.ClassFile.decode (pm_bytes 1) 22 = .ok (.ireturn, 1) := by decide +kernel
theorem f_2_12 : (pm_own 2, 12, 0, 0) ∈ pm_fld := f0_12
theorem k_2_56 : (pm_own 2, 56, 18, 1, (some 0 : Option Nat)) ∈ pm_call ∧ pm_rank 18 < pm_rank 2 := ⟨k0_56, by decide⟩
theorem k_2_63 : (pm_own 2, 63, 17, 2, (some 0 : Option Nat)) ∈ pm_call ∧ pm_rank 17 < pm_rank 2 := ⟨k0_63, by decide⟩
theorem k_2_67 : (pm_own 2, 67, 14, 1, (none : Option Nat)) ∈ pm_call ∧ pm_rank 14 < pm_rank 2 := ⟨k0_67, by decide⟩
theorem k_2_71 : (pm_own 2, 71, 25, 4, (some 1 : Option Nat)) ∈ pm_call ∧ pm_rank 25 < pm_rank 2 := ⟨k0_71, by decide⟩
theorem k_2_80 : (pm_own 2, 80, 15, 1, (none : Option Nat)) ∈ pm_call ∧ pm_rank 15 < pm_rank 2 := ⟨k0_80, by decide⟩
theorem t_2_24 : (2, 24, 75, 2, 77, 79) ∈ pm_thr := by decide
theorem m_2 : pm_mL 2 = 4 := rfl
theorem r_2 : pm_ret 2 = 1 := rfl
theorem i_2_0 : Jvm.ClassFile.decode (pm_bytes 2) 0 = .ok (.aload_n 0, 1) := by decide +kernel
theorem i_2_1 : Jvm.ClassFile.decode (pm_bytes 2) 1 = .ok (.iload_n 2, 1) := by decide +kernel
theorem i_2_2 : Jvm.ClassFile.decode (pm_bytes 2) 2 = .ok (.invokevirtual 63, 3) := by decide +kernel
theorem i_2_5 : Jvm.ClassFile.decode (pm_bytes 2) 5 = .ok (.aload_n 0, 1) := by decide +kernel
theorem i_2_6 : Jvm.ClassFile.decode (pm_bytes 2) 6 = .ok (.iload_n 3, 1) := by decide +kernel
theorem i_2_7 : Jvm.ClassFile.decode (pm_bytes 2) 7 = .ok (.invokevirtual 63, 3) := by decide +kernel
theorem i_2_10 : Jvm.ClassFile.decode (pm_bytes 2) 10 = .ok (.iload_n 1, 1) := by decide +kernel
theorem i_2_11 : Jvm.ClassFile.decode (pm_bytes 2) 11 = .ok (.ifCond .eq (23), 3) := by decide +kernel
theorem i_2_14 : Jvm.ClassFile.decode (pm_bytes 2) 14 = .ok (.iload_n 1, 1) := by decide +kernel
theorem i_2_15 : Jvm.ClassFile.decode (pm_bytes 2) 15 = .ok (.iconst 1, 1) := by decide +kernel
theorem i_2_16 : Jvm.ClassFile.decode (pm_bytes 2) 16 = .ok (.if_icmp .eq (18), 3) := by decide +kernel
theorem i_2_19 : Jvm.ClassFile.decode (pm_bytes 2) 19 = .ok (.iload_n 1, 1) := by decide +kernel
theorem i_2_20 : Jvm.ClassFile.decode (pm_bytes 2) 20 = .ok (.iconst 2, 1) := by decide +kernel
theorem i_2_21 : Jvm.ClassFile.decode (pm_bytes 2) 21 = .ok (.if_icmp .eq (13), 3) := by decide +kernel
theorem i_2_24 : Jvm.ClassFile.decode (pm_bytes 2) 24 = .ok (.new 75, 3) := by decide +kernel
theorem i_2_27 : Jvm.ClassFile.decode (pm_bytes 2) 27 = .ok (.dup, 1) := by decide +kernel
theorem i_2_34 : Jvm.ClassFile.decode (pm_bytes 2) 34 = .ok (.aload_n 0, 1) := by decide +kernel
theorem i_2_35 : Jvm.ClassFile.decode (pm_bytes 2) 35 = .ok (.invokevirtual 56, 3) := by decide +kernel
theorem i_2_38 : Jvm.ClassFile.decode (pm_bytes 2) 38 = .ok (.iload_n 1, 1) := by decide +kernel
theorem i_2_39 : Jvm.ClassFile.decode (pm_bytes 2) 39 = .ok (.ifCond .ne (20), 3) := by decide +kernel
theorem i_2_42 : Jvm.ClassFile.decode (pm_bytes 2) 42 = .ok (.aload_n 0, 1) := by decide +kernel
theorem i_2_43 : Jvm.ClassFile.decode (pm_bytes 2) 43 = .ok (.getfield 12, 3) := by decide +kernel
theorem i_2_46 : Jvm.ClassFile.decode (pm_bytes 2) 46 = .ok (.iload_n 2, 1) := by decide +kernel
theorem i_2_47 : Jvm.ClassFile.decode (pm_bytes 2) 47 = .ok (.invokestatic 67, 3) := by decide +kernel
theorem i_2_50 : Jvm.ClassFile.decode (pm_bytes 2) 50 = .ok (.iload_n 3, 1) := by decide +kernel
theorem i_2_51 : Jvm.ClassFile.decode (pm_bytes 2) 51 = .ok (.invokestatic 67, 3) := by decide +kernel
theorem i_2_54 : Jvm.ClassFile.decode (pm_bytes 2) 54 = .ok (.iconst 0, 1) := by decide +kernel
theorem i_2_55 : Jvm.ClassFile.decode (pm_bytes 2) 55 = .ok (.invokevirtual 71, 3) := by decide +kernel
theorem i_2_58 : Jvm.ClassFile.decode (pm_bytes 2) 58 = .ok (.ireturn, 1) := by decide +kernel
theorem i_2_59 : Jvm.ClassFile.decode (pm_bytes 2) 59 = .ok (.iload_n 1, 1) := by decide +kernel
theorem i_2_60 : Jvm.ClassFile.decode (pm_bytes 2) 60 = .ok (.iconst 1, 1) := by decide +kernel
theorem i_2_61 : Jvm.ClassFile.decode (pm_bytes 2) 61 = .ok (.if_icmp .ne (20), 3) := by decide +kernel
theorem i_2_64 : Jvm.ClassFile.decode (pm_bytes 2) 64 = .ok (.aload_n 0, 1) := by decide +kernel
theorem i_2_65 : Jvm.ClassFile.decode (pm_bytes 2) 65 = .ok (.getfield 12, 3) := by decide +kernel
theorem i_2_68 : Jvm.ClassFile.decode (pm_bytes 2) 68 = .ok (.iload_n 2, 1) := by decide +kernel
theorem i_2_69 : Jvm.ClassFile.decode (pm_bytes 2) 69 = .ok (.invokestatic 67, 3) := by decide +kernel
theorem i_2_72 : Jvm.ClassFile.decode (pm_bytes 2) 72 = .ok (.iconst 1, 1) := by decide +kernel
theorem i_2_73 : Jvm.ClassFile.decode (pm_bytes 2) 73 = .ok (.iload_n 3, 1) := by decide +kernel
theorem i_2_74 : Jvm.ClassFile.decode (pm_bytes 2) 74 = .ok (.invokestatic 67, 3) := by decide +kernel
theorem i_2_77 : Jvm.ClassFile.decode (pm_bytes 2) 77 = .ok (.invokevirtual 71, 3) := by decide +kernel
theorem i_2_80 : Jvm.ClassFile.decode (pm_bytes 2) 80 = .ok (.ireturn, 1) := by decide +kernel
theorem i_2_81 : Jvm.ClassFile.decode (pm_bytes 2) 81 = .ok (.aload_n 0, 1) := by decide +kernel
theorem i_2_82 : Jvm.ClassFile.decode (pm_bytes 2) 82 = .ok (.getfield 12, 3) := by decide +kernel
theorem i_2_85 : Jvm.ClassFile.decode (pm_bytes 2) 85 = .ok (.iload_n 2, 1) := by decide +kernel
theorem i_2_86 : Jvm.ClassFile.decode (pm_bytes 2) 86 = .ok (.invokestatic 67, 3) := by decide +kernel
theorem i_2_89 : Jvm.ClassFile.decode (pm_bytes 2) 89 = .ok (.iload_n 3, 1) := by decide +kernel
theorem i_2_90 : Jvm.ClassFile.decode (pm_bytes 2) 90 = .ok (.invokestatic 67, 3) := by decide +kernel
theorem i_2_93 : Jvm.ClassFile.decode (pm_bytes 2) 93 = .ok (.invokestatic 80, 3) := by decide +kernel
theorem i_2_96 : Jvm.ClassFile.decode (pm_bytes 2) 96 = .ok (.iload_n 3, 1) := by decide +kernel
theorem i_2_97 : Jvm.ClassFile.decode (pm_bytes 2) 97 = .ok (.invokestatic 67, 3) := by decide +kernel
theorem i_2_100 : Jvm.ClassFile.decode (pm_bytes 2) 100 = .ok (.invokevirtual 71, 3) := by decide +kernel
theorem i_2_103 : Jvm.ClassFile.decode (pm_bytes 2) 103 = .ok (.ireturn, 1) := by decide +kernel
theorem f_3_12 : (pm_own 3, 12, 0, 0) ∈ pm_fld := f0_12
theorem k_3_56 : (pm_own 3, 56, 18, 1, (some 0 : Option Nat)) ∈ pm_call ∧ pm_rank 18 < pm_rank 3 := ⟨k0_56, by decide⟩
theorem k_3_63 : (pm_own 3, 63, 17, 2, (some 0 : Option Nat)) ∈ pm_call ∧ pm_rank 17 < pm_rank 3 := ⟨k0_63, by decide⟩
theorem k_3_67 : (pm_own 3, 67, 14, 1, (none : Option Nat)) ∈ pm_call ∧ pm_rank 14 < pm_rank 3 := ⟨k0_67, by decide⟩
theorem k_3_71 : (pm_own 3, 71, 25, 4, (some 1 : Option Nat)) ∈ pm_call ∧ pm_rank 25 < pm_rank 3 := ⟨k0_71, by decide⟩
theorem m_3 : pm_mL 3 = 4 := rfl
theorem r_3 : pm_ret 3 = 1 := rfl
theorem i_3_0 : Jvm.ClassFile.decode (pm_bytes 3) 0 = .ok (.aload_n 0, 1) := by decide +kernel
theorem i_3_1 : Jvm.ClassFile.decode (pm_bytes 3) 1 = .ok (.iload_n 1, 1) := by decide +kernel
theorem i_3_2 : Jvm.ClassFile.decode (pm_bytes 3) 2 = .ok (.invokevirtual 63, 3) := by decide +kernel
theorem i_3_5 : Jvm.ClassFile.decode (pm_bytes 3) 5 = .ok (.aload_n 0, 1) := by decide +kernel
theorem i_3_6 : Jvm.ClassFile.decode (pm_bytes 3) 6 = .ok (.iload_n 2, 1) := by decide +kernel
theorem i_3_7 : Jvm.ClassFile.decode (pm_bytes 3) 7 = .ok (.invokevirtual 63, 3) := by decide +kernel
theorem i_3_10 : Jvm.ClassFile.decode (pm_bytes 3) 10 = .ok (.aload_n 0, 1) := by decide +kernel
theorem i_3_11 : Jvm.ClassFile.decode (pm_bytes 3) 11 = .ok (.iload_n 3, 1) := by decide +kernel
theorem i_3_12 : Jvm.ClassFile.decode (pm_bytes 3) 12 = .ok (.invokevirtual 63, 3) := by decide +kernel
theorem i_3_15 : Jvm.ClassFile.decode (pm_bytes 3) 15 = .ok (.aload_n 0, 1) := by decide +kernel
theorem i_3_16 : Jvm.ClassFile.decode (pm_bytes 3) 16 = .ok (.invokevirtual 56, 3) := by decide +kernel
theorem i_3_19 : Jvm.ClassFile.decode (pm_bytes 3) 19 = .ok (.aload_n 0, 1) := by decide +kernel
theorem i_3_20 : Jvm.ClassFile.decode (pm_bytes 3) 20 = .ok (.getfield 12, 3) := by decide +kernel
theorem i_3_23 : Jvm.ClassFile.decode (pm_bytes 3) 23 = .ok (.iload_n 1, 1) := by decide +kernel
theorem i_3_24 : Jvm.ClassFile.decode (pm_bytes 3) 24 = .ok (.invokestatic 67, 3) := by decide +kernel
theorem i_3_27 : Jvm.ClassFile.decode (pm_bytes 3) 27 = .ok (.iload_n 2, 1) := by decide +kernel
theorem i_3_28 : Jvm.ClassFile.decode (pm_bytes 3) 28 = .ok (.invokestatic 67, 3) := by decide +kernel
theorem i_3_31 : Jvm.ClassFile.decode (pm_bytes 3) 31 = .ok (.iload_n 3, 1) := by decide +kernel
theorem i_3_32 : Jvm.ClassFile.decode (pm_bytes 3) 32 = .ok (.invokestatic 67, 3) := by decide +kernel
theorem i_3_35 : Jvm.ClassFile.decode (pm_bytes 3) 35 = .ok (.invokevirtual 71, 3) := by decide +kernel
theorem i_3_38 : Jvm.ClassFile.decode (pm_bytes 3) 38 = .ok (.ireturn, 1) := by decide +kernel
theorem f_4_41 : (pm_own 4, 41, 0, 4) ∈ pm_fld := f0_41
theorem f_4_83 : (pm_own 4, 83, 0, 5) ∈ pm_fld := f0_83
theorem k_4_63 : (pm_own 4, 63, 17, 2, (some 0 : Option Nat)) ∈ pm_call ∧ pm_rank 17 < pm_rank 4 := ⟨k0_63, by decide⟩
theorem t_4_14 : (4, 14, 49, 1, 86, 53) ∈ pm_thr := by decide
theorem m_4 : pm_mL 4 = 2 := rfl
theorem r_4 : pm_ret 4 = 1 := rfl
theorem i_4_0 : Jvm.ClassFile.decode (pm_bytes 4) 0 = .ok (.aload_n 0, 1) := by decide +kernel
theorem i_4_1 : Jvm.ClassFile.decode (pm_bytes 4) 1 = .ok (.iload_n 1, 1) := by decide +kernel
theorem i_4_2 : Jvm.ClassFile.decode (pm_bytes 4) 2 = .ok (.invokevirtual 63, 3) := by decide +kernel
theorem i_4_5 : Jvm.ClassFile.decode (pm_bytes 4) 5 = .ok (.aload_n 0, 1) := by decide +kernel
theorem i_4_6 : Jvm.ClassFile.decode (pm_bytes 4) 6 = .ok (.getfield 83, 3) := by decide +kernel
theorem i_4_9 : Jvm.ClassFile.decode (pm_bytes 4) 9 = .ok (.bipush (20), 2) := by decide +kernel
theorem i_4_11 : Jvm.ClassFile.decode (pm_bytes 4) 11 = .ok (.if_icmp .ne (13), 3) := by decide +kernel
theorem i_4_14 : Jvm.ClassFile.decode (pm_bytes 4) 14 = .ok (.new 49, 3) := by decide +kernel
theorem i_4_17 : Jvm.ClassFile.decode (pm_bytes 4) 17 = .ok (.dup, 1) := by decide +kernel
theorem i_4_24 : Jvm.ClassFile.decode (pm_bytes 4) 24 = .ok (.aload_n 0, 1) := by decide +kernel
theorem i_4_25 : Jvm.ClassFile.decode (pm_bytes 4) 25 = .ok (.getfield 41, 3) := by decide +kernel
theorem i_4_28 : Jvm.ClassFile.decode (pm_bytes 4) 28 = .ok (.aload_n 0, 1) := by decide +kernel
theorem i_4_29 : Jvm.ClassFile.decode (pm_bytes 4) 29 = .ok (.getfield 83, 3) := by decide +kernel
theorem i_4_32 : Jvm.ClassFile.decode (pm_bytes 4) 32 = .ok (.iload_n 1, 1) := by decide +kernel
theorem i_4_33 : Jvm.ClassFile.decode (pm_bytes 4) 33 = .ok (.iastore, 1) := by decide +kernel
theorem i_4_34 : Jvm.ClassFile.decode (pm_bytes 4) 34 = .ok (.aload_n 0, 1) := by decide +kernel
theorem i_4_35 : Jvm.ClassFile.decode (pm_bytes 4) 35 = .ok (.dup, 1) := by decide +kernel
theorem i_4_36 : Jvm.ClassFile.decode (pm_bytes 4) 36 = .ok (.getfield 83, 3) := by decide +kernel
theorem i_4_39 : Jvm.ClassFile.decode (pm_bytes 4) 39 = .ok (.iconst 1, 1) := by decide +kernel
theorem i_4_40 : Jvm.ClassFile.decode (pm_bytes 4) 40 = .ok (.iadd, 1) := by decide +kernel
theorem i_4_41 : Jvm.ClassFile.decode (pm_bytes 4) 41 = .ok (.putfield 83, 3) := by decide +kernel
theorem i_4_44 : Jvm.ClassFile.decode (pm_bytes 4) 44 = .ok (.aload_n 0, 1) := by decide +kernel
theorem i_4_45 : Jvm.ClassFile.decode (pm_bytes 4) 45 = .ok (.getfield 83, 3) := by decide +kernel
theorem i_4_48 : Jvm.ClassFile.decode (pm_bytes 4) 48 = .ok (.ireturn, 1) := by decide +kernel
theorem f_5_83 : (pm_own 5, 83, 0, 5) ∈ pm_fld := f0_83
theorem m_5 : pm_mL 5 = 2 := rfl
theorem r_5 : pm_ret 5 = 1 := rfl
theorem i_5_0 : Jvm.ClassFile.decode (pm_bytes 5) 0 = .ok (.aload_n 0, 1) := by decide +kernel
theorem i_5_1 : Jvm.ClassFile.decode (pm_bytes 5) 1 = .ok (.getfield 83, 3) := by decide +kernel
theorem i_5_4 : Jvm.ClassFile.decode (pm_bytes 5) 4 = .ok (.istore_n 1, 1) := by decide +kernel
theorem i_5_5 : Jvm.ClassFile.decode (pm_bytes 5) 5 = .ok (.aload_n 0, 1) := by decide +kernel
theorem i_5_6 : Jvm.ClassFile.decode (pm_bytes 5) 6 = .ok (.iconst 0, 1) := by decide +kernel
theorem i_5_7 : Jvm.ClassFile.decode (pm_bytes 5) 7 = .ok (.putfield 83, 3) := by decide +kernel
theorem i_5_10 : Jvm.ClassFile.decode (pm_bytes 5) 10 = .ok (.iload_n 1, 1) := by decide +kernel
theorem i_5_11 : Jvm.ClassFile.decode (pm_bytes 5) 11 = .ok (.ireturn, 1) := by decide +kernel
theorem k_6_88 : (pm_own 6, 88, 19, 2, (some 0 : Option Nat)) ∈ pm_call ∧ pm_rank 19 < pm_rank 6 := ⟨k0_88, by decide⟩
theorem k_6_91 : (pm_own 6, 91, 21, 1, (some 0 : Option Nat)) ∈ pm_call ∧ pm_rank 21 < pm_rank 6 := ⟨k0_91, by decide⟩
theorem k_6_95 : (pm_own 6, 95, 22, 1, (some 0 : Option Nat)) ∈ pm_call ∧ pm_rank 22 < pm_rank 6 := ⟨k0_95, by decide⟩
theorem m_6 : pm_mL 6 = 2 := rfl
theorem r_6 : pm_ret 6 = 2 := rfl
theorem i_6_0 : Jvm.ClassFile.decode (pm_bytes 6) 0 = .ok (.aload_n 0, 1) := by decide +kernel
theorem i_6_1 : Jvm.ClassFile.decode (pm_bytes 6) 1 = .ok (.iconst (-1), 1) := by decide +kernel
theorem i_6_2 : Jvm.ClassFile.decode (pm_bytes 6) 2 = .ok (.invokevirtual 88, 3) := by decide +kernel
theorem i_6_5 : Jvm.ClassFile.decode (pm_bytes 6) 5 = .ok (.aload_n 0, 1) := by decide +kernel
theorem i_6_6 : Jvm.ClassFile.decode (pm_bytes 6) 6 = .ok (.invokevirtual 91, 3) := by decide +kernel
theorem i_6_9 : Jvm.ClassFile.decode (pm_bytes 6) 9 = .ok (.istore_n 1, 1) := by decide +kernel
theorem i_6_10 : Jvm.ClassFile.decode (pm_bytes 6) 10 = .ok (.iload_n 1, 1) := by decide +kernel
theorem i_6_11 : Jvm.ClassFile.decode (pm_bytes 6) 11 = .ok (.ifCond .eq (7), 3) := by decide +kernel
theorem i_6_14 : Jvm.ClassFile.decode (pm_bytes 6) 14 = .ok (.aload_n 0, 1) := by decide +kernel
theorem i_6_15 : Jvm.ClassFile.decode (pm_bytes 6) 15 = .ok (.invokevirtual 95, 3) := by decide +kernel
theorem i_6_18 : Jvm.ClassFile.decode (pm_bytes 6) 18 = .ok (.iload_n 1, 1) := by decide +kernel
theorem i_6_19 : Jvm.ClassFile.decode (pm_bytes 6) 19 = .ok (.ireturn, 1) := by decide +kernel
theorem f_7_83 : (pm_own 7, 83, 0, 5) ∈ pm_fld := f0_83
theorem k_7_88 : (pm_own 7, 88, 19, 2, (some 0 : Option Nat)) ∈ pm_call ∧ pm_rank 19 < pm_rank 7 := ⟨k0_88, by decide⟩
theorem k_7_91 : (pm_own 7, 91, 21, 1, (some 0 : Option Nat)) ∈ pm_call ∧ pm_rank 21 < pm_rank 7 := ⟨k0_91, by decide⟩
theorem k_7_98 : (pm_own 7, 98, 23, 2, (some 0 : Option Nat)) ∈ pm_call ∧ pm_rank 23 < pm_rank 7 := ⟨k0_98, by decide⟩
theorem m_7 : pm_mL 7 = 3 := rfl
theorem r_7 : pm_ret 7 = 1 := rfl
theorem i_7_0 : Jvm.ClassFile.decode (pm_bytes 7) 0 = .ok (.aload_n 0, 1) := by decide +kernel
theorem i_7_1 : Jvm.ClassFile.decode (pm_bytes 7) 1 = .ok (.iconst (-1), 1) := by decide +kernel
theorem i_7_2 : Jvm.ClassFile.decode (pm_bytes 7) 2 = .ok (.invokevirtual 88, 3) := by decide +kernel
theorem i_7_5 : Jvm.ClassFile.decode (pm_bytes 7) 5 = .ok (.aload_n 0, 1) := by decide +kernel
theorem i_7_6 : Jvm.ClassFile.decode (pm_bytes 7) 6 = .ok (.invokevirtual 91, 3) := by decide +kernel
theorem i_7_9 : Jvm.ClassFile.decode (pm_bytes 7) 9 = .ok (.ifCond .eq (5), 3) := by decide +kernel
theorem i_7_12 : Jvm.ClassFile.decode (pm_bytes 7) 12 = .ok (.iconst (-1), 1) := by decide +kernel
theorem i_7_13 : Jvm.ClassFile.decode (pm_bytes 7) 13 = .ok (.ireturn, 1) := by decide +kernel
theorem i_7_14 : Jvm.ClassFile.decode (pm_bytes 7) 14 = .ok (.iconst 0, 1) := by decide +kernel
theorem i_7_15 : Jvm.ClassFile.decode (pm_bytes 7) 15 = .ok (.istore_n 1, 1) := by decide +kernel
theorem i_7_16 : Jvm.ClassFile.decode (pm_bytes 7) 16 = .ok (.aload_n 0, 1) := by decide +kernel
theorem i_7_17 : Jvm.ClassFile.decode (pm_bytes 7) 17 = .ok (.getfield 83, 3) := by decide +kernel
theorem i_7_20 : Jvm.ClassFile.decode (pm_bytes 7) 20 = .ok (.istore_n 2, 1) := by decide +kernel
theorem i_7_21 : Jvm.ClassFile.decode (pm_bytes 7) 21 = .ok (.iload_n 2, 1) := by decide +kernel
theorem i_7_22 : Jvm.ClassFile.decode (pm_bytes 7) 22 = .ok (.ifCond .le (32), 3) := by decide +kernel
theorem i_7_25 : Jvm.ClassFile.decode (pm_bytes 7) 25 = .ok (.aload_n 0, 1) := by decide +kernel
theorem i_7_26 : Jvm.ClassFile.decode (pm_bytes 7) 26 = .ok (.iload_n 1, 1) := by decide +kernel
theorem i_7_27 : Jvm.ClassFile.decode (pm_bytes 7) 27 = .ok (.invokevirtual 88, 3) := by decide +kernel
theorem i_7_30 : Jvm.ClassFile.decode (pm_bytes 7) 30 = .ok (.aload_n 0, 1) := by decide +kernel
theorem i_7_31 : Jvm.ClassFile.decode (pm_bytes 7) 31 = .ok (.invokevirtual 91, 3) := by decide +kernel
theorem i_7_34 : Jvm.ClassFile.decode (pm_bytes 7) 34 = .ok (.ifCond .eq (9), 3) := by decide +kernel
theorem i_7_37 : Jvm.ClassFile.decode (pm_bytes 7) 37 = .ok (.iinc 1 (1), 3) := by decide +kernel
theorem i_7_40 : Jvm.ClassFile.decode (pm_bytes 7) 40 = .ok (.goto (8), 3) := by decide +kernel
theorem i_7_43 : Jvm.ClassFile.decode (pm_bytes 7) 43 = .ok (.aload_n 0, 1) := by decide +kernel
theorem i_7_44 : Jvm.ClassFile.decode (pm_bytes 7) 44 = .ok (.iload_n 1, 1) := by decide +kernel
theorem i_7_45 : Jvm.ClassFile.decode (pm_bytes 7) 45 = .ok (.invokevirtual 98, 3) := by decide +kernel
theorem i_7_48 : Jvm.ClassFile.decode (pm_bytes 7) 48 = .ok (.iinc 2 (-1), 3) := by decide +kernel
theorem i_7_51 : Jvm.ClassFile.decode (pm_bytes 7) 51 = .ok (.goto (-30), 3) := by decide +kernel
theorem i_7_54 : Jvm.ClassFile.decode (pm_bytes 7) 54 = .ok (.aload_n 0, 1) := by decide +kernel
theorem i_7_55 : Jvm.ClassFile.decode (pm_bytes 7) 55 = .ok (.getfield 83, 3) := by decide +kernel
theorem i_7_58 : Jvm.ClassFile.decode (pm_bytes 7) 58 = .ok (.ireturn, 1) := by decide +kernel
theorem f_8_41 : (pm_own 8, 41, 0, 4) ∈ pm_fld := f0_41
theorem f_8_83 : (pm_own 8, 83, 0, 5) ∈ pm_fld := f0_83
theorem t_8_12 : (8, 12, 101, 0, 103, 105) ∈ pm_thr := by decide
theorem m_8 : pm_mL 8 = 2 := rfl
theorem r_8 : pm_ret 8 = 1 := rfl
theorem i_8_0 : Jvm.ClassFile.decode (pm_bytes 8) 0 = .ok (.iload_n 1, 1) := by decide +kernel
theorem i_8_1 : Jvm.ClassFile.decode (pm_bytes 8) 1 = .ok (.ifCond .lt (11), 3) := by decide +kernel
theorem i_8_4 : Jvm.ClassFile.decode (pm_bytes 8) 4 = .ok (.iload_n 1, 1) := by decide +kernel
theorem i_8_5 : Jvm.ClassFile.decode (pm_bytes 8) 5 = .ok (.aload_n 0, 1) := by decide +kernel
theorem i_8_6 : Jvm.ClassFile.decode (pm_bytes 8) 6 = .ok (.getfield 83, 3) := by decide +kernel
theorem i_8_9 : Jvm.ClassFile.decode (pm_bytes 8) 9 = .ok (.if_icmp .lt (13), 3) := by decide +kernel
theorem i_8_12 : Jvm.ClassFile.decode (pm_bytes 8) 12 = .ok (.new 101, 3) := by decide +kernel
theorem i_8_15 : Jvm.ClassFile.decode (pm_bytes 8) 15 = .ok (.dup, 1) := by decide +kernel
theorem i_8_22 : Jvm.ClassFile.decode (pm_bytes 8) 22 = .ok (.aload_n 0, 1) := by decide +kernel
theorem i_8_23 : Jvm.ClassFile.decode (pm_bytes 8) 23 = .ok (.getfield 41, 3) := by decide +kernel
theorem i_8_26 : Jvm.ClassFile.decode (pm_bytes 8) 26 = .ok (.iload_n 1, 1) := by decide +kernel
theorem i_8_27 : Jvm.ClassFile.decode (pm_bytes 8) 27 = .ok (.iaload, 1) := by decide +kernel
theorem i_8_28 : Jvm.ClassFile.decode (pm_bytes 8) 28 = .ok (.ireturn, 1) := by decide +kernel
theorem k_9_63 : (pm_own 9, 63, 17, 2, (some 0 : Option Nat)) ∈ pm_call ∧ pm_rank 17 < pm_rank 9 := ⟨k0_63, by decide⟩
theorem k_9_91 : (pm_own 9, 91, 21, 1, (some 0 : Option Nat)) ∈ pm_call ∧ pm_rank 21 < pm_rank 9 := ⟨k0_91, by decide⟩
theorem k_9_95 : (pm_own 9, 95, 22, 1, (some 0 : Option Nat)) ∈ pm_call ∧ pm_rank 22 < pm_rank 9 := ⟨k0_95, by decide⟩
theorem k_9_106 : (pm_own 9, 106, 20, 3, (some 0 : Option Nat)) ∈ pm_call ∧ pm_rank 20 < pm_rank 9 := ⟨k0_106, by decide⟩
theorem m_9 : pm_mL 9 = 4 := rfl
theorem r_9 : pm_ret 9 = 2 := rfl
theorem i_9_0 : Jvm.ClassFile.decode (pm_bytes 9) 0 = .ok (.aload_n 0, 1) := by decide +kernel
theorem i_9_1 : Jvm.ClassFile.decode (pm_bytes 9) 1 = .ok (.iload_n 1, 1) := by decide +kernel
theorem i_9_2 : Jvm.ClassFile.decode (pm_bytes 9) 2 = .ok (.invokevirtual 63, 3) := by decide +kernel
theorem i_9_5 : Jvm.ClassFile.decode (pm_bytes 9) 5 = .ok (.aload_n 0, 1) := by decide +kernel
theorem i_9_6 : Jvm.ClassFile.decode (pm_bytes 9) 6 = .ok (.iload_n 2, 1) := by decide +kernel
theorem i_9_7 : Jvm.ClassFile.decode (pm_bytes 9) 7 = .ok (.invokevirtual 63, 3) := by decide +kernel
theorem i_9_10 : Jvm.ClassFile.decode (pm_bytes 9) 10 = .ok (.aload_n 0, 1) := by decide +kernel
theorem i_9_11 : Jvm.ClassFile.decode (pm_bytes 9) 11 = .ok (.iload_n 1, 1) := by decide +kernel
theorem i_9_12 : Jvm.ClassFile.decode (pm_bytes 9) 12 = .ok (.iload_n 2, 1) := by decide +kernel
theorem i_9_13 : Jvm.ClassFile.decode (pm_bytes 9) 13 = .ok (.invokevirtual 106, 3) := by decide +kernel
theorem i_9_16 : Jvm.ClassFile.decode (pm_bytes 9) 16 = .ok (.aload_n 0, 1) := by decide +kernel
theorem i_9_17 : Jvm.ClassFile.decode (pm_bytes 9) 17 = .ok (.invokevirtual 91, 3) := by decide +kernel
theorem i_9_20 : Jvm.ClassFile.decode (pm_bytes 9) 20 = .ok (.istore_n 3, 1) := by decide +kernel
theorem i_9_21 : Jvm.ClassFile.decode (pm_bytes 9) 21 = .ok (.iload_n 3, 1) := by decide +kernel
theorem i_9_22 : Jvm.ClassFile.decode (pm_bytes 9) 22 = .ok (.ifCond .eq (7), 3) := by decide +kernel
theorem i_9_25 : Jvm.ClassFile.decode (pm_bytes 9) 25 = .ok (.aload_n 0, 1) := by decide +kernel
theorem i_9_26 : Jvm.ClassFile.decode (pm_bytes 9) 26 = .ok (.invokevirtual 95, 3) := by decide +kernel
theorem i_9_29 : Jvm.ClassFile.decode (pm_bytes 9) 29 = .ok (.iload_n 3, 1) := by decide +kernel
theorem i_9_30 : Jvm.ClassFile.decode (pm_bytes 9) 30 = .ok (.ifCond .ne (7), 3) := by decide +kernel
theorem i_9_33 : Jvm.ClassFile.decode (pm_bytes 9) 33 = .ok (.iconst 1, 1) := by decide +kernel
theorem i_9_34 : Jvm.ClassFile.decode (pm_bytes 9) 34 = .ok (.goto (4), 3) := by decide +kernel
theorem i_9_37 : Jvm.ClassFile.decode (pm_bytes 9) 37 = .ok (.iconst 0, 1) := by decide +kernel
theorem i_9_38 : Jvm.ClassFile.decode (pm_bytes 9) 38 = .ok (.ireturn, 1) := by decide +kernel
theorem f_10_12 : (pm_own 10, 12, 0, 0) ∈ pm_fld := f0_12
theorem f_10_45 : (pm_own 10, 45, 1, 7) ∈ pm_fld := f0_45
theorem f_10_112 : (pm_own 10, 112, 1, 5) ∈ pm_fld := f0_112
theorem f_10_115 : (pm_own 10, 115, 1, 3) ∈ pm_fld := f0_115
theorem t_10_15 : (10, 15, 101, 0, 110, 105) ∈ pm_thr := by decide
theorem m_10 : pm_mL 10 = 5 := rfl
theorem r_10 : pm_ret 10 = 2 := rfl
theorem i_10_0 : Jvm.ClassFile.decode (pm_bytes 10) 0 = .ok (.iload_n 1, 1) := by decide +kernel
theorem i_10_1 : Jvm.ClassFile.decode (pm_bytes 10) 1 = .ok (.ifCond .lt (14), 3) := by decide +kernel
theorem i_10_4 : Jvm.ClassFile.decode (pm_bytes 10) 4 = .ok (.iload_n 1, 1) := by decide +kernel
theorem i_10_5 : Jvm.ClassFile.decode (pm_bytes 10) 5 = .ok (.aload_n 0, 1) := by decide +kernel
theorem i_10_6 : Jvm.ClassFile.decode (pm_bytes 10) 6 = .ok (.getfield 12, 3) := by decide +kernel
theorem i_10_9 : Jvm.ClassFile.decode (pm_bytes 10) 9 = .ok (.getfield 45, 3) := by decide +kernel
theorem i_10_12 : Jvm.ClassFile.decode (pm_bytes 10) 12 = .ok (.if_icmp .lt (13), 3) := by decide +kernel
theorem i_10_15 : Jvm.ClassFile.decode (pm_bytes 10) 15 = .ok (.new 101, 3) := by decide +kernel
theorem i_10_18 : Jvm.ClassFile.decode (pm_bytes 10) 18 = .ok (.dup, 1) := by decide +kernel
theorem i_10_25 : Jvm.ClassFile.decode (pm_bytes 10) 25 = .ok (.aload_n 0, 1) := by decide +kernel
theorem i_10_26 : Jvm.ClassFile.decode (pm_bytes 10) 26 = .ok (.getfield 12, 3) := by decide +kernel
theorem i_10_29 : Jvm.ClassFile.decode (pm_bytes 10) 29 = .ok (.getfield 112, 3) := by decide +kernel
theorem i_10_32 : Jvm.ClassFile.decode (pm_bytes 10) 32 = .ok (.iload_n 1, 1) := by decide +kernel
theorem i_10_33 : Jvm.ClassFile.decode (pm_bytes 10) 33 = .ok (.iaload, 1) := by decide +kernel
theorem i_10_34 : Jvm.ClassFile.decode (pm_bytes 10) 34 = .ok (.istore_n 3, 1) := by decide +kernel
theorem i_10_35 : Jvm.ClassFile.decode (pm_bytes 10) 35 = .ok (.aload_n 0, 1) := by decide +kernel
theorem i_10_36 : Jvm.ClassFile.decode (pm_bytes 10) 36 = .ok (.getfield 12, 3) := by decide +kernel
theorem i_10_39 : Jvm.ClassFile.decode (pm_bytes 10) 39 = .ok (.getfield 115, 3) := by decide +kernel
theorem i_10_42 : Jvm.ClassFile.decode (pm_bytes 10) 42 = .ok (.iload_n 3, 1) := by decide +kernel
theorem i_10_43 : Jvm.ClassFile.decode (pm_bytes 10) 43 = .ok (.baload, 1) := by decide +kernel
theorem i_10_44 : Jvm.ClassFile.decode (pm_bytes 10) 44 = .ok (.istore 4, 2) := by decide +kernel
theorem i_10_46 : Jvm.ClassFile.decode (pm_bytes 10) 46 = .ok (.aload_n 0, 1) := by decide +kernel
theorem i_10_47 : Jvm.ClassFile.decode (pm_bytes 10) 47 = .ok (.getfield 12, 3) := by decide +kernel
theorem i_10_50 : Jvm.ClassFile.decode (pm_bytes 10) 50 = .ok (.getfield 115, 3) := by decide +kernel
theorem i_10_53 : Jvm.ClassFile.decode (pm_bytes 10) 53 = .ok (.iload_n 3, 1) := by decide +kernel
theorem i_10_54 : Jvm.ClassFile.decode (pm_bytes 10) 54 = .ok (.iload_n 2, 1) := by decide +kernel
theorem i_10_55 : Jvm.ClassFile.decode (pm_bytes 10) 55 = .ok (.bastore, 1) := by decide +kernel
theorem i_10_56 : Jvm.ClassFile.decode (pm_bytes 10) 56 = .ok (.iload 4, 2) := by decide +kernel
theorem i_10_58 : Jvm.ClassFile.decode (pm_bytes 10) 58 = .ok (.ireturn, 1) := by decide +kernel
theorem f_11_12 : (pm_own 11, 12, 0, 0) ∈ pm_fld := f0_12
theorem k_11_63 : (pm_own 11, 63, 17, 2, (some 0 : Option Nat)) ∈ pm_call ∧ pm_rank 17 < pm_rank 11 := ⟨k0_63, by decide⟩
theorem k_11_119 : (pm_own 11, 119, 26, 2, (some 1 : Option Nat)) ∈ pm_call ∧ pm_rank 26 < pm_rank 11 := ⟨k0_119, by decide⟩
theorem m_11 : pm_mL 11 = 2 := rfl
theorem r_11 : pm_ret 11 = 2 := rfl
theorem i_11_0 : Jvm.ClassFile.decode (pm_bytes 11) 0 = .ok (.aload_n 0, 1) := by decide +kernel
theorem i_11_1 : Jvm.ClassFile.decode (pm_bytes 11) 1 = .ok (.iload_n 1, 1) := by decide +kernel
theorem i_11_2 : Jvm.ClassFile.decode (pm_bytes 11) 2 = .ok (.invokevirtual 63, 3) := by decide +kernel
theorem i_11_5 : Jvm.ClassFile.decode (pm_bytes 11) 5 = .ok (.aload_n 0, 1) := by decide +kernel
theorem i_11_6 : Jvm.ClassFile.decode (pm_bytes 11) 6 = .ok (.getfield 12, 3) := by decide +kernel
theorem i_11_9 : Jvm.ClassFile.decode (pm_bytes 11) 9 = .ok (.iload_n 1, 1) := by decide +kernel
theorem i_11_10 : Jvm.ClassFile.decode (pm_bytes 11) 10 = .ok (.invokevirtual 119, 3) := by decide +kernel
theorem i_11_13 : Jvm.ClassFile.decode (pm_bytes 11) 13 = .ok (.ireturn, 1) := by decide +kernel
theorem f_12_123 : (pm_own 12, 123, 0, 6) ∈ pm_fld := f0_123
theorem m_12 : pm_mL 12 = 1 := rfl
theorem r_12 : pm_ret 12 = 1 := rfl
theorem i_12_0 : Jvm.ClassFile.decode (pm_bytes 12) 0 = .ok (.aload_n 0, 1) := by decide +kernel
theorem i_12_1 : Jvm.ClassFile.decode (pm_bytes 12) 1 = .ok (.getfield 123, 3) := by decide +kernel
theorem i_12_4 : Jvm.ClassFile.decode (pm_bytes 12) 4 = .ok (.ireturn, 1) := by decide +kernel
theorem f_13_12 : (pm_own 13, 12, 0, 0) ∈ pm_fld := f0_12
theorem f_13_45 : (pm_own 13, 45, 1, 7) ∈ pm_fld := f0_45
theorem f_13_83 : (pm_own 13, 83, 0, 5) ∈ pm_fld := f0_83
theorem f_13_126 : (pm_own 13, 126, 1, 6) ∈ pm_fld := f0_126
theorem m_13 : pm_mL 13 = 2 := rfl
theorem r_13 : pm_ret 13 = 1 := rfl
theorem i_13_0 : Jvm.ClassFile.decode (pm_bytes 13) 0 = .ok (.iload_n 1, 1) := by decide +kernel
theorem i_13_1 : Jvm.ClassFile.decode (pm_bytes 13) 1 = .ok (.tableswitch (48) (0) (2) #[27, 35, 43], 27) := by decide +kernel
theorem i_13_28 : Jvm.ClassFile.decode (pm_bytes 13) 28 = .ok (.aload_n 0, 1) := by decide +kernel
theorem i_13_29 : Jvm.ClassFile.decode (pm_bytes 13) 29 = .ok (.getfield 12, 3) := by decide +kernel
theorem i_13_32 : Jvm.ClassFile.decode (pm_bytes 13) 32 = .ok (.getfield 126, 3) := by decide +kernel
theorem i_13_35 : Jvm.ClassFile.decode (pm_bytes 13) 35 = .ok (.ireturn, 1) := by decide +kernel
theorem i_13_36 : Jvm.ClassFile.decode (pm_bytes 13) 36 = .ok (.aload_n 0, 1) := by decide +kernel
theorem i_13_37 : Jvm.ClassFile.decode (pm_bytes 13) 37 = .ok (.getfield 12, 3) := by decide +kernel
theorem i_13_40 : Jvm.ClassFile.decode (pm_bytes 13) 40 = .ok (.getfield 45, 3) := by decide +kernel
theorem i_13_43 : Jvm.ClassFile.decode (pm_bytes 13) 43 = .ok (.ireturn, 1) := by decide +kernel
theorem i_13_44 : Jvm.ClassFile.decode (pm_bytes 13) 44 = .ok (.aload_n 0, 1) := by decide +kernel
theorem i_13_45 : Jvm.ClassFile.decode (pm_bytes 13) 45 = .ok (.getfield 83, 3) := by decide +kernel
theorem i_13_48 : Jvm.ClassFile.decode (pm_bytes 13) 48 = .ok (.ireturn, 1) := by decide +kernel
theorem i_13_49 : Jvm.ClassFile.decode (pm_bytes 13) 49 = .ok (.iconst (-1), 1) := by decide +kernel
theorem i_13_50 : Jvm.ClassFile.decode (pm_bytes 13) 50 = .ok (.ireturn, 1) := by decide +kernel
theorem m_14 : pm_mL 14 = 1 := rfl
theorem r_14 : pm_ret 14 = 1 := rfl
theorem i_14_0 : Jvm.ClassFile.decode (pm_bytes 14) 0 = .ok (.iconst 2, 1) := by decide +kernel
theorem i_14_1 : Jvm.ClassFile.decode (pm_bytes 14) 1 = .ok (.iload_n 0, 1) := by decide +kernel
theorem i_14_2 : Jvm.ClassFile.decode (pm_bytes 14) 2 = .ok (.imul, 1) := by decide +kernel
theorem i_14_3 : Jvm.ClassFile.decode (pm_bytes 14) 3 = .ok (.ireturn, 1) := by decide +kernel
theorem m_15 : pm_mL 15 = 1 := rfl
theorem r_15 : pm_ret 15 = 1 := rfl
theorem i_15_0 : Jvm.ClassFile.decode (pm_bytes 15) 0 = .ok (.iload_n 0, 1) := by decide +kernel
theorem i_15_1 : Jvm.ClassFile.decode (pm_bytes 15) 1 = .ok (.iconst 1, 1) := by decide +kernel
theorem i_15_2 : Jvm.ClassFile.decode (pm_bytes 15) 2 = .ok (.ixor, 1) := by decide +kernel
theorem i_15_3 : Jvm.ClassFile.decode (pm_bytes 15) 3 = .ok (.ireturn, 1) := by decide +kernel
theorem m_16 : pm_mL 16 = 1 := rfl
theorem r_16 : pm_ret 16 = 1 := rfl
theorem i_16_0 : Jvm.ClassFile.decode (pm_bytes 16) 0 = .ok (.iload_n 0, 1) := by decide +kernel
theorem i_16_1 : Jvm.ClassFile.decode (pm_bytes 16) 1 = .ok (.iconst 1, 1) := by decide +kernel
theorem i_16_2 : Jvm.ClassFile.decode (pm_bytes 16) 2 = .ok (.ishr, 1) := by decide +kernel
theorem i_16_3 : Jvm.ClassFile.decode (pm_bytes 16) 3 = .ok (.ireturn, 1) := by decide +kernel
theorem f_17_12 : (pm_own 17, 12, 0, 0) ∈ pm_fld := f0_12
theorem f_17_126 : (pm_own 17, 126, 1, 6) ∈ pm_fld := f0_126
theorem t_17_15 : (17, 15, 101, 0, 129, 105) ∈ pm_thr := by decide
theorem m_17 : pm_mL 17 = 2 := rfl
theorem r_17 : pm_ret 17 = 0 := rfl
theorem i_17_0 : Jvm.ClassFile.decode (pm_bytes 17) 0 = .ok (.iload_n 1, 1) := by decide +kernel
theorem i_17_1 : Jvm.ClassFile.decode (pm_bytes 17) 1 = .ok (.ifCond .lt (14), 3) := by decide +kernel
theorem i_17_4 : Jvm.ClassFile.decode (pm_bytes 17) 4 = .ok (.iload_n 1, 1) := by decide +kernel
theorem i_17_5 : Jvm.ClassFile.decode (pm_bytes 17) 5 = .ok (.aload_n 0, 1) := by decide +kernel
theorem i_17_6 : Jvm.ClassFile.decode (pm_bytes 17) 6 = .ok (.getfield 12, 3) := by decide +kernel
theorem i_17_9 : Jvm.ClassFile.decode (pm_bytes 17) 9 = .ok (.getfield 126, 3) := by decide +kernel
theorem i_17_12 : Jvm.ClassFile.decode (pm_bytes 17) 12 = .ok (.if_icmp .lt (13), 3) := by decide +kernel
theorem i_17_15 : Jvm.ClassFile.decode (pm_bytes 17) 15 = .ok (.new 101, 3) := by decide +kernel
theorem i_17_18 : Jvm.ClassFile.decode (pm_bytes 17) 18 = .ok (.dup, 1) := by decide +kernel
theorem i_17_25 : Jvm.ClassFile.decode (pm_bytes 17) 25 = .ok (.return_, 1) := by decide +kernel
theorem f_18_12 : (pm_own 18, 12, 0, 0) ∈ pm_fld := f0_12
theorem f_18_126 : (pm_own 18, 126, 1, 6) ∈ pm_fld := f0_126
theorem t_18_13 : (18, 13, 49, 1, 131, 53) ∈ pm_thr := by decide
theorem m_18 : pm_mL 18 = 1 := rfl
theorem r_18 : pm_ret 18 = 0 := rfl
theorem i_18_0 : Jvm.ClassFile.decode (pm_bytes 18) 0 = .ok (.aload_n 0, 1) := by decide +kernel
theorem i_18_1 : Jvm.ClassFile.decode (pm_bytes 18) 1 = .ok (.getfield 12, 3) := by decide +kernel
theorem i_18_4 : Jvm.ClassFile.decode (pm_bytes 18) 4 = .ok (.getfield 126, 3) := by decide +kernel
theorem i_18_7 : Jvm.ClassFile.decode (pm_bytes 18) 7 = .ok (.sipush (2000), 3) := by decide +kernel
theorem i_18_10 : Jvm.ClassFile.decode (pm_bytes 18) 10 = .ok (.if_icmp .ne (13), 3) := by decide +kernel
theorem i_18_13 : Jvm.ClassFile.decode (pm_bytes 18) 13 = .ok (.new 49, 3) := by decide +kernel
theorem i_18_16 : Jvm.ClassFile.decode (pm_bytes 18) 16 = .ok (.dup, 1) := by decide +kernel
theorem i_18_23 : Jvm.ClassFile.decode (pm_bytes 18) 23 = .ok (.return_, 1) := by decide +kernel
theorem f_19_12 : (pm_own 19, 12, 0, 0) ∈ pm_fld := f0_12
theorem f_19_19 : (pm_own 19, 19, 0, 1) ∈ pm_fld := f0_19
theorem f_19_41 : (pm_own 19, 41, 0, 4) ∈ pm_fld := f0_41
theorem f_19_83 : (pm_own 19, 83, 0, 5) ∈ pm_fld := f0_83
theorem k_19_67 : (pm_own 19, 67, 14, 1, (none : Option Nat)) ∈ pm_call ∧ pm_rank 14 < pm_rank 19 := ⟨k0_67, by decide⟩
theorem k_19_133 : (pm_own 19, 133, 32, 1, (some 2 : Option Nat)) ∈ pm_call ∧ pm_rank 32 < pm_rank 19 := ⟨k0_133, by decide⟩
theorem k_19_136 : (pm_own 19, 136, 28, 1, (some 1 : Option Nat)) ∈ pm_call ∧ pm_rank 28 < pm_rank 19 := ⟨k0_136, by decide⟩
theorem k_19_139 : (pm_own 19, 139, 33, 4, (some 2 : Option Nat)) ∈ pm_call ∧ pm_rank 33 < pm_rank 19 := ⟨k0_139, by decide⟩
theorem k_19_143 : (pm_own 19, 143, 29, 2, (some 1 : Option Nat)) ∈ pm_call ∧ pm_rank 29 < pm_rank 19 := ⟨k0_143, by decide⟩
theorem k_19_146 : (pm_own 19, 146, 30, 2, (some 1 : Option Nat)) ∈ pm_call ∧ pm_rank 30 < pm_rank 19 := ⟨k0_146, by decide⟩
theorem m_19 : pm_mL 19 = 3 := rfl
theorem r_19 : pm_ret 19 = 0 := rfl
theorem i_19_0 : Jvm.ClassFile.decode (pm_bytes 19) 0 = .ok (.aload_n 0, 1) := by decide +kernel
theorem i_19_1 : Jvm.ClassFile.decode (pm_bytes 19) 1 = .ok (.getfield 19, 3) := by decide +kernel
theorem i_19_4 : Jvm.ClassFile.decode (pm_bytes 19) 4 = .ok (.invokevirtual 133, 3) := by decide +kernel
theorem i_19_7 : Jvm.ClassFile.decode (pm_bytes 19) 7 = .ok (.aload_n 0, 1) := by decide +kernel
theorem i_19_8 : Jvm.ClassFile.decode (pm_bytes 19) 8 = .ok (.getfield 12, 3) := by decide +kernel
theorem i_19_11 : Jvm.ClassFile.decode (pm_bytes 19) 11 = .ok (.invokevirtual 136, 3) := by decide +kernel
theorem i_19_14 : Jvm.ClassFile.decode (pm_bytes 19) 14 = .ok (.iconst 0, 1) := by decide +kernel
theorem i_19_15 : Jvm.ClassFile.decode (pm_bytes 19) 15 = .ok (.istore_n 2, 1) := by decide +kernel
theorem i_19_16 : Jvm.ClassFile.decode (pm_bytes 19) 16 = .ok (.iload_n 2, 1) := by decide +kernel
theorem i_19_17 : Jvm.ClassFile.decode (pm_bytes 19) 17 = .ok (.aload_n 0, 1) := by decide +kernel
theorem i_19_18 : Jvm.ClassFile.decode (pm_bytes 19) 18 = .ok (.getfield 83, 3) := by decide +kernel
theorem i_19_21 : Jvm.ClassFile.decode (pm_bytes 19) 21 = .ok (.if_icmp .ge (45), 3) := by decide +kernel
theorem i_19_24 : Jvm.ClassFile.decode (pm_bytes 19) 24 = .ok (.iload_n 2, 1) := by decide +kernel
theorem i_19_25 : Jvm.ClassFile.decode (pm_bytes 19) 25 = .ok (.iload_n 1, 1) := by decide +kernel
theorem i_19_26 : Jvm.ClassFile.decode (pm_bytes 19) 26 = .ok (.if_icmp .eq (34), 3) := by decide +kernel
theorem i_19_29 : Jvm.ClassFile.decode (pm_bytes 19) 29 = .ok (.aload_n 0, 1) := by decide +kernel
theorem i_19_30 : Jvm.ClassFile.decode (pm_bytes 19) 30 = .ok (.getfield 19, 3) := by decide +kernel
theorem i_19_33 : Jvm.ClassFile.decode (pm_bytes 19) 33 = .ok (.aload_n 0, 1) := by decide +kernel
theorem i_19_34 : Jvm.ClassFile.decode (pm_bytes 19) 34 = .ok (.getfield 41, 3) := by decide +kernel
theorem i_19_37 : Jvm.ClassFile.decode (pm_bytes 19) 37 = .ok (.iload_n 2, 1) := by decide +kernel
theorem i_19_38 : Jvm.ClassFile.decode (pm_bytes 19) 38 = .ok (.iaload, 1) := by decide +kernel
theorem i_19_39 : Jvm.ClassFile.decode (pm_bytes 19) 39 = .ok (.invokestatic 67, 3) := by decide +kernel
theorem i_19_42 : Jvm.ClassFile.decode (pm_bytes 19) 42 = .ok (.iconst 0, 1) := by decide +kernel
theorem i_19_43 : Jvm.ClassFile.decode (pm_bytes 19) 43 = .ok (.iconst 0, 1) := by decide +kernel
theorem i_19_44 : Jvm.ClassFile.decode (pm_bytes 19) 44 = .ok (.invokevirtual 139, 3) := by decide +kernel
theorem i_19_47 : Jvm.ClassFile.decode (pm_bytes 19) 47 = .ok (.aload_n 0, 1) := by decide +kernel
theorem i_19_48 : Jvm.ClassFile.decode (pm_bytes 19) 48 = .ok (.getfield 12, 3) := by decide +kernel
theorem i_19_51 : Jvm.ClassFile.decode (pm_bytes 19) 51 = .ok (.aload_n 0, 1) := by decide +kernel
theorem i_19_52 : Jvm.ClassFile.decode (pm_bytes 19) 52 = .ok (.getfield 41, 3) := by decide +kernel
theorem i_19_55 : Jvm.ClassFile.decode (pm_bytes 19) 55 = .ok (.iload_n 2, 1) := by decide +kernel
theorem i_19_56 : Jvm.ClassFile.decode (pm_bytes 19) 56 = .ok (.iaload, 1) := by decide +kernel
theorem i_19_57 : Jvm.ClassFile.decode (pm_bytes 19) 57 = .ok (.invokevirtual 143, 3) := by decide +kernel
theorem i_19_60 : Jvm.ClassFile.decode (pm_bytes 19) 60 = .ok (.iinc 2 (1), 3) := by decide +kernel
theorem i_19_63 : Jvm.ClassFile.decode (pm_bytes 19) 63 = .ok (.goto (-47), 3) := by decide +kernel
theorem i_19_66 : Jvm.ClassFile.decode (pm_bytes 19) 66 = .ok (.aload_n 0, 1) := by decide +kernel
theorem i_19_67 : Jvm.ClassFile.decode (pm_bytes 19) 67 = .ok (.getfield 12, 3) := by decide +kernel
theorem i_19_70 : Jvm.ClassFile.decode (pm_bytes 19) 70 = .ok (.aload_n 0, 1) := by decide +kernel
theorem i_19_71 : Jvm.ClassFile.decode (pm_bytes 19) 71 = .ok (.getfield 19, 3) := by decide +kernel
theorem i_19_74 : Jvm.ClassFile.decode (pm_bytes 19) 74 = .ok (.invokevirtual 146, 3) := by decide +kernel
theorem i_19_77 : Jvm.ClassFile.decode (pm_bytes 19) 77 = .ok (.return_, 1) := by decide +kernel
