/-! fetch rows of the methods 40 to 49, laid by wip/whole/gen/fetch.py -/
theorem f_40_9 : (pm_own 40, 9, 3, 1) ∈ pm_fld := f3_9
theorem f_40_15 : (pm_own 40, 15, 3, 0) ∈ pm_fld := f3_15
theorem f_40_25 : (pm_own 40, 25, 3, 3) ∈ pm_fld := f3_25
theorem f_40_40 : (pm_own 40, 40, 3, 2) ∈ pm_fld := f3_40
theorem f_40_43 : (pm_own 40, 43, 2, 1) ∈ pm_fld := f3_43
theorem f_40_46 : (pm_own 40, 46, 2, 0) ∈ pm_fld := f3_46
theorem k_40_49 : (pm_own 40, 49, 41, 2, (some 3 : Option Nat)) ∈ pm_call ∧ pm_rank 41 < pm_rank 40 := ⟨k3_49, by decide⟩
theorem k_40_52 : (pm_own 40, 52, 15, 1, (none : Option Nat)) ∈ pm_call ∧ pm_rank 15 < pm_rank 40 := ⟨k3_52, by decide⟩
theorem m_40 : pm_mL 40 = 6 := rfl
theorem r_40 : pm_ret 40 = 2 := rfl
theorem i_40_0 : Jvm.ClassFile.decode (pm_bytes 40) 0 = .ok (.aload_n 0, 1) := by decide +kernel
theorem i_40_1 : Jvm.ClassFile.decode (pm_bytes 40) 1 = .ok (.dup, 1) := by decide +kernel
theorem i_40_2 : Jvm.ClassFile.decode (pm_bytes 40) 2 = .ok (.getfield 40, 3) := by decide +kernel
theorem i_40_5 : Jvm.ClassFile.decode (pm_bytes 40) 5 = .ok (.iconst 1, 1) := by decide +kernel
theorem i_40_6 : Jvm.ClassFile.decode (pm_bytes 40) 6 = .ok (.iadd, 1) := by decide +kernel
theorem i_40_7 : Jvm.ClassFile.decode (pm_bytes 40) 7 = .ok (.putfield 40, 3) := by decide +kernel
theorem i_40_10 : Jvm.ClassFile.decode (pm_bytes 40) 10 = .ok (.aload_n 0, 1) := by decide +kernel
theorem i_40_11 : Jvm.ClassFile.decode (pm_bytes 40) 11 = .ok (.getfield 15, 3) := by decide +kernel
theorem i_40_14 : Jvm.ClassFile.decode (pm_bytes 40) 14 = .ok (.getfield 43, 3) := by decide +kernel
theorem i_40_17 : Jvm.ClassFile.decode (pm_bytes 40) 17 = .ok (.iload_n 1, 1) := by decide +kernel
theorem i_40_18 : Jvm.ClassFile.decode (pm_bytes 40) 18 = .ok (.iaload, 1) := by decide +kernel
theorem i_40_19 : Jvm.ClassFile.decode (pm_bytes 40) 19 = .ok (.istore 4, 2) := by decide +kernel
theorem i_40_21 : Jvm.ClassFile.decode (pm_bytes 40) 21 = .ok (.iload 4, 2) := by decide +kernel
theorem i_40_23 : Jvm.ClassFile.decode (pm_bytes 40) 23 = .ok (.aload_n 0, 1) := by decide +kernel
theorem i_40_24 : Jvm.ClassFile.decode (pm_bytes 40) 24 = .ok (.getfield 15, 3) := by decide +kernel
theorem i_40_27 : Jvm.ClassFile.decode (pm_bytes 40) 27 = .ok (.getfield 43, 3) := by decide +kernel
theorem i_40_30 : Jvm.ClassFile.decode (pm_bytes 40) 30 = .ok (.iload_n 1, 1) := by decide +kernel
theorem i_40_31 : Jvm.ClassFile.decode (pm_bytes 40) 31 = .ok (.iconst 1, 1) := by decide +kernel
theorem i_40_32 : Jvm.ClassFile.decode (pm_bytes 40) 32 = .ok (.iadd, 1) := by decide +kernel
theorem i_40_33 : Jvm.ClassFile.decode (pm_bytes 40) 33 = .ok (.iaload, 1) := by decide +kernel
theorem i_40_34 : Jvm.ClassFile.decode (pm_bytes 40) 34 = .ok (.if_icmp .ge (28), 3) := by decide +kernel
theorem i_40_37 : Jvm.ClassFile.decode (pm_bytes 40) 37 = .ok (.aload_n 0, 1) := by decide +kernel
theorem i_40_38 : Jvm.ClassFile.decode (pm_bytes 40) 38 = .ok (.getfield 9, 3) := by decide +kernel
theorem i_40_41 : Jvm.ClassFile.decode (pm_bytes 40) 41 = .ok (.aload_n 0, 1) := by decide +kernel
theorem i_40_42 : Jvm.ClassFile.decode (pm_bytes 40) 42 = .ok (.getfield 15, 3) := by decide +kernel
theorem i_40_45 : Jvm.ClassFile.decode (pm_bytes 40) 45 = .ok (.getfield 46, 3) := by decide +kernel
theorem i_40_48 : Jvm.ClassFile.decode (pm_bytes 40) 48 = .ok (.iload 4, 2) := by decide +kernel
theorem i_40_50 : Jvm.ClassFile.decode (pm_bytes 40) 50 = .ok (.iaload, 1) := by decide +kernel
theorem i_40_51 : Jvm.ClassFile.decode (pm_bytes 40) 51 = .ok (.aload_n 0, 1) := by decide +kernel
theorem i_40_52 : Jvm.ClassFile.decode (pm_bytes 40) 52 = .ok (.getfield 40, 3) := by decide +kernel
theorem i_40_55 : Jvm.ClassFile.decode (pm_bytes 40) 55 = .ok (.iastore, 1) := by decide +kernel
theorem i_40_56 : Jvm.ClassFile.decode (pm_bytes 40) 56 = .ok (.iinc 4 (1), 3) := by decide +kernel
theorem i_40_59 : Jvm.ClassFile.decode (pm_bytes 40) 59 = .ok (.goto (-38), 3) := by decide +kernel
theorem i_40_62 : Jvm.ClassFile.decode (pm_bytes 40) 62 = .ok (.iconst 0, 1) := by decide +kernel
theorem i_40_63 : Jvm.ClassFile.decode (pm_bytes 40) 63 = .ok (.istore 4, 2) := by decide +kernel
theorem i_40_65 : Jvm.ClassFile.decode (pm_bytes 40) 65 = .ok (.iload 4, 2) := by decide +kernel
theorem i_40_67 : Jvm.ClassFile.decode (pm_bytes 40) 67 = .ok (.iload_n 3, 1) := by decide +kernel
theorem i_40_68 : Jvm.ClassFile.decode (pm_bytes 40) 68 = .ok (.if_icmp .ge (70), 3) := by decide +kernel
theorem i_40_71 : Jvm.ClassFile.decode (pm_bytes 40) 71 = .ok (.aload_n 2, 1) := by decide +kernel
theorem i_40_72 : Jvm.ClassFile.decode (pm_bytes 40) 72 = .ok (.iload 4, 2) := by decide +kernel
theorem i_40_74 : Jvm.ClassFile.decode (pm_bytes 40) 74 = .ok (.iaload, 1) := by decide +kernel
theorem i_40_75 : Jvm.ClassFile.decode (pm_bytes 40) 75 = .ok (.ifCond .lt (14), 3) := by decide +kernel
theorem i_40_78 : Jvm.ClassFile.decode (pm_bytes 40) 78 = .ok (.aload_n 2, 1) := by decide +kernel
theorem i_40_79 : Jvm.ClassFile.decode (pm_bytes 40) 79 = .ok (.iload 4, 2) := by decide +kernel
theorem i_40_81 : Jvm.ClassFile.decode (pm_bytes 40) 81 = .ok (.iaload, 1) := by decide +kernel
theorem i_40_82 : Jvm.ClassFile.decode (pm_bytes 40) 82 = .ok (.aload_n 0, 1) := by decide +kernel
theorem i_40_83 : Jvm.ClassFile.decode (pm_bytes 40) 83 = .ok (.getfield 25, 3) := by decide +kernel
theorem i_40_86 : Jvm.ClassFile.decode (pm_bytes 40) 86 = .ok (.if_icmp .lt (5), 3) := by decide +kernel
theorem i_40_89 : Jvm.ClassFile.decode (pm_bytes 40) 89 = .ok (.iconst 0, 1) := by decide +kernel
theorem i_40_90 : Jvm.ClassFile.decode (pm_bytes 40) 90 = .ok (.ireturn, 1) := by decide +kernel
theorem i_40_91 : Jvm.ClassFile.decode (pm_bytes 40) 91 = .ok (.aload_n 0, 1) := by decide +kernel
theorem i_40_92 : Jvm.ClassFile.decode (pm_bytes 40) 92 = .ok (.aload_n 2, 1) := by decide +kernel
theorem i_40_93 : Jvm.ClassFile.decode (pm_bytes 40) 93 = .ok (.iload 4, 2) := by decide +kernel
theorem i_40_95 : Jvm.ClassFile.decode (pm_bytes 40) 95 = .ok (.iaload, 1) := by decide +kernel
theorem i_40_96 : Jvm.ClassFile.decode (pm_bytes 40) 96 = .ok (.invokevirtual 49, 3) := by decide +kernel
theorem i_40_99 : Jvm.ClassFile.decode (pm_bytes 40) 99 = .ok (.istore 5, 2) := by decide +kernel
theorem i_40_101 : Jvm.ClassFile.decode (pm_bytes 40) 101 = .ok (.iload 5, 2) := by decide +kernel
theorem i_40_103 : Jvm.ClassFile.decode (pm_bytes 40) 103 = .ok (.ifCond .ge (15), 3) := by decide +kernel
theorem i_40_106 : Jvm.ClassFile.decode (pm_bytes 40) 106 = .ok (.iload 5, 2) := by decide +kernel
theorem i_40_108 : Jvm.ClassFile.decode (pm_bytes 40) 108 = .ok (.iconst (-1), 1) := by decide +kernel
theorem i_40_109 : Jvm.ClassFile.decode (pm_bytes 40) 109 = .ok (.if_icmp .ne (7), 3) := by decide +kernel
theorem i_40_112 : Jvm.ClassFile.decode (pm_bytes 40) 112 = .ok (.iconst 1, 1) := by decide +kernel
theorem i_40_113 : Jvm.ClassFile.decode (pm_bytes 40) 113 = .ok (.goto (4), 3) := by decide +kernel
theorem i_40_116 : Jvm.ClassFile.decode (pm_bytes 40) 116 = .ok (.iconst 0, 1) := by decide +kernel
theorem i_40_117 : Jvm.ClassFile.decode (pm_bytes 40) 117 = .ok (.ireturn, 1) := by decide +kernel
theorem i_40_118 : Jvm.ClassFile.decode (pm_bytes 40) 118 = .ok (.aload_n 0, 1) := by decide +kernel
theorem i_40_119 : Jvm.ClassFile.decode (pm_bytes 40) 119 = .ok (.getfield 9, 3) := by decide +kernel
theorem i_40_122 : Jvm.ClassFile.decode (pm_bytes 40) 122 = .ok (.iload 5, 2) := by decide +kernel
theorem i_40_124 : Jvm.ClassFile.decode (pm_bytes 40) 124 = .ok (.invokestatic 52, 3) := by decide +kernel
theorem i_40_127 : Jvm.ClassFile.decode (pm_bytes 40) 127 = .ok (.aload_n 0, 1) := by decide +kernel
theorem i_40_128 : Jvm.ClassFile.decode (pm_bytes 40) 128 = .ok (.getfield 40, 3) := by decide +kernel
theorem i_40_131 : Jvm.ClassFile.decode (pm_bytes 40) 131 = .ok (.iastore, 1) := by decide +kernel
theorem i_40_132 : Jvm.ClassFile.decode (pm_bytes 40) 132 = .ok (.iinc 4 (1), 3) := by decide +kernel
theorem i_40_135 : Jvm.ClassFile.decode (pm_bytes 40) 135 = .ok (.goto (-70), 3) := by decide +kernel
theorem i_40_138 : Jvm.ClassFile.decode (pm_bytes 40) 138 = .ok (.iconst 0, 1) := by decide +kernel
theorem i_40_139 : Jvm.ClassFile.decode (pm_bytes 40) 139 = .ok (.ireturn, 1) := by decide +kernel
theorem f_41_9 : (pm_own 41, 9, 3, 1) ∈ pm_fld := f3_9
theorem f_41_15 : (pm_own 41, 15, 3, 0) ∈ pm_fld := f3_15
theorem f_41_40 : (pm_own 41, 40, 3, 2) ∈ pm_fld := f3_40
theorem f_41_43 : (pm_own 41, 43, 2, 1) ∈ pm_fld := f3_43
theorem f_41_46 : (pm_own 41, 46, 2, 0) ∈ pm_fld := f3_46
theorem m_41 : pm_mL 41 = 4 := rfl
theorem r_41 : pm_ret 41 = 1 := rfl
theorem i_41_0 : Jvm.ClassFile.decode (pm_bytes 41) 0 = .ok (.iconst (-1), 1) := by decide +kernel
theorem i_41_1 : Jvm.ClassFile.decode (pm_bytes 41) 1 = .ok (.istore_n 2, 1) := by decide +kernel
theorem i_41_2 : Jvm.ClassFile.decode (pm_bytes 41) 2 = .ok (.aload_n 0, 1) := by decide +kernel
theorem i_41_3 : Jvm.ClassFile.decode (pm_bytes 41) 3 = .ok (.getfield 15, 3) := by decide +kernel
theorem i_41_6 : Jvm.ClassFile.decode (pm_bytes 41) 6 = .ok (.getfield 43, 3) := by decide +kernel
theorem i_41_9 : Jvm.ClassFile.decode (pm_bytes 41) 9 = .ok (.iload_n 1, 1) := by decide +kernel
theorem i_41_10 : Jvm.ClassFile.decode (pm_bytes 41) 10 = .ok (.iaload, 1) := by decide +kernel
theorem i_41_11 : Jvm.ClassFile.decode (pm_bytes 41) 11 = .ok (.istore_n 3, 1) := by decide +kernel
theorem i_41_12 : Jvm.ClassFile.decode (pm_bytes 41) 12 = .ok (.iload_n 3, 1) := by decide +kernel
theorem i_41_13 : Jvm.ClassFile.decode (pm_bytes 41) 13 = .ok (.aload_n 0, 1) := by decide +kernel
theorem i_41_14 : Jvm.ClassFile.decode (pm_bytes 41) 14 = .ok (.getfield 15, 3) := by decide +kernel
theorem i_41_17 : Jvm.ClassFile.decode (pm_bytes 41) 17 = .ok (.getfield 43, 3) := by decide +kernel
theorem i_41_20 : Jvm.ClassFile.decode (pm_bytes 41) 20 = .ok (.iload_n 1, 1) := by decide +kernel
theorem i_41_21 : Jvm.ClassFile.decode (pm_bytes 41) 21 = .ok (.iconst 1, 1) := by decide +kernel
theorem i_41_22 : Jvm.ClassFile.decode (pm_bytes 41) 22 = .ok (.iadd, 1) := by decide +kernel
theorem i_41_23 : Jvm.ClassFile.decode (pm_bytes 41) 23 = .ok (.iaload, 1) := by decide +kernel
theorem i_41_24 : Jvm.ClassFile.decode (pm_bytes 41) 24 = .ok (.if_icmp .ge (50), 3) := by decide +kernel
theorem i_41_27 : Jvm.ClassFile.decode (pm_bytes 41) 27 = .ok (.aload_n 0, 1) := by decide +kernel
theorem i_41_28 : Jvm.ClassFile.decode (pm_bytes 41) 28 = .ok (.getfield 9, 3) := by decide +kernel
theorem i_41_31 : Jvm.ClassFile.decode (pm_bytes 41) 31 = .ok (.aload_n 0, 1) := by decide +kernel
theorem i_41_32 : Jvm.ClassFile.decode (pm_bytes 41) 32 = .ok (.getfield 15, 3) := by decide +kernel
theorem i_41_35 : Jvm.ClassFile.decode (pm_bytes 41) 35 = .ok (.getfield 46, 3) := by decide +kernel
theorem i_41_38 : Jvm.ClassFile.decode (pm_bytes 41) 38 = .ok (.iload_n 3, 1) := by decide +kernel
theorem i_41_39 : Jvm.ClassFile.decode (pm_bytes 41) 39 = .ok (.iaload, 1) := by decide +kernel
theorem i_41_40 : Jvm.ClassFile.decode (pm_bytes 41) 40 = .ok (.iaload, 1) := by decide +kernel
theorem i_41_41 : Jvm.ClassFile.decode (pm_bytes 41) 41 = .ok (.aload_n 0, 1) := by decide +kernel
theorem i_41_42 : Jvm.ClassFile.decode (pm_bytes 41) 42 = .ok (.getfield 40, 3) := by decide +kernel
theorem i_41_45 : Jvm.ClassFile.decode (pm_bytes 41) 45 = .ok (.if_icmp .eq (23), 3) := by decide +kernel
theorem i_41_48 : Jvm.ClassFile.decode (pm_bytes 41) 48 = .ok (.iload_n 2, 1) := by decide +kernel
theorem i_41_49 : Jvm.ClassFile.decode (pm_bytes 41) 49 = .ok (.iconst (-1), 1) := by decide +kernel
theorem i_41_50 : Jvm.ClassFile.decode (pm_bytes 41) 50 = .ok (.if_icmp .ne (15), 3) := by decide +kernel
theorem i_41_53 : Jvm.ClassFile.decode (pm_bytes 41) 53 = .ok (.aload_n 0, 1) := by decide +kernel
theorem i_41_54 : Jvm.ClassFile.decode (pm_bytes 41) 54 = .ok (.getfield 15, 3) := by decide +kernel
theorem i_41_57 : Jvm.ClassFile.decode (pm_bytes 41) 57 = .ok (.getfield 46, 3) := by decide +kernel
theorem i_41_60 : Jvm.ClassFile.decode (pm_bytes 41) 60 = .ok (.iload_n 3, 1) := by decide +kernel
theorem i_41_61 : Jvm.ClassFile.decode (pm_bytes 41) 61 = .ok (.iaload, 1) := by decide +kernel
theorem i_41_62 : Jvm.ClassFile.decode (pm_bytes 41) 62 = .ok (.goto (5), 3) := by decide +kernel
theorem i_41_65 : Jvm.ClassFile.decode (pm_bytes 41) 65 = .ok (.bipush (-2), 2) := by decide +kernel
theorem i_41_67 : Jvm.ClassFile.decode (pm_bytes 41) 67 = .ok (.istore_n 2, 1) := by decide +kernel
theorem i_41_68 : Jvm.ClassFile.decode (pm_bytes 41) 68 = .ok (.iinc 3 (1), 3) := by decide +kernel
theorem i_41_71 : Jvm.ClassFile.decode (pm_bytes 41) 71 = .ok (.goto (-59), 3) := by decide +kernel
theorem i_41_74 : Jvm.ClassFile.decode (pm_bytes 41) 74 = .ok (.iload_n 2, 1) := by decide +kernel
theorem i_41_75 : Jvm.ClassFile.decode (pm_bytes 41) 75 = .ok (.ireturn, 1) := by decide +kernel
theorem f_42_12 : (pm_own 42, 12, 4, 3) ∈ pm_fld := f4_12
theorem f_42_44 : (pm_own 42, 44, 5, 0) ∈ pm_fld := f4_44
theorem k_42_47 : (pm_own 42, 47, 14, 1, (none : Option Nat)) ∈ pm_call ∧ pm_rank 14 < pm_rank 42 := ⟨k4_47, by decide⟩
theorem m_42 : pm_mL 42 = 2 := rfl
theorem r_42 : pm_ret 42 = 2 := rfl
theorem i_42_0 : Jvm.ClassFile.decode (pm_bytes 42) 0 = .ok (.aload_n 0, 1) := by decide +kernel
theorem i_42_1 : Jvm.ClassFile.decode (pm_bytes 42) 1 = .ok (.getfield 12, 3) := by decide +kernel
theorem i_42_4 : Jvm.ClassFile.decode (pm_bytes 42) 4 = .ok (.getfield 44, 3) := by decide +kernel
theorem i_42_7 : Jvm.ClassFile.decode (pm_bytes 42) 7 = .ok (.iload_n 1, 1) := by decide +kernel
theorem i_42_8 : Jvm.ClassFile.decode (pm_bytes 42) 8 = .ok (.invokestatic 47, 3) := by decide +kernel
theorem i_42_11 : Jvm.ClassFile.decode (pm_bytes 42) 11 = .ok (.baload, 1) := by decide +kernel
theorem i_42_12 : Jvm.ClassFile.decode (pm_bytes 42) 12 = .ok (.ireturn, 1) := by decide +kernel
theorem f_43_36 : (pm_own 43, 36, 4, 1) ∈ pm_fld := f4_36
theorem k_43_51 : (pm_own 43, 51, 45, 1, (some 4 : Option Nat)) ∈ pm_call ∧ pm_rank 45 < pm_rank 43 := ⟨k4_51, by decide⟩
theorem k_43_55 : (pm_own 43, 55, 46, 1, (some 4 : Option Nat)) ∈ pm_call ∧ pm_rank 46 < pm_rank 43 := ⟨k4_55, by decide⟩
theorem k_43_58 : (pm_own 43, 58, 53, 2, (some 4 : Option Nat)) ∈ pm_call ∧ pm_rank 53 < pm_rank 43 := ⟨k4_58, by decide⟩
theorem k_43_61 : (pm_own 43, 61, 36, 2, (some 2 : Option Nat)) ∈ pm_call ∧ pm_rank 36 < pm_rank 43 := ⟨k4_61, by decide⟩
theorem k_43_66 : (pm_own 43, 66, 56, 2, (some 4 : Option Nat)) ∈ pm_call ∧ pm_rank 56 < pm_rank 43 := ⟨k4_66, by decide⟩
theorem m_43 : pm_mL 43 = 4 := rfl
theorem r_43 : pm_ret 43 = 2 := rfl
theorem i_43_0 : Jvm.ClassFile.decode (pm_bytes 43) 0 = .ok (.aload_n 0, 1) := by decide +kernel
theorem i_43_1 : Jvm.ClassFile.decode (pm_bytes 43) 1 = .ok (.invokevirtual 51, 3) := by decide +kernel
theorem i_43_4 : Jvm.ClassFile.decode (pm_bytes 43) 4 = .ok (.istore_n 1, 1) := by decide +kernel
theorem i_43_5 : Jvm.ClassFile.decode (pm_bytes 43) 5 = .ok (.iconst 0, 1) := by decide +kernel
theorem i_43_6 : Jvm.ClassFile.decode (pm_bytes 43) 6 = .ok (.istore_n 2, 1) := by decide +kernel
theorem i_43_7 : Jvm.ClassFile.decode (pm_bytes 43) 7 = .ok (.iload_n 2, 1) := by decide +kernel
theorem i_43_8 : Jvm.ClassFile.decode (pm_bytes 43) 8 = .ok (.sipush (4096), 3) := by decide +kernel
theorem i_43_11 : Jvm.ClassFile.decode (pm_bytes 43) 11 = .ok (.if_icmp .ge (52), 3) := by decide +kernel
theorem i_43_14 : Jvm.ClassFile.decode (pm_bytes 43) 14 = .ok (.iload_n 1, 1) := by decide +kernel
theorem i_43_15 : Jvm.ClassFile.decode (pm_bytes 43) 15 = .ok (.iconst (-1), 1) := by decide +kernel
theorem i_43_16 : Jvm.ClassFile.decode (pm_bytes 43) 16 = .ok (.if_icmp .ne (8), 3) := by decide +kernel
theorem i_43_19 : Jvm.ClassFile.decode (pm_bytes 43) 19 = .ok (.aload_n 0, 1) := by decide +kernel
theorem i_43_20 : Jvm.ClassFile.decode (pm_bytes 43) 20 = .ok (.invokevirtual 55, 3) := by decide +kernel
theorem i_43_23 : Jvm.ClassFile.decode (pm_bytes 43) 23 = .ok (.istore_n 1, 1) := by decide +kernel
theorem i_43_24 : Jvm.ClassFile.decode (pm_bytes 43) 24 = .ok (.iload_n 1, 1) := by decide +kernel
theorem i_43_25 : Jvm.ClassFile.decode (pm_bytes 43) 25 = .ok (.iconst (-1), 1) := by decide +kernel
theorem i_43_26 : Jvm.ClassFile.decode (pm_bytes 43) 26 = .ok (.if_icmp .ne (5), 3) := by decide +kernel
theorem i_43_29 : Jvm.ClassFile.decode (pm_bytes 43) 29 = .ok (.iconst 1, 1) := by decide +kernel
theorem i_43_30 : Jvm.ClassFile.decode (pm_bytes 43) 30 = .ok (.ireturn, 1) := by decide +kernel
theorem i_43_31 : Jvm.ClassFile.decode (pm_bytes 43) 31 = .ok (.aload_n 0, 1) := by decide +kernel
theorem i_43_32 : Jvm.ClassFile.decode (pm_bytes 43) 32 = .ok (.iload_n 1, 1) := by decide +kernel
theorem i_43_33 : Jvm.ClassFile.decode (pm_bytes 43) 33 = .ok (.invokevirtual 58, 3) := by decide +kernel
theorem i_43_36 : Jvm.ClassFile.decode (pm_bytes 43) 36 = .ok (.istore_n 3, 1) := by decide +kernel
theorem i_43_37 : Jvm.ClassFile.decode (pm_bytes 43) 37 = .ok (.aload_n 0, 1) := by decide +kernel
theorem i_43_38 : Jvm.ClassFile.decode (pm_bytes 43) 38 = .ok (.getfield 36, 3) := by decide +kernel
theorem i_43_41 : Jvm.ClassFile.decode (pm_bytes 43) 41 = .ok (.iload_n 3, 1) := by decide +kernel
theorem i_43_42 : Jvm.ClassFile.decode (pm_bytes 43) 42 = .ok (.invokevirtual 61, 3) := by decide +kernel
theorem i_43_45 : Jvm.ClassFile.decode (pm_bytes 43) 45 = .ok (.ifCond .ne (5), 3) := by decide +kernel
theorem i_43_48 : Jvm.ClassFile.decode (pm_bytes 43) 48 = .ok (.iconst 0, 1) := by decide +kernel
theorem i_43_49 : Jvm.ClassFile.decode (pm_bytes 43) 49 = .ok (.ireturn, 1) := by decide +kernel
theorem i_43_50 : Jvm.ClassFile.decode (pm_bytes 43) 50 = .ok (.aload_n 0, 1) := by decide +kernel
theorem i_43_51 : Jvm.ClassFile.decode (pm_bytes 43) 51 = .ok (.iload_n 3, 1) := by decide +kernel
theorem i_43_52 : Jvm.ClassFile.decode (pm_bytes 43) 52 = .ok (.invokevirtual 66, 3) := by decide +kernel
theorem i_43_55 : Jvm.ClassFile.decode (pm_bytes 43) 55 = .ok (.iconst (-1), 1) := by decide +kernel
theorem i_43_56 : Jvm.ClassFile.decode (pm_bytes 43) 56 = .ok (.istore_n 1, 1) := by decide +kernel
theorem i_43_57 : Jvm.ClassFile.decode (pm_bytes 43) 57 = .ok (.iinc 2 (1), 3) := by decide +kernel
theorem i_43_60 : Jvm.ClassFile.decode (pm_bytes 43) 60 = .ok (.goto (-53), 3) := by decide +kernel
theorem i_43_63 : Jvm.ClassFile.decode (pm_bytes 43) 63 = .ok (.iconst 0, 1) := by decide +kernel
theorem i_43_64 : Jvm.ClassFile.decode (pm_bytes 43) 64 = .ok (.ireturn, 1) := by decide +kernel
theorem f_44_12 : (pm_own 44, 12, 4, 3) ∈ pm_fld := f4_12
theorem f_44_18 : (pm_own 44, 18, 4, 4) ∈ pm_fld := f4_18
theorem f_44_32 : (pm_own 44, 32, 4, 0) ∈ pm_fld := f4_32
theorem f_44_73 : (pm_own 44, 73, 4, 9) ∈ pm_fld := f4_73
theorem f_44_77 : (pm_own 44, 77, 1, 6) ∈ pm_fld := f4_77
theorem k_44_70 : (pm_own 44, 70, 57, 1, (some 5 : Option Nat)) ∈ pm_call ∧ pm_rank 57 < pm_rank 44 := ⟨k4_70, by decide⟩
theorem m_44 : pm_mL 44 = 2 := rfl
theorem r_44 : pm_ret 44 = 0 := rfl
theorem i_44_0 : Jvm.ClassFile.decode (pm_bytes 44) 0 = .ok (.aload_n 0, 1) := by decide +kernel
theorem i_44_1 : Jvm.ClassFile.decode (pm_bytes 44) 1 = .ok (.getfield 12, 3) := by decide +kernel
theorem i_44_4 : Jvm.ClassFile.decode (pm_bytes 44) 4 = .ok (.invokevirtual 70, 3) := by decide +kernel
theorem i_44_7 : Jvm.ClassFile.decode (pm_bytes 44) 7 = .ok (.aload_n 0, 1) := by decide +kernel
theorem i_44_8 : Jvm.ClassFile.decode (pm_bytes 44) 8 = .ok (.iconst 0, 1) := by decide +kernel
theorem i_44_9 : Jvm.ClassFile.decode (pm_bytes 44) 9 = .ok (.putfield 73, 3) := by decide +kernel
theorem i_44_12 : Jvm.ClassFile.decode (pm_bytes 44) 12 = .ok (.iconst 0, 1) := by decide +kernel
theorem i_44_13 : Jvm.ClassFile.decode (pm_bytes 44) 13 = .ok (.istore_n 1, 1) := by decide +kernel
theorem i_44_14 : Jvm.ClassFile.decode (pm_bytes 44) 14 = .ok (.iload_n 1, 1) := by decide +kernel
theorem i_44_15 : Jvm.ClassFile.decode (pm_bytes 44) 15 = .ok (.iconst 2, 1) := by decide +kernel
theorem i_44_16 : Jvm.ClassFile.decode (pm_bytes 44) 16 = .ok (.aload_n 0, 1) := by decide +kernel
theorem i_44_17 : Jvm.ClassFile.decode (pm_bytes 44) 17 = .ok (.getfield 32, 3) := by decide +kernel
theorem i_44_20 : Jvm.ClassFile.decode (pm_bytes 44) 20 = .ok (.getfield 77, 3) := by decide +kernel
theorem i_44_23 : Jvm.ClassFile.decode (pm_bytes 44) 23 = .ok (.imul, 1) := by decide +kernel
theorem i_44_24 : Jvm.ClassFile.decode (pm_bytes 44) 24 = .ok (.if_icmp .ge (16), 3) := by decide +kernel
theorem i_44_27 : Jvm.ClassFile.decode (pm_bytes 44) 27 = .ok (.aload_n 0, 1) := by decide +kernel
theorem i_44_28 : Jvm.ClassFile.decode (pm_bytes 44) 28 = .ok (.getfield 18, 3) := by decide +kernel
theorem i_44_31 : Jvm.ClassFile.decode (pm_bytes 44) 31 = .ok (.iload_n 1, 1) := by decide +kernel
theorem i_44_32 : Jvm.ClassFile.decode (pm_bytes 44) 32 = .ok (.iconst (-1), 1) := by decide +kernel
theorem i_44_33 : Jvm.ClassFile.decode (pm_bytes 44) 33 = .ok (.iastore, 1) := by decide +kernel
theorem i_44_34 : Jvm.ClassFile.decode (pm_bytes 44) 34 = .ok (.iinc 1 (1), 3) := by decide +kernel
theorem i_44_37 : Jvm.ClassFile.decode (pm_bytes 44) 37 = .ok (.goto (-23), 3) := by decide +kernel
theorem i_44_40 : Jvm.ClassFile.decode (pm_bytes 44) 40 = .ok (.return_, 1) := by decide +kernel
theorem f_45_12 : (pm_own 45, 12, 4, 3) ∈ pm_fld := f4_12
theorem f_45_36 : (pm_own 45, 36, 4, 1) ∈ pm_fld := f4_36
theorem f_45_44 : (pm_own 45, 44, 5, 0) ∈ pm_fld := f4_44
theorem f_45_85 : (pm_own 45, 85, 2, 2) ∈ pm_fld := f4_85
theorem f_45_88 : (pm_own 45, 88, 2, 0) ∈ pm_fld := f4_88
theorem f_45_91 : (pm_own 45, 91, 2, 1) ∈ pm_fld := f4_91
theorem k_45_61 : (pm_own 45, 61, 36, 2, (some 2 : Option Nat)) ∈ pm_call ∧ pm_rank 36 < pm_rank 45 := ⟨k4_61, by decide⟩
theorem k_45_82 : (pm_own 45, 82, 44, 1, (some 4 : Option Nat)) ∈ pm_call ∧ pm_rank 44 < pm_rank 45 := ⟨k4_82, by decide⟩
theorem k_45_94 : (pm_own 45, 94, 52, 2, (some 4 : Option Nat)) ∈ pm_call ∧ pm_rank 52 < pm_rank 45 := ⟨k4_94, by decide⟩
theorem k_45_97 : (pm_own 45, 97, 15, 1, (none : Option Nat)) ∈ pm_call ∧ pm_rank 15 < pm_rank 45 := ⟨k4_97, by decide⟩
theorem k_45_100 : (pm_own 45, 100, 58, 2, (some 5 : Option Nat)) ∈ pm_call ∧ pm_rank 58 < pm_rank 45 := ⟨k4_100, by decide⟩
theorem k_45_104 : (pm_own 45, 104, 60, 3, (some 5 : Option Nat)) ∈ pm_call ∧ pm_rank 60 < pm_rank 45 := ⟨k4_104, by decide⟩
theorem m_45 : pm_mL 45 = 5 := rfl
theorem r_45 : pm_ret 45 = 1 := rfl
theorem i_45_0 : Jvm.ClassFile.decode (pm_bytes 45) 0 = .ok (.aload_n 0, 1) := by decide +kernel
theorem i_45_1 : Jvm.ClassFile.decode (pm_bytes 45) 1 = .ok (.invokevirtual 82, 3) := by decide +kernel
theorem i_45_4 : Jvm.ClassFile.decode (pm_bytes 45) 4 = .ok (.iconst (-1), 1) := by decide +kernel
theorem i_45_5 : Jvm.ClassFile.decode (pm_bytes 45) 5 = .ok (.istore_n 1, 1) := by decide +kernel
theorem i_45_6 : Jvm.ClassFile.decode (pm_bytes 45) 6 = .ok (.iconst 0, 1) := by decide +kernel
theorem i_45_7 : Jvm.ClassFile.decode (pm_bytes 45) 7 = .ok (.istore_n 2, 1) := by decide +kernel
theorem i_45_8 : Jvm.ClassFile.decode (pm_bytes 45) 8 = .ok (.iload_n 2, 1) := by decide +kernel
theorem i_45_9 : Jvm.ClassFile.decode (pm_bytes 45) 9 = .ok (.aload_n 0, 1) := by decide +kernel
theorem i_45_10 : Jvm.ClassFile.decode (pm_bytes 45) 10 = .ok (.getfield 36, 3) := by decide +kernel
theorem i_45_13 : Jvm.ClassFile.decode (pm_bytes 45) 13 = .ok (.getfield 85, 3) := by decide +kernel
theorem i_45_16 : Jvm.ClassFile.decode (pm_bytes 45) 16 = .ok (.if_icmp .ge (105), 3) := by decide +kernel
theorem i_45_19 : Jvm.ClassFile.decode (pm_bytes 45) 19 = .ok (.aload_n 0, 1) := by decide +kernel
theorem i_45_20 : Jvm.ClassFile.decode (pm_bytes 45) 20 = .ok (.getfield 36, 3) := by decide +kernel
theorem i_45_23 : Jvm.ClassFile.decode (pm_bytes 45) 23 = .ok (.iload_n 2, 1) := by decide +kernel
theorem i_45_24 : Jvm.ClassFile.decode (pm_bytes 45) 24 = .ok (.invokevirtual 61, 3) := by decide +kernel
theorem i_45_27 : Jvm.ClassFile.decode (pm_bytes 45) 27 = .ok (.istore_n 3, 1) := by decide +kernel
theorem i_45_28 : Jvm.ClassFile.decode (pm_bytes 45) 28 = .ok (.iload_n 3, 1) := by decide +kernel
theorem i_45_29 : Jvm.ClassFile.decode (pm_bytes 45) 29 = .ok (.ifCond .ne (7), 3) := by decide +kernel
theorem i_45_32 : Jvm.ClassFile.decode (pm_bytes 45) 32 = .ok (.iconst 0, 1) := by decide +kernel
theorem i_45_33 : Jvm.ClassFile.decode (pm_bytes 45) 33 = .ok (.goto (20), 3) := by decide +kernel
theorem i_45_36 : Jvm.ClassFile.decode (pm_bytes 45) 36 = .ok (.aload_n 0, 1) := by decide +kernel
theorem i_45_37 : Jvm.ClassFile.decode (pm_bytes 45) 37 = .ok (.getfield 36, 3) := by decide +kernel
theorem i_45_40 : Jvm.ClassFile.decode (pm_bytes 45) 40 = .ok (.getfield 88, 3) := by decide +kernel
theorem i_45_43 : Jvm.ClassFile.decode (pm_bytes 45) 43 = .ok (.aload_n 0, 1) := by decide +kernel
theorem i_45_44 : Jvm.ClassFile.decode (pm_bytes 45) 44 = .ok (.getfield 36, 3) := by decide +kernel
theorem i_45_47 : Jvm.ClassFile.decode (pm_bytes 45) 47 = .ok (.getfield 91, 3) := by decide +kernel
theorem i_45_50 : Jvm.ClassFile.decode (pm_bytes 45) 50 = .ok (.iload_n 2, 1) := by decide +kernel
theorem i_45_51 : Jvm.ClassFile.decode (pm_bytes 45) 51 = .ok (.iaload, 1) := by decide +kernel
theorem i_45_52 : Jvm.ClassFile.decode (pm_bytes 45) 52 = .ok (.iaload, 1) := by decide +kernel
theorem i_45_53 : Jvm.ClassFile.decode (pm_bytes 45) 53 = .ok (.istore 4, 2) := by decide +kernel
theorem i_45_55 : Jvm.ClassFile.decode (pm_bytes 45) 55 = .ok (.iload_n 3, 1) := by decide +kernel
theorem i_45_56 : Jvm.ClassFile.decode (pm_bytes 45) 56 = .ok (.iconst 1, 1) := by decide +kernel
theorem i_45_57 : Jvm.ClassFile.decode (pm_bytes 45) 57 = .ok (.if_icmp .le (11), 3) := by decide +kernel
theorem i_45_60 : Jvm.ClassFile.decode (pm_bytes 45) 60 = .ok (.aload_n 0, 1) := by decide +kernel
theorem i_45_61 : Jvm.ClassFile.decode (pm_bytes 45) 61 = .ok (.iload_n 2, 1) := by decide +kernel
theorem i_45_62 : Jvm.ClassFile.decode (pm_bytes 45) 62 = .ok (.invokevirtual 94, 3) := by decide +kernel
theorem i_45_65 : Jvm.ClassFile.decode (pm_bytes 45) 65 = .ok (.goto (50), 3) := by decide +kernel
theorem i_45_68 : Jvm.ClassFile.decode (pm_bytes 45) 68 = .ok (.iload_n 3, 1) := by decide +kernel
theorem i_45_69 : Jvm.ClassFile.decode (pm_bytes 45) 69 = .ok (.ifCond .eq (19), 3) := by decide +kernel
theorem i_45_72 : Jvm.ClassFile.decode (pm_bytes 45) 72 = .ok (.aload_n 0, 1) := by decide +kernel
theorem i_45_73 : Jvm.ClassFile.decode (pm_bytes 45) 73 = .ok (.getfield 12, 3) := by decide +kernel
theorem i_45_76 : Jvm.ClassFile.decode (pm_bytes 45) 76 = .ok (.getfield 44, 3) := by decide +kernel
theorem i_45_79 : Jvm.ClassFile.decode (pm_bytes 45) 79 = .ok (.iload 4, 2) := by decide +kernel
theorem i_45_81 : Jvm.ClassFile.decode (pm_bytes 45) 81 = .ok (.invokestatic 97, 3) := by decide +kernel
theorem i_45_84 : Jvm.ClassFile.decode (pm_bytes 45) 84 = .ok (.baload, 1) := by decide +kernel
theorem i_45_85 : Jvm.ClassFile.decode (pm_bytes 45) 85 = .ok (.ifCond .eq (8), 3) := by decide +kernel
theorem i_45_88 : Jvm.ClassFile.decode (pm_bytes 45) 88 = .ok (.iload_n 2, 1) := by decide +kernel
theorem i_45_89 : Jvm.ClassFile.decode (pm_bytes 45) 89 = .ok (.istore_n 1, 1) := by decide +kernel
theorem i_45_90 : Jvm.ClassFile.decode (pm_bytes 45) 90 = .ok (.goto (25), 3) := by decide +kernel
theorem i_45_93 : Jvm.ClassFile.decode (pm_bytes 45) 93 = .ok (.aload_n 0, 1) := by decide +kernel
theorem i_45_94 : Jvm.ClassFile.decode (pm_bytes 45) 94 = .ok (.getfield 12, 3) := by decide +kernel
theorem i_45_97 : Jvm.ClassFile.decode (pm_bytes 45) 97 = .ok (.iload 4, 2) := by decide +kernel
theorem i_45_99 : Jvm.ClassFile.decode (pm_bytes 45) 99 = .ok (.invokevirtual 100, 3) := by decide +kernel
theorem i_45_102 : Jvm.ClassFile.decode (pm_bytes 45) 102 = .ok (.ifCond .eq (13), 3) := by decide +kernel
theorem i_45_105 : Jvm.ClassFile.decode (pm_bytes 45) 105 = .ok (.aload_n 0, 1) := by decide +kernel
theorem i_45_106 : Jvm.ClassFile.decode (pm_bytes 45) 106 = .ok (.getfield 12, 3) := by decide +kernel
theorem i_45_109 : Jvm.ClassFile.decode (pm_bytes 45) 109 = .ok (.iload 4, 2) := by decide +kernel
theorem i_45_111 : Jvm.ClassFile.decode (pm_bytes 45) 111 = .ok (.iload_n 2, 1) := by decide +kernel
theorem i_45_112 : Jvm.ClassFile.decode (pm_bytes 45) 112 = .ok (.invokevirtual 104, 3) := by decide +kernel
theorem i_45_115 : Jvm.ClassFile.decode (pm_bytes 45) 115 = .ok (.iinc 2 (1), 3) := by decide +kernel
theorem i_45_118 : Jvm.ClassFile.decode (pm_bytes 45) 118 = .ok (.goto (-110), 3) := by decide +kernel
theorem i_45_121 : Jvm.ClassFile.decode (pm_bytes 45) 121 = .ok (.iload_n 1, 1) := by decide +kernel
theorem i_45_122 : Jvm.ClassFile.decode (pm_bytes 45) 122 = .ok (.ireturn, 1) := by decide +kernel
theorem f_46_12 : (pm_own 46, 12, 4, 3) ∈ pm_fld := f4_12
theorem f_46_32 : (pm_own 46, 32, 4, 0) ∈ pm_fld := f4_32
theorem f_46_111 : (pm_own 46, 111, 1, 7) ∈ pm_fld := f4_111
theorem f_46_114 : (pm_own 46, 114, 1, 5) ∈ pm_fld := f4_114
theorem k_46_47 : (pm_own 46, 47, 14, 1, (none : Option Nat)) ∈ pm_call ∧ pm_rank 14 < pm_rank 46 := ⟨k4_47, by decide⟩
theorem k_46_97 : (pm_own 46, 97, 15, 1, (none : Option Nat)) ∈ pm_call ∧ pm_rank 15 < pm_rank 46 := ⟨k4_97, by decide⟩
theorem k_46_100 : (pm_own 46, 100, 58, 2, (some 5 : Option Nat)) ∈ pm_call ∧ pm_rank 58 < pm_rank 46 := ⟨k4_100, by decide⟩
theorem k_46_108 : (pm_own 46, 108, 47, 1, (some 4 : Option Nat)) ∈ pm_call ∧ pm_rank 47 < pm_rank 46 := ⟨k4_108, by decide⟩
theorem k_46_117 : (pm_own 46, 117, 59, 2, (some 5 : Option Nat)) ∈ pm_call ∧ pm_rank 59 < pm_rank 46 := ⟨k4_117, by decide⟩
theorem m_46 : pm_mL 46 = 4 := rfl
theorem r_46 : pm_ret 46 = 1 := rfl
theorem i_46_0 : Jvm.ClassFile.decode (pm_bytes 46) 0 = .ok (.aload_n 0, 1) := by decide +kernel
theorem i_46_1 : Jvm.ClassFile.decode (pm_bytes 46) 1 = .ok (.invokevirtual 108, 3) := by decide +kernel
theorem i_46_4 : Jvm.ClassFile.decode (pm_bytes 46) 4 = .ok (.istore_n 1, 1) := by decide +kernel
theorem i_46_5 : Jvm.ClassFile.decode (pm_bytes 46) 5 = .ok (.iconst 0, 1) := by decide +kernel
theorem i_46_6 : Jvm.ClassFile.decode (pm_bytes 46) 6 = .ok (.istore_n 2, 1) := by decide +kernel
theorem i_46_7 : Jvm.ClassFile.decode (pm_bytes 46) 7 = .ok (.iload_n 2, 1) := by decide +kernel
theorem i_46_8 : Jvm.ClassFile.decode (pm_bytes 46) 8 = .ok (.aload_n 0, 1) := by decide +kernel
theorem i_46_9 : Jvm.ClassFile.decode (pm_bytes 46) 9 = .ok (.getfield 32, 3) := by decide +kernel
theorem i_46_12 : Jvm.ClassFile.decode (pm_bytes 46) 12 = .ok (.getfield 111, 3) := by decide +kernel
theorem i_46_15 : Jvm.ClassFile.decode (pm_bytes 46) 15 = .ok (.if_icmp .ge (54), 3) := by decide +kernel
theorem i_46_18 : Jvm.ClassFile.decode (pm_bytes 46) 18 = .ok (.iload_n 1, 1) := by decide +kernel
theorem i_46_19 : Jvm.ClassFile.decode (pm_bytes 46) 19 = .ok (.iconst (-1), 1) := by decide +kernel
theorem i_46_20 : Jvm.ClassFile.decode (pm_bytes 46) 20 = .ok (.if_icmp .ne (49), 3) := by decide +kernel
theorem i_46_23 : Jvm.ClassFile.decode (pm_bytes 46) 23 = .ok (.aload_n 0, 1) := by decide +kernel
theorem i_46_24 : Jvm.ClassFile.decode (pm_bytes 46) 24 = .ok (.getfield 32, 3) := by decide +kernel
theorem i_46_27 : Jvm.ClassFile.decode (pm_bytes 46) 27 = .ok (.getfield 114, 3) := by decide +kernel
theorem i_46_30 : Jvm.ClassFile.decode (pm_bytes 46) 30 = .ok (.iload_n 2, 1) := by decide +kernel
theorem i_46_31 : Jvm.ClassFile.decode (pm_bytes 46) 31 = .ok (.iaload, 1) := by decide +kernel
theorem i_46_32 : Jvm.ClassFile.decode (pm_bytes 46) 32 = .ok (.invokestatic 47, 3) := by decide +kernel
theorem i_46_35 : Jvm.ClassFile.decode (pm_bytes 46) 35 = .ok (.istore_n 3, 1) := by decide +kernel
theorem i_46_36 : Jvm.ClassFile.decode (pm_bytes 46) 36 = .ok (.aload_n 0, 1) := by decide +kernel
theorem i_46_37 : Jvm.ClassFile.decode (pm_bytes 46) 37 = .ok (.getfield 12, 3) := by decide +kernel
theorem i_46_40 : Jvm.ClassFile.decode (pm_bytes 46) 40 = .ok (.iload_n 3, 1) := by decide +kernel
theorem i_46_41 : Jvm.ClassFile.decode (pm_bytes 46) 41 = .ok (.invokevirtual 100, 3) := by decide +kernel
theorem i_46_44 : Jvm.ClassFile.decode (pm_bytes 46) 44 = .ok (.ifCond .eq (19), 3) := by decide +kernel
theorem i_46_47 : Jvm.ClassFile.decode (pm_bytes 46) 47 = .ok (.aload_n 0, 1) := by decide +kernel
theorem i_46_48 : Jvm.ClassFile.decode (pm_bytes 46) 48 = .ok (.getfield 12, 3) := by decide +kernel
theorem i_46_51 : Jvm.ClassFile.decode (pm_bytes 46) 51 = .ok (.iload_n 3, 1) := by decide +kernel
theorem i_46_52 : Jvm.ClassFile.decode (pm_bytes 46) 52 = .ok (.invokestatic 97, 3) := by decide +kernel
theorem i_46_55 : Jvm.ClassFile.decode (pm_bytes 46) 55 = .ok (.invokevirtual 117, 3) := by decide +kernel
theorem i_46_58 : Jvm.ClassFile.decode (pm_bytes 46) 58 = .ok (.aload_n 0, 1) := by decide +kernel
theorem i_46_59 : Jvm.ClassFile.decode (pm_bytes 46) 59 = .ok (.invokevirtual 108, 3) := by decide +kernel
theorem i_46_62 : Jvm.ClassFile.decode (pm_bytes 46) 62 = .ok (.istore_n 1, 1) := by decide +kernel
theorem i_46_63 : Jvm.ClassFile.decode (pm_bytes 46) 63 = .ok (.iinc 2 (1), 3) := by decide +kernel
theorem i_46_66 : Jvm.ClassFile.decode (pm_bytes 46) 66 = .ok (.goto (-59), 3) := by decide +kernel
theorem i_46_69 : Jvm.ClassFile.decode (pm_bytes 46) 69 = .ok (.iload_n 1, 1) := by decide +kernel
theorem i_46_70 : Jvm.ClassFile.decode (pm_bytes 46) 70 = .ok (.ireturn, 1) := by decide +kernel
theorem f_47_12 : (pm_own 47, 12, 4, 3) ∈ pm_fld := f4_12
theorem f_47_73 : (pm_own 47, 73, 4, 9) ∈ pm_fld := f4_73
theorem f_47_120 : (pm_own 47, 120, 5, 4) ∈ pm_fld := f4_120
theorem f_47_123 : (pm_own 47, 123, 5, 2) ∈ pm_fld := f4_123
theorem k_47_97 : (pm_own 47, 97, 15, 1, (none : Option Nat)) ∈ pm_call ∧ pm_rank 15 < pm_rank 47 := ⟨k4_97, by decide⟩
theorem k_47_126 : (pm_own 47, 126, 48, 2, (some 4 : Option Nat)) ∈ pm_call ∧ pm_rank 48 < pm_rank 47 := ⟨k4_126, by decide⟩
theorem m_47 : pm_mL 47 = 2 := rfl
theorem r_47 : pm_ret 47 = 1 := rfl
theorem i_47_0 : Jvm.ClassFile.decode (pm_bytes 47) 0 = .ok (.iconst (-1), 1) := by decide +kernel
theorem i_47_1 : Jvm.ClassFile.decode (pm_bytes 47) 1 = .ok (.istore_n 1, 1) := by decide +kernel
theorem i_47_2 : Jvm.ClassFile.decode (pm_bytes 47) 2 = .ok (.aload_n 0, 1) := by decide +kernel
theorem i_47_3 : Jvm.ClassFile.decode (pm_bytes 47) 3 = .ok (.getfield 73, 3) := by decide +kernel
theorem i_47_6 : Jvm.ClassFile.decode (pm_bytes 47) 6 = .ok (.aload_n 0, 1) := by decide +kernel
theorem i_47_7 : Jvm.ClassFile.decode (pm_bytes 47) 7 = .ok (.getfield 12, 3) := by decide +kernel
theorem i_47_10 : Jvm.ClassFile.decode (pm_bytes 47) 10 = .ok (.getfield 120, 3) := by decide +kernel
theorem i_47_13 : Jvm.ClassFile.decode (pm_bytes 47) 13 = .ok (.if_icmp .ge (51), 3) := by decide +kernel
theorem i_47_16 : Jvm.ClassFile.decode (pm_bytes 47) 16 = .ok (.aload_n 0, 1) := by decide +kernel
theorem i_47_17 : Jvm.ClassFile.decode (pm_bytes 47) 17 = .ok (.getfield 73, 3) := by decide +kernel
theorem i_47_20 : Jvm.ClassFile.decode (pm_bytes 47) 20 = .ok (.sipush (2000), 3) := by decide +kernel
theorem i_47_23 : Jvm.ClassFile.decode (pm_bytes 47) 23 = .ok (.if_icmp .ge (41), 3) := by decide +kernel
theorem i_47_26 : Jvm.ClassFile.decode (pm_bytes 47) 26 = .ok (.iload_n 1, 1) := by decide +kernel
theorem i_47_27 : Jvm.ClassFile.decode (pm_bytes 47) 27 = .ok (.iconst (-1), 1) := by decide +kernel
theorem i_47_28 : Jvm.ClassFile.decode (pm_bytes 47) 28 = .ok (.if_icmp .ne (36), 3) := by decide +kernel
theorem i_47_31 : Jvm.ClassFile.decode (pm_bytes 47) 31 = .ok (.aload_n 0, 1) := by decide +kernel
theorem i_47_32 : Jvm.ClassFile.decode (pm_bytes 47) 32 = .ok (.aload_n 0, 1) := by decide +kernel
theorem i_47_33 : Jvm.ClassFile.decode (pm_bytes 47) 33 = .ok (.getfield 12, 3) := by decide +kernel
theorem i_47_36 : Jvm.ClassFile.decode (pm_bytes 47) 36 = .ok (.getfield 123, 3) := by decide +kernel
theorem i_47_39 : Jvm.ClassFile.decode (pm_bytes 47) 39 = .ok (.aload_n 0, 1) := by decide +kernel
theorem i_47_40 : Jvm.ClassFile.decode (pm_bytes 47) 40 = .ok (.getfield 73, 3) := by decide +kernel
theorem i_47_43 : Jvm.ClassFile.decode (pm_bytes 47) 43 = .ok (.iaload, 1) := by decide +kernel
theorem i_47_44 : Jvm.ClassFile.decode (pm_bytes 47) 44 = .ok (.invokestatic 97, 3) := by decide +kernel
theorem i_47_47 : Jvm.ClassFile.decode (pm_bytes 47) 47 = .ok (.invokevirtual 126, 3) := by decide +kernel
theorem i_47_50 : Jvm.ClassFile.decode (pm_bytes 47) 50 = .ok (.istore_n 1, 1) := by decide +kernel
theorem i_47_51 : Jvm.ClassFile.decode (pm_bytes 47) 51 = .ok (.aload_n 0, 1) := by decide +kernel
theorem i_47_52 : Jvm.ClassFile.decode (pm_bytes 47) 52 = .ok (.dup, 1) := by decide +kernel
theorem i_47_53 : Jvm.ClassFile.decode (pm_bytes 47) 53 = .ok (.getfield 73, 3) := by decide +kernel
theorem i_47_56 : Jvm.ClassFile.decode (pm_bytes 47) 56 = .ok (.iconst 1, 1) := by decide +kernel
theorem i_47_57 : Jvm.ClassFile.decode (pm_bytes 47) 57 = .ok (.iadd, 1) := by decide +kernel
theorem i_47_58 : Jvm.ClassFile.decode (pm_bytes 47) 58 = .ok (.putfield 73, 3) := by decide +kernel
theorem i_47_61 : Jvm.ClassFile.decode (pm_bytes 47) 61 = .ok (.goto (-59), 3) := by decide +kernel
theorem i_47_64 : Jvm.ClassFile.decode (pm_bytes 47) 64 = .ok (.iload_n 1, 1) := by decide +kernel
theorem i_47_65 : Jvm.ClassFile.decode (pm_bytes 47) 65 = .ok (.ireturn, 1) := by decide +kernel
theorem f_48_12 : (pm_own 48, 12, 4, 3) ∈ pm_fld := f4_12
theorem f_48_18 : (pm_own 48, 18, 4, 4) ∈ pm_fld := f4_18
theorem f_48_22 : (pm_own 48, 22, 4, 5) ∈ pm_fld := f4_22
theorem f_48_36 : (pm_own 48, 36, 4, 1) ∈ pm_fld := f4_36
theorem f_48_44 : (pm_own 48, 44, 5, 0) ∈ pm_fld := f4_44
theorem f_48_88 : (pm_own 48, 88, 2, 0) ∈ pm_fld := f4_88
theorem f_48_91 : (pm_own 48, 91, 2, 1) ∈ pm_fld := f4_91
theorem k_48_97 : (pm_own 48, 97, 15, 1, (none : Option Nat)) ∈ pm_call ∧ pm_rank 15 < pm_rank 48 := ⟨k4_97, by decide⟩
theorem k_48_104 : (pm_own 48, 104, 60, 3, (some 5 : Option Nat)) ∈ pm_call ∧ pm_rank 60 < pm_rank 48 := ⟨k4_104, by decide⟩
theorem k_48_129 : (pm_own 48, 129, 49, 2, (some 4 : Option Nat)) ∈ pm_call ∧ pm_rank 49 < pm_rank 48 := ⟨k4_129, by decide⟩
theorem k_48_132 : (pm_own 48, 132, 50, 3, (some 4 : Option Nat)) ∈ pm_call ∧ pm_rank 50 < pm_rank 48 := ⟨k4_132, by decide⟩
theorem k_48_135 : (pm_own 48, 135, 51, 4, (some 4 : Option Nat)) ∈ pm_call ∧ pm_rank 51 < pm_rank 48 := ⟨k4_135, by decide⟩
theorem m_48 : pm_mL 48 = 9 := rfl
theorem r_48 : pm_ret 48 = 1 := rfl
theorem i_48_0 : Jvm.ClassFile.decode (pm_bytes 48) 0 = .ok (.iconst (-1), 1) := by decide +kernel
theorem i_48_1 : Jvm.ClassFile.decode (pm_bytes 48) 1 = .ok (.istore_n 2, 1) := by decide +kernel
theorem i_48_2 : Jvm.ClassFile.decode (pm_bytes 48) 2 = .ok (.aload_n 0, 1) := by decide +kernel
theorem i_48_3 : Jvm.ClassFile.decode (pm_bytes 48) 3 = .ok (.getfield 18, 3) := by decide +kernel
theorem i_48_6 : Jvm.ClassFile.decode (pm_bytes 48) 6 = .ok (.iload_n 1, 1) := by decide +kernel
theorem i_48_7 : Jvm.ClassFile.decode (pm_bytes 48) 7 = .ok (.iaload, 1) := by decide +kernel
theorem i_48_8 : Jvm.ClassFile.decode (pm_bytes 48) 8 = .ok (.istore_n 3, 1) := by decide +kernel
theorem i_48_9 : Jvm.ClassFile.decode (pm_bytes 48) 9 = .ok (.iconst 0, 1) := by decide +kernel
theorem i_48_10 : Jvm.ClassFile.decode (pm_bytes 48) 10 = .ok (.istore 4, 2) := by decide +kernel
theorem i_48_12 : Jvm.ClassFile.decode (pm_bytes 48) 12 = .ok (.iload 4, 2) := by decide +kernel
theorem i_48_14 : Jvm.ClassFile.decode (pm_bytes 48) 14 = .ok (.aload_n 0, 1) := by decide +kernel
theorem i_48_15 : Jvm.ClassFile.decode (pm_bytes 48) 15 = .ok (.getfield 22, 3) := by decide +kernel
theorem i_48_18 : Jvm.ClassFile.decode (pm_bytes 48) 18 = .ok (.arraylength, 1) := by decide +kernel
theorem i_48_19 : Jvm.ClassFile.decode (pm_bytes 48) 19 = .ok (.if_icmp .ge (151), 3) := by decide +kernel
theorem i_48_22 : Jvm.ClassFile.decode (pm_bytes 48) 22 = .ok (.iload_n 3, 1) := by decide +kernel
theorem i_48_23 : Jvm.ClassFile.decode (pm_bytes 48) 23 = .ok (.iconst (-1), 1) := by decide +kernel
theorem i_48_24 : Jvm.ClassFile.decode (pm_bytes 48) 24 = .ok (.if_icmp .eq (146), 3) := by decide +kernel
theorem i_48_27 : Jvm.ClassFile.decode (pm_bytes 48) 27 = .ok (.aload_n 0, 1) := by decide +kernel
theorem i_48_28 : Jvm.ClassFile.decode (pm_bytes 48) 28 = .ok (.getfield 22, 3) := by decide +kernel
theorem i_48_31 : Jvm.ClassFile.decode (pm_bytes 48) 31 = .ok (.iload_n 3, 1) := by decide +kernel
theorem i_48_32 : Jvm.ClassFile.decode (pm_bytes 48) 32 = .ok (.iaload, 1) := by decide +kernel
theorem i_48_33 : Jvm.ClassFile.decode (pm_bytes 48) 33 = .ok (.istore 5, 2) := by decide +kernel
theorem i_48_35 : Jvm.ClassFile.decode (pm_bytes 48) 35 = .ok (.iload_n 3, 1) := by decide +kernel
theorem i_48_36 : Jvm.ClassFile.decode (pm_bytes 48) 36 = .ok (.iconst 1, 1) := by decide +kernel
theorem i_48_37 : Jvm.ClassFile.decode (pm_bytes 48) 37 = .ok (.ishr, 1) := by decide +kernel
theorem i_48_38 : Jvm.ClassFile.decode (pm_bytes 48) 38 = .ok (.istore 6, 2) := by decide +kernel
theorem i_48_40 : Jvm.ClassFile.decode (pm_bytes 48) 40 = .ok (.aload_n 0, 1) := by decide +kernel
theorem i_48_41 : Jvm.ClassFile.decode (pm_bytes 48) 41 = .ok (.getfield 36, 3) := by decide +kernel
theorem i_48_44 : Jvm.ClassFile.decode (pm_bytes 48) 44 = .ok (.getfield 88, 3) := by decide +kernel
theorem i_48_47 : Jvm.ClassFile.decode (pm_bytes 48) 47 = .ok (.aload_n 0, 1) := by decide +kernel
theorem i_48_48 : Jvm.ClassFile.decode (pm_bytes 48) 48 = .ok (.getfield 36, 3) := by decide +kernel
theorem i_48_51 : Jvm.ClassFile.decode (pm_bytes 48) 51 = .ok (.getfield 91, 3) := by decide +kernel
theorem i_48_54 : Jvm.ClassFile.decode (pm_bytes 48) 54 = .ok (.iload 6, 2) := by decide +kernel
theorem i_48_56 : Jvm.ClassFile.decode (pm_bytes 48) 56 = .ok (.iaload, 1) := by decide +kernel
theorem i_48_57 : Jvm.ClassFile.decode (pm_bytes 48) 57 = .ok (.iload_n 3, 1) := by decide +kernel
theorem i_48_58 : Jvm.ClassFile.decode (pm_bytes 48) 58 = .ok (.invokestatic 97, 3) := by decide +kernel
theorem i_48_61 : Jvm.ClassFile.decode (pm_bytes 48) 61 = .ok (.iconst 1, 1) := by decide +kernel
theorem i_48_62 : Jvm.ClassFile.decode (pm_bytes 48) 62 = .ok (.iand, 1) := by decide +kernel
theorem i_48_63 : Jvm.ClassFile.decode (pm_bytes 48) 63 = .ok (.iadd, 1) := by decide +kernel
theorem i_48_64 : Jvm.ClassFile.decode (pm_bytes 48) 64 = .ok (.iaload, 1) := by decide +kernel
theorem i_48_65 : Jvm.ClassFile.decode (pm_bytes 48) 65 = .ok (.istore 7, 2) := by decide +kernel
theorem i_48_67 : Jvm.ClassFile.decode (pm_bytes 48) 67 = .ok (.aload_n 0, 1) := by decide +kernel
theorem i_48_68 : Jvm.ClassFile.decode (pm_bytes 48) 68 = .ok (.getfield 12, 3) := by decide +kernel
theorem i_48_71 : Jvm.ClassFile.decode (pm_bytes 48) 71 = .ok (.getfield 44, 3) := by decide +kernel
theorem i_48_74 : Jvm.ClassFile.decode (pm_bytes 48) 74 = .ok (.iload 7, 2) := by decide +kernel
theorem i_48_76 : Jvm.ClassFile.decode (pm_bytes 48) 76 = .ok (.baload, 1) := by decide +kernel
theorem i_48_77 : Jvm.ClassFile.decode (pm_bytes 48) 77 = .ok (.ifCond .eq (7), 3) := by decide +kernel
theorem i_48_80 : Jvm.ClassFile.decode (pm_bytes 48) 80 = .ok (.iconst (-1), 1) := by decide +kernel
theorem i_48_81 : Jvm.ClassFile.decode (pm_bytes 48) 81 = .ok (.goto (9), 3) := by decide +kernel
theorem i_48_84 : Jvm.ClassFile.decode (pm_bytes 48) 84 = .ok (.aload_n 0, 1) := by decide +kernel
theorem i_48_85 : Jvm.ClassFile.decode (pm_bytes 48) 85 = .ok (.iload 6, 2) := by decide +kernel
theorem i_48_87 : Jvm.ClassFile.decode (pm_bytes 48) 87 = .ok (.invokevirtual 129, 3) := by decide +kernel
theorem i_48_90 : Jvm.ClassFile.decode (pm_bytes 48) 90 = .ok (.istore 8, 2) := by decide +kernel
theorem i_48_92 : Jvm.ClassFile.decode (pm_bytes 48) 92 = .ok (.iload 8, 2) := by decide +kernel
theorem i_48_94 : Jvm.ClassFile.decode (pm_bytes 48) 94 = .ok (.iconst (-1), 1) := by decide +kernel
theorem i_48_95 : Jvm.ClassFile.decode (pm_bytes 48) 95 = .ok (.if_icmp .eq (21), 3) := by decide +kernel
theorem i_48_98 : Jvm.ClassFile.decode (pm_bytes 48) 98 = .ok (.aload_n 0, 1) := by decide +kernel
theorem i_48_99 : Jvm.ClassFile.decode (pm_bytes 48) 99 = .ok (.iload_n 3, 1) := by decide +kernel
theorem i_48_100 : Jvm.ClassFile.decode (pm_bytes 48) 100 = .ok (.iload 8, 2) := by decide +kernel
theorem i_48_102 : Jvm.ClassFile.decode (pm_bytes 48) 102 = .ok (.invokevirtual 132, 3) := by decide +kernel
theorem i_48_105 : Jvm.ClassFile.decode (pm_bytes 48) 105 = .ok (.aload_n 0, 1) := by decide +kernel
theorem i_48_106 : Jvm.ClassFile.decode (pm_bytes 48) 106 = .ok (.iload_n 1, 1) := by decide +kernel
theorem i_48_107 : Jvm.ClassFile.decode (pm_bytes 48) 107 = .ok (.iload_n 2, 1) := by decide +kernel
theorem i_48_108 : Jvm.ClassFile.decode (pm_bytes 48) 108 = .ok (.iload 5, 2) := by decide +kernel
theorem i_48_110 : Jvm.ClassFile.decode (pm_bytes 48) 110 = .ok (.invokevirtual 135, 3) := by decide +kernel
theorem i_48_113 : Jvm.ClassFile.decode (pm_bytes 48) 113 = .ok (.goto (48), 3) := by decide +kernel
theorem i_48_116 : Jvm.ClassFile.decode (pm_bytes 48) 116 = .ok (.iload_n 3, 1) := by decide +kernel
theorem i_48_117 : Jvm.ClassFile.decode (pm_bytes 48) 117 = .ok (.istore_n 2, 1) := by decide +kernel
theorem i_48_118 : Jvm.ClassFile.decode (pm_bytes 48) 118 = .ok (.aload_n 0, 1) := by decide +kernel
theorem i_48_119 : Jvm.ClassFile.decode (pm_bytes 48) 119 = .ok (.getfield 12, 3) := by decide +kernel
theorem i_48_122 : Jvm.ClassFile.decode (pm_bytes 48) 122 = .ok (.getfield 44, 3) := by decide +kernel
theorem i_48_125 : Jvm.ClassFile.decode (pm_bytes 48) 125 = .ok (.iload 7, 2) := by decide +kernel
theorem i_48_127 : Jvm.ClassFile.decode (pm_bytes 48) 127 = .ok (.invokestatic 97, 3) := by decide +kernel
theorem i_48_130 : Jvm.ClassFile.decode (pm_bytes 48) 130 = .ok (.baload, 1) := by decide +kernel
theorem i_48_131 : Jvm.ClassFile.decode (pm_bytes 48) 131 = .ok (.ifCond .eq (6), 3) := by decide +kernel
theorem i_48_134 : Jvm.ClassFile.decode (pm_bytes 48) 134 = .ok (.iload 6, 2) := by decide +kernel
theorem i_48_136 : Jvm.ClassFile.decode (pm_bytes 48) 136 = .ok (.ireturn, 1) := by decide +kernel
theorem i_48_137 : Jvm.ClassFile.decode (pm_bytes 48) 137 = .ok (.aload_n 0, 1) := by decide +kernel
theorem i_48_138 : Jvm.ClassFile.decode (pm_bytes 48) 138 = .ok (.getfield 12, 3) := by decide +kernel
theorem i_48_141 : Jvm.ClassFile.decode (pm_bytes 48) 141 = .ok (.getfield 44, 3) := by decide +kernel
theorem i_48_144 : Jvm.ClassFile.decode (pm_bytes 48) 144 = .ok (.iload 7, 2) := by decide +kernel
theorem i_48_146 : Jvm.ClassFile.decode (pm_bytes 48) 146 = .ok (.baload, 1) := by decide +kernel
theorem i_48_147 : Jvm.ClassFile.decode (pm_bytes 48) 147 = .ok (.ifCond .ne (14), 3) := by decide +kernel
theorem i_48_150 : Jvm.ClassFile.decode (pm_bytes 48) 150 = .ok (.aload_n 0, 1) := by decide +kernel
theorem i_48_151 : Jvm.ClassFile.decode (pm_bytes 48) 151 = .ok (.getfield 12, 3) := by decide +kernel
theorem i_48_154 : Jvm.ClassFile.decode (pm_bytes 48) 154 = .ok (.iload 7, 2) := by decide +kernel
theorem i_48_156 : Jvm.ClassFile.decode (pm_bytes 48) 156 = .ok (.iload 6, 2) := by decide +kernel
theorem i_48_158 : Jvm.ClassFile.decode (pm_bytes 48) 158 = .ok (.invokevirtual 104, 3) := by decide +kernel
theorem i_48_161 : Jvm.ClassFile.decode (pm_bytes 48) 161 = .ok (.iload 5, 2) := by decide +kernel
theorem i_48_163 : Jvm.ClassFile.decode (pm_bytes 48) 163 = .ok (.istore_n 3, 1) := by decide +kernel
theorem i_48_164 : Jvm.ClassFile.decode (pm_bytes 48) 164 = .ok (.iinc 4 (1), 3) := by decide +kernel
theorem i_48_167 : Jvm.ClassFile.decode (pm_bytes 48) 167 = .ok (.goto (-155), 3) := by decide +kernel
theorem i_48_170 : Jvm.ClassFile.decode (pm_bytes 48) 170 = .ok (.iconst (-1), 1) := by decide +kernel
theorem i_48_171 : Jvm.ClassFile.decode (pm_bytes 48) 171 = .ok (.ireturn, 1) := by decide +kernel
theorem f_49_12 : (pm_own 49, 12, 4, 3) ∈ pm_fld := f4_12
theorem f_49_36 : (pm_own 49, 36, 4, 1) ∈ pm_fld := f4_36
theorem f_49_44 : (pm_own 49, 44, 5, 0) ∈ pm_fld := f4_44
theorem f_49_88 : (pm_own 49, 88, 2, 0) ∈ pm_fld := f4_88
theorem f_49_91 : (pm_own 49, 91, 2, 1) ∈ pm_fld := f4_91
theorem k_49_97 : (pm_own 49, 97, 15, 1, (none : Option Nat)) ∈ pm_call ∧ pm_rank 15 < pm_rank 49 := ⟨k4_97, by decide⟩
theorem m_49 : pm_mL 49 = 3 := rfl
theorem r_49 : pm_ret 49 = 1 := rfl
theorem i_49_0 : Jvm.ClassFile.decode (pm_bytes 49) 0 = .ok (.aload_n 0, 1) := by decide +kernel
theorem i_49_1 : Jvm.ClassFile.decode (pm_bytes 49) 1 = .ok (.getfield 36, 3) := by decide +kernel
theorem i_49_4 : Jvm.ClassFile.decode (pm_bytes 49) 4 = .ok (.getfield 91, 3) := by decide +kernel
theorem i_49_7 : Jvm.ClassFile.decode (pm_bytes 49) 7 = .ok (.iload_n 1, 1) := by decide +kernel
theorem i_49_8 : Jvm.ClassFile.decode (pm_bytes 49) 8 = .ok (.iaload, 1) := by decide +kernel
theorem i_49_9 : Jvm.ClassFile.decode (pm_bytes 49) 9 = .ok (.iconst 2, 1) := by decide +kernel
theorem i_49_10 : Jvm.ClassFile.decode (pm_bytes 49) 10 = .ok (.iadd, 1) := by decide +kernel
theorem i_49_11 : Jvm.ClassFile.decode (pm_bytes 49) 11 = .ok (.istore_n 2, 1) := by decide +kernel
theorem i_49_12 : Jvm.ClassFile.decode (pm_bytes 49) 12 = .ok (.iload_n 2, 1) := by decide +kernel
theorem i_49_13 : Jvm.ClassFile.decode (pm_bytes 49) 13 = .ok (.aload_n 0, 1) := by decide +kernel
theorem i_49_14 : Jvm.ClassFile.decode (pm_bytes 49) 14 = .ok (.getfield 36, 3) := by decide +kernel
theorem i_49_17 : Jvm.ClassFile.decode (pm_bytes 49) 17 = .ok (.getfield 91, 3) := by decide +kernel
theorem i_49_20 : Jvm.ClassFile.decode (pm_bytes 49) 20 = .ok (.iload_n 1, 1) := by decide +kernel
theorem i_49_21 : Jvm.ClassFile.decode (pm_bytes 49) 21 = .ok (.iconst 1, 1) := by decide +kernel
theorem i_49_22 : Jvm.ClassFile.decode (pm_bytes 49) 22 = .ok (.iadd, 1) := by decide +kernel
theorem i_49_23 : Jvm.ClassFile.decode (pm_bytes 49) 23 = .ok (.iaload, 1) := by decide +kernel
theorem i_49_24 : Jvm.ClassFile.decode (pm_bytes 49) 24 = .ok (.if_icmp .ge (34), 3) := by decide +kernel
theorem i_49_27 : Jvm.ClassFile.decode (pm_bytes 49) 27 = .ok (.aload_n 0, 1) := by decide +kernel
theorem i_49_28 : Jvm.ClassFile.decode (pm_bytes 49) 28 = .ok (.getfield 12, 3) := by decide +kernel
theorem i_49_31 : Jvm.ClassFile.decode (pm_bytes 49) 31 = .ok (.getfield 44, 3) := by decide +kernel
theorem i_49_34 : Jvm.ClassFile.decode (pm_bytes 49) 34 = .ok (.aload_n 0, 1) := by decide +kernel
theorem i_49_35 : Jvm.ClassFile.decode (pm_bytes 49) 35 = .ok (.getfield 36, 3) := by decide +kernel
theorem i_49_38 : Jvm.ClassFile.decode (pm_bytes 49) 38 = .ok (.getfield 88, 3) := by decide +kernel
theorem i_49_41 : Jvm.ClassFile.decode (pm_bytes 49) 41 = .ok (.iload_n 2, 1) := by decide +kernel
theorem i_49_42 : Jvm.ClassFile.decode (pm_bytes 49) 42 = .ok (.iaload, 1) := by decide +kernel
theorem i_49_43 : Jvm.ClassFile.decode (pm_bytes 49) 43 = .ok (.invokestatic 97, 3) := by decide +kernel
theorem i_49_46 : Jvm.ClassFile.decode (pm_bytes 49) 46 = .ok (.baload, 1) := by decide +kernel
theorem i_49_47 : Jvm.ClassFile.decode (pm_bytes 49) 47 = .ok (.ifCond .ne (5), 3) := by decide +kernel
theorem i_49_50 : Jvm.ClassFile.decode (pm_bytes 49) 50 = .ok (.iload_n 2, 1) := by decide +kernel
theorem i_49_51 : Jvm.ClassFile.decode (pm_bytes 49) 51 = .ok (.ireturn, 1) := by decide +kernel
theorem i_49_52 : Jvm.ClassFile.decode (pm_bytes 49) 52 = .ok (.iinc 2 (1), 3) := by decide +kernel
theorem i_49_55 : Jvm.ClassFile.decode (pm_bytes 49) 55 = .ok (.goto (-43), 3) := by decide +kernel
theorem i_49_58 : Jvm.ClassFile.decode (pm_bytes 49) 58 = .ok (.iconst (-1), 1) := by decide +kernel
theorem i_49_59 : Jvm.ClassFile.decode (pm_bytes 49) 59 = .ok (.ireturn, 1) := by decide +kernel
