/-! fetch rows of the methods 50 to 62, laid by wip/whole/gen/fetch.py -/
theorem f_50_18 : (pm_own 50, 18, 4, 4) ∈ pm_fld := f4_18
theorem f_50_22 : (pm_own 50, 22, 4, 5) ∈ pm_fld := f4_22
theorem f_50_36 : (pm_own 50, 36, 4, 1) ∈ pm_fld := f4_36
theorem f_50_88 : (pm_own 50, 88, 2, 0) ∈ pm_fld := f4_88
theorem f_50_91 : (pm_own 50, 91, 2, 1) ∈ pm_fld := f4_91
theorem m_50 : pm_mL 50 = 5 := rfl
theorem r_50 : pm_ret 50 = 0 := rfl
theorem i_50_0 : Jvm.ClassFile.decode (pm_bytes 50) 0 = .ok (.aload_n 0, 1) := by decide +kernel
theorem i_50_1 : Jvm.ClassFile.decode (pm_bytes 50) 1 = .ok (.getfield 36, 3) := by decide +kernel
theorem i_50_4 : Jvm.ClassFile.decode (pm_bytes 50) 4 = .ok (.getfield 91, 3) := by decide +kernel
theorem i_50_7 : Jvm.ClassFile.decode (pm_bytes 50) 7 = .ok (.iload_n 1, 1) := by decide +kernel
theorem i_50_8 : Jvm.ClassFile.decode (pm_bytes 50) 8 = .ok (.iconst 1, 1) := by decide +kernel
theorem i_50_9 : Jvm.ClassFile.decode (pm_bytes 50) 9 = .ok (.ishr, 1) := by decide +kernel
theorem i_50_10 : Jvm.ClassFile.decode (pm_bytes 50) 10 = .ok (.iaload, 1) := by decide +kernel
theorem i_50_11 : Jvm.ClassFile.decode (pm_bytes 50) 11 = .ok (.iload_n 1, 1) := by decide +kernel
theorem i_50_12 : Jvm.ClassFile.decode (pm_bytes 50) 12 = .ok (.iconst 1, 1) := by decide +kernel
theorem i_50_13 : Jvm.ClassFile.decode (pm_bytes 50) 13 = .ok (.iand, 1) := by decide +kernel
theorem i_50_14 : Jvm.ClassFile.decode (pm_bytes 50) 14 = .ok (.iadd, 1) := by decide +kernel
theorem i_50_15 : Jvm.ClassFile.decode (pm_bytes 50) 15 = .ok (.istore_n 3, 1) := by decide +kernel
theorem i_50_16 : Jvm.ClassFile.decode (pm_bytes 50) 16 = .ok (.aload_n 0, 1) := by decide +kernel
theorem i_50_17 : Jvm.ClassFile.decode (pm_bytes 50) 17 = .ok (.getfield 36, 3) := by decide +kernel
theorem i_50_20 : Jvm.ClassFile.decode (pm_bytes 50) 20 = .ok (.getfield 88, 3) := by decide +kernel
theorem i_50_23 : Jvm.ClassFile.decode (pm_bytes 50) 23 = .ok (.iload_n 2, 1) := by decide +kernel
theorem i_50_24 : Jvm.ClassFile.decode (pm_bytes 50) 24 = .ok (.iaload, 1) := by decide +kernel
theorem i_50_25 : Jvm.ClassFile.decode (pm_bytes 50) 25 = .ok (.istore 4, 2) := by decide +kernel
theorem i_50_27 : Jvm.ClassFile.decode (pm_bytes 50) 27 = .ok (.aload_n 0, 1) := by decide +kernel
theorem i_50_28 : Jvm.ClassFile.decode (pm_bytes 50) 28 = .ok (.getfield 36, 3) := by decide +kernel
theorem i_50_31 : Jvm.ClassFile.decode (pm_bytes 50) 31 = .ok (.getfield 88, 3) := by decide +kernel
theorem i_50_34 : Jvm.ClassFile.decode (pm_bytes 50) 34 = .ok (.iload_n 2, 1) := by decide +kernel
theorem i_50_35 : Jvm.ClassFile.decode (pm_bytes 50) 35 = .ok (.aload_n 0, 1) := by decide +kernel
theorem i_50_36 : Jvm.ClassFile.decode (pm_bytes 50) 36 = .ok (.getfield 36, 3) := by decide +kernel
theorem i_50_39 : Jvm.ClassFile.decode (pm_bytes 50) 39 = .ok (.getfield 88, 3) := by decide +kernel
theorem i_50_42 : Jvm.ClassFile.decode (pm_bytes 50) 42 = .ok (.iload_n 3, 1) := by decide +kernel
theorem i_50_43 : Jvm.ClassFile.decode (pm_bytes 50) 43 = .ok (.iaload, 1) := by decide +kernel
theorem i_50_44 : Jvm.ClassFile.decode (pm_bytes 50) 44 = .ok (.iastore, 1) := by decide +kernel
theorem i_50_45 : Jvm.ClassFile.decode (pm_bytes 50) 45 = .ok (.aload_n 0, 1) := by decide +kernel
theorem i_50_46 : Jvm.ClassFile.decode (pm_bytes 50) 46 = .ok (.getfield 36, 3) := by decide +kernel
theorem i_50_49 : Jvm.ClassFile.decode (pm_bytes 50) 49 = .ok (.getfield 88, 3) := by decide +kernel
theorem i_50_52 : Jvm.ClassFile.decode (pm_bytes 50) 52 = .ok (.iload_n 3, 1) := by decide +kernel
theorem i_50_53 : Jvm.ClassFile.decode (pm_bytes 50) 53 = .ok (.iload 4, 2) := by decide +kernel
theorem i_50_55 : Jvm.ClassFile.decode (pm_bytes 50) 55 = .ok (.iastore, 1) := by decide +kernel
theorem i_50_56 : Jvm.ClassFile.decode (pm_bytes 50) 56 = .ok (.aload_n 0, 1) := by decide +kernel
theorem i_50_57 : Jvm.ClassFile.decode (pm_bytes 50) 57 = .ok (.getfield 22, 3) := by decide +kernel
theorem i_50_60 : Jvm.ClassFile.decode (pm_bytes 50) 60 = .ok (.iload_n 1, 1) := by decide +kernel
theorem i_50_61 : Jvm.ClassFile.decode (pm_bytes 50) 61 = .ok (.aload_n 0, 1) := by decide +kernel
theorem i_50_62 : Jvm.ClassFile.decode (pm_bytes 50) 62 = .ok (.getfield 18, 3) := by decide +kernel
theorem i_50_65 : Jvm.ClassFile.decode (pm_bytes 50) 65 = .ok (.iload 4, 2) := by decide +kernel
theorem i_50_67 : Jvm.ClassFile.decode (pm_bytes 50) 67 = .ok (.iaload, 1) := by decide +kernel
theorem i_50_68 : Jvm.ClassFile.decode (pm_bytes 50) 68 = .ok (.iastore, 1) := by decide +kernel
theorem i_50_69 : Jvm.ClassFile.decode (pm_bytes 50) 69 = .ok (.aload_n 0, 1) := by decide +kernel
theorem i_50_70 : Jvm.ClassFile.decode (pm_bytes 50) 70 = .ok (.getfield 18, 3) := by decide +kernel
theorem i_50_73 : Jvm.ClassFile.decode (pm_bytes 50) 73 = .ok (.iload 4, 2) := by decide +kernel
theorem i_50_75 : Jvm.ClassFile.decode (pm_bytes 50) 75 = .ok (.iload_n 1, 1) := by decide +kernel
theorem i_50_76 : Jvm.ClassFile.decode (pm_bytes 50) 76 = .ok (.iastore, 1) := by decide +kernel
theorem i_50_77 : Jvm.ClassFile.decode (pm_bytes 50) 77 = .ok (.return_, 1) := by decide +kernel
theorem f_51_18 : (pm_own 51, 18, 4, 4) ∈ pm_fld := f4_18
theorem f_51_22 : (pm_own 51, 22, 4, 5) ∈ pm_fld := f4_22
theorem m_51 : pm_mL 51 = 4 := rfl
theorem r_51 : pm_ret 51 = 0 := rfl
theorem i_51_0 : Jvm.ClassFile.decode (pm_bytes 51) 0 = .ok (.iload_n 2, 1) := by decide +kernel
theorem i_51_1 : Jvm.ClassFile.decode (pm_bytes 51) 1 = .ok (.iconst (-1), 1) := by decide +kernel
theorem i_51_2 : Jvm.ClassFile.decode (pm_bytes 51) 2 = .ok (.if_icmp .ne (13), 3) := by decide +kernel
theorem i_51_5 : Jvm.ClassFile.decode (pm_bytes 51) 5 = .ok (.aload_n 0, 1) := by decide +kernel
theorem i_51_6 : Jvm.ClassFile.decode (pm_bytes 51) 6 = .ok (.getfield 18, 3) := by decide +kernel
theorem i_51_9 : Jvm.ClassFile.decode (pm_bytes 51) 9 = .ok (.iload_n 1, 1) := by decide +kernel
theorem i_51_10 : Jvm.ClassFile.decode (pm_bytes 51) 10 = .ok (.iload_n 3, 1) := by decide +kernel
theorem i_51_11 : Jvm.ClassFile.decode (pm_bytes 51) 11 = .ok (.iastore, 1) := by decide +kernel
theorem i_51_12 : Jvm.ClassFile.decode (pm_bytes 51) 12 = .ok (.goto (10), 3) := by decide +kernel
theorem i_51_15 : Jvm.ClassFile.decode (pm_bytes 51) 15 = .ok (.aload_n 0, 1) := by decide +kernel
theorem i_51_16 : Jvm.ClassFile.decode (pm_bytes 51) 16 = .ok (.getfield 22, 3) := by decide +kernel
theorem i_51_19 : Jvm.ClassFile.decode (pm_bytes 51) 19 = .ok (.iload_n 2, 1) := by decide +kernel
theorem i_51_20 : Jvm.ClassFile.decode (pm_bytes 51) 20 = .ok (.iload_n 3, 1) := by decide +kernel
theorem i_51_21 : Jvm.ClassFile.decode (pm_bytes 51) 21 = .ok (.iastore, 1) := by decide +kernel
theorem i_51_22 : Jvm.ClassFile.decode (pm_bytes 51) 22 = .ok (.return_, 1) := by decide +kernel
theorem f_52_18 : (pm_own 52, 18, 4, 4) ∈ pm_fld := f4_18
theorem f_52_22 : (pm_own 52, 22, 4, 5) ∈ pm_fld := f4_22
theorem f_52_36 : (pm_own 52, 36, 4, 1) ∈ pm_fld := f4_36
theorem f_52_88 : (pm_own 52, 88, 2, 0) ∈ pm_fld := f4_88
theorem f_52_91 : (pm_own 52, 91, 2, 1) ∈ pm_fld := f4_91
theorem m_52 : pm_mL 52 = 5 := rfl
theorem r_52 : pm_ret 52 = 0 := rfl
theorem i_52_0 : Jvm.ClassFile.decode (pm_bytes 52) 0 = .ok (.iconst 0, 1) := by decide +kernel
theorem i_52_1 : Jvm.ClassFile.decode (pm_bytes 52) 1 = .ok (.istore_n 2, 1) := by decide +kernel
theorem i_52_2 : Jvm.ClassFile.decode (pm_bytes 52) 2 = .ok (.iload_n 2, 1) := by decide +kernel
theorem i_52_3 : Jvm.ClassFile.decode (pm_bytes 52) 3 = .ok (.iconst 2, 1) := by decide +kernel
theorem i_52_4 : Jvm.ClassFile.decode (pm_bytes 52) 4 = .ok (.if_icmp .ge (57), 3) := by decide +kernel
theorem i_52_7 : Jvm.ClassFile.decode (pm_bytes 52) 7 = .ok (.aload_n 0, 1) := by decide +kernel
theorem i_52_8 : Jvm.ClassFile.decode (pm_bytes 52) 8 = .ok (.getfield 36, 3) := by decide +kernel
theorem i_52_11 : Jvm.ClassFile.decode (pm_bytes 52) 11 = .ok (.getfield 88, 3) := by decide +kernel
theorem i_52_14 : Jvm.ClassFile.decode (pm_bytes 52) 14 = .ok (.aload_n 0, 1) := by decide +kernel
theorem i_52_15 : Jvm.ClassFile.decode (pm_bytes 52) 15 = .ok (.getfield 36, 3) := by decide +kernel
theorem i_52_18 : Jvm.ClassFile.decode (pm_bytes 52) 18 = .ok (.getfield 91, 3) := by decide +kernel
theorem i_52_21 : Jvm.ClassFile.decode (pm_bytes 52) 21 = .ok (.iload_n 1, 1) := by decide +kernel
theorem i_52_22 : Jvm.ClassFile.decode (pm_bytes 52) 22 = .ok (.iaload, 1) := by decide +kernel
theorem i_52_23 : Jvm.ClassFile.decode (pm_bytes 52) 23 = .ok (.iload_n 2, 1) := by decide +kernel
theorem i_52_24 : Jvm.ClassFile.decode (pm_bytes 52) 24 = .ok (.iadd, 1) := by decide +kernel
theorem i_52_25 : Jvm.ClassFile.decode (pm_bytes 52) 25 = .ok (.iaload, 1) := by decide +kernel
theorem i_52_26 : Jvm.ClassFile.decode (pm_bytes 52) 26 = .ok (.istore_n 3, 1) := by decide +kernel
theorem i_52_27 : Jvm.ClassFile.decode (pm_bytes 52) 27 = .ok (.iconst 2, 1) := by decide +kernel
theorem i_52_28 : Jvm.ClassFile.decode (pm_bytes 52) 28 = .ok (.iload_n 1, 1) := by decide +kernel
theorem i_52_29 : Jvm.ClassFile.decode (pm_bytes 52) 29 = .ok (.imul, 1) := by decide +kernel
theorem i_52_30 : Jvm.ClassFile.decode (pm_bytes 52) 30 = .ok (.iload_n 2, 1) := by decide +kernel
theorem i_52_31 : Jvm.ClassFile.decode (pm_bytes 52) 31 = .ok (.iadd, 1) := by decide +kernel
theorem i_52_32 : Jvm.ClassFile.decode (pm_bytes 52) 32 = .ok (.istore 4, 2) := by decide +kernel
theorem i_52_34 : Jvm.ClassFile.decode (pm_bytes 52) 34 = .ok (.aload_n 0, 1) := by decide +kernel
theorem i_52_35 : Jvm.ClassFile.decode (pm_bytes 52) 35 = .ok (.getfield 22, 3) := by decide +kernel
theorem i_52_38 : Jvm.ClassFile.decode (pm_bytes 52) 38 = .ok (.iload 4, 2) := by decide +kernel
theorem i_52_40 : Jvm.ClassFile.decode (pm_bytes 52) 40 = .ok (.aload_n 0, 1) := by decide +kernel
theorem i_52_41 : Jvm.ClassFile.decode (pm_bytes 52) 41 = .ok (.getfield 18, 3) := by decide +kernel
theorem i_52_44 : Jvm.ClassFile.decode (pm_bytes 52) 44 = .ok (.iload_n 3, 1) := by decide +kernel
theorem i_52_45 : Jvm.ClassFile.decode (pm_bytes 52) 45 = .ok (.iaload, 1) := by decide +kernel
theorem i_52_46 : Jvm.ClassFile.decode (pm_bytes 52) 46 = .ok (.iastore, 1) := by decide +kernel
theorem i_52_47 : Jvm.ClassFile.decode (pm_bytes 52) 47 = .ok (.aload_n 0, 1) := by decide +kernel
theorem i_52_48 : Jvm.ClassFile.decode (pm_bytes 52) 48 = .ok (.getfield 18, 3) := by decide +kernel
theorem i_52_51 : Jvm.ClassFile.decode (pm_bytes 52) 51 = .ok (.iload_n 3, 1) := by decide +kernel
theorem i_52_52 : Jvm.ClassFile.decode (pm_bytes 52) 52 = .ok (.iload 4, 2) := by decide +kernel
theorem i_52_54 : Jvm.ClassFile.decode (pm_bytes 52) 54 = .ok (.iastore, 1) := by decide +kernel
theorem i_52_55 : Jvm.ClassFile.decode (pm_bytes 52) 55 = .ok (.iinc 2 (1), 3) := by decide +kernel
theorem i_52_58 : Jvm.ClassFile.decode (pm_bytes 52) 58 = .ok (.goto (-56), 3) := by decide +kernel
theorem i_52_61 : Jvm.ClassFile.decode (pm_bytes 52) 61 = .ok (.return_, 1) := by decide +kernel
theorem f_53_12 : (pm_own 53, 12, 4, 3) ∈ pm_fld := f4_12
theorem f_53_25 : (pm_own 53, 25, 4, 6) ∈ pm_fld := f4_25
theorem f_53_29 : (pm_own 53, 29, 4, 7) ∈ pm_fld := f4_29
theorem f_53_36 : (pm_own 53, 36, 4, 1) ∈ pm_fld := f4_36
theorem f_53_40 : (pm_own 53, 40, 4, 2) ∈ pm_fld := f4_40
theorem f_53_120 : (pm_own 53, 120, 5, 4) ∈ pm_fld := f4_120
theorem f_53_123 : (pm_own 53, 123, 5, 2) ∈ pm_fld := f4_123
theorem f_53_145 : (pm_own 53, 145, 5, 1) ∈ pm_fld := f4_145
theorem f_53_157 : (pm_own 53, 157, 4, 8) ∈ pm_fld := f4_157
theorem k_53_97 : (pm_own 53, 97, 15, 1, (none : Option Nat)) ∈ pm_call ∧ pm_rank 15 < pm_rank 53 := ⟨k4_97, by decide⟩
theorem k_53_139 : (pm_own 53, 139, 54, 2, (some 4 : Option Nat)) ∈ pm_call ∧ pm_rank 54 < pm_rank 53 := ⟨k4_139, by decide⟩
theorem k_53_142 : (pm_own 53, 142, 16, 1, (none : Option Nat)) ∈ pm_call ∧ pm_rank 16 < pm_rank 53 := ⟨k4_142, by decide⟩
theorem k_53_148 : (pm_own 53, 148, 34, 2, (some 2 : Option Nat)) ∈ pm_call ∧ pm_rank 34 < pm_rank 53 := ⟨k4_148, by decide⟩
theorem k_53_151 : (pm_own 53, 151, 35, 1, (some 2 : Option Nat)) ∈ pm_call ∧ pm_rank 35 < pm_rank 53 := ⟨k4_151, by decide⟩
theorem k_53_154 : (pm_own 53, 154, 55, 2, (some 4 : Option Nat)) ∈ pm_call ∧ pm_rank 55 < pm_rank 53 := ⟨k4_154, by decide⟩
theorem k_53_160 : (pm_own 53, 160, 39, 4, (some 3 : Option Nat)) ∈ pm_call ∧ pm_rank 39 < pm_rank 53 := ⟨k4_160, by decide⟩
theorem m_53 : pm_mL 53 = 4 := rfl
theorem r_53 : pm_ret 53 = 1 := rfl
theorem i_53_0 : Jvm.ClassFile.decode (pm_bytes 53) 0 = .ok (.aload_n 0, 1) := by decide +kernel
theorem i_53_1 : Jvm.ClassFile.decode (pm_bytes 53) 1 = .ok (.iload_n 1, 1) := by decide +kernel
theorem i_53_2 : Jvm.ClassFile.decode (pm_bytes 53) 2 = .ok (.invokevirtual 139, 3) := by decide +kernel
theorem i_53_5 : Jvm.ClassFile.decode (pm_bytes 53) 5 = .ok (.aload_n 0, 1) := by decide +kernel
theorem i_53_6 : Jvm.ClassFile.decode (pm_bytes 53) 6 = .ok (.getfield 12, 3) := by decide +kernel
theorem i_53_9 : Jvm.ClassFile.decode (pm_bytes 53) 9 = .ok (.getfield 120, 3) := by decide +kernel
theorem i_53_12 : Jvm.ClassFile.decode (pm_bytes 53) 12 = .ok (.iconst 1, 1) := by decide +kernel
theorem i_53_13 : Jvm.ClassFile.decode (pm_bytes 53) 13 = .ok (.isub, 1) := by decide +kernel
theorem i_53_14 : Jvm.ClassFile.decode (pm_bytes 53) 14 = .ok (.istore_n 2, 1) := by decide +kernel
theorem i_53_15 : Jvm.ClassFile.decode (pm_bytes 53) 15 = .ok (.iload_n 2, 1) := by decide +kernel
theorem i_53_16 : Jvm.ClassFile.decode (pm_bytes 53) 16 = .ok (.ifCond .lt (71), 3) := by decide +kernel
theorem i_53_19 : Jvm.ClassFile.decode (pm_bytes 53) 19 = .ok (.aload_n 0, 1) := by decide +kernel
theorem i_53_20 : Jvm.ClassFile.decode (pm_bytes 53) 20 = .ok (.getfield 12, 3) := by decide +kernel
theorem i_53_23 : Jvm.ClassFile.decode (pm_bytes 53) 23 = .ok (.getfield 123, 3) := by decide +kernel
theorem i_53_26 : Jvm.ClassFile.decode (pm_bytes 53) 26 = .ok (.iload_n 2, 1) := by decide +kernel
theorem i_53_27 : Jvm.ClassFile.decode (pm_bytes 53) 27 = .ok (.iaload, 1) := by decide +kernel
theorem i_53_28 : Jvm.ClassFile.decode (pm_bytes 53) 28 = .ok (.istore_n 3, 1) := by decide +kernel
theorem i_53_29 : Jvm.ClassFile.decode (pm_bytes 53) 29 = .ok (.aload_n 0, 1) := by decide +kernel
theorem i_53_30 : Jvm.ClassFile.decode (pm_bytes 53) 30 = .ok (.getfield 25, 3) := by decide +kernel
theorem i_53_33 : Jvm.ClassFile.decode (pm_bytes 53) 33 = .ok (.iload_n 3, 1) := by decide +kernel
theorem i_53_34 : Jvm.ClassFile.decode (pm_bytes 53) 34 = .ok (.invokestatic 142, 3) := by decide +kernel
theorem i_53_37 : Jvm.ClassFile.decode (pm_bytes 53) 37 = .ok (.baload, 1) := by decide +kernel
theorem i_53_38 : Jvm.ClassFile.decode (pm_bytes 53) 38 = .ok (.ifCond .eq (43), 3) := by decide +kernel
theorem i_53_41 : Jvm.ClassFile.decode (pm_bytes 53) 41 = .ok (.aload_n 0, 1) := by decide +kernel
theorem i_53_42 : Jvm.ClassFile.decode (pm_bytes 53) 42 = .ok (.getfield 12, 3) := by decide +kernel
theorem i_53_45 : Jvm.ClassFile.decode (pm_bytes 53) 45 = .ok (.getfield 145, 3) := by decide +kernel
theorem i_53_48 : Jvm.ClassFile.decode (pm_bytes 53) 48 = .ok (.iload_n 3, 1) := by decide +kernel
theorem i_53_49 : Jvm.ClassFile.decode (pm_bytes 53) 49 = .ok (.iaload, 1) := by decide +kernel
theorem i_53_50 : Jvm.ClassFile.decode (pm_bytes 53) 50 = .ok (.iconst (-1), 1) := by decide +kernel
theorem i_53_51 : Jvm.ClassFile.decode (pm_bytes 53) 51 = .ok (.if_icmp .ne (17), 3) := by decide +kernel
theorem i_53_54 : Jvm.ClassFile.decode (pm_bytes 53) 54 = .ok (.aload_n 0, 1) := by decide +kernel
theorem i_53_55 : Jvm.ClassFile.decode (pm_bytes 53) 55 = .ok (.getfield 36, 3) := by decide +kernel
theorem i_53_58 : Jvm.ClassFile.decode (pm_bytes 53) 58 = .ok (.iload_n 3, 1) := by decide +kernel
theorem i_53_59 : Jvm.ClassFile.decode (pm_bytes 53) 59 = .ok (.invokestatic 97, 3) := by decide +kernel
theorem i_53_62 : Jvm.ClassFile.decode (pm_bytes 53) 62 = .ok (.invokevirtual 148, 3) := by decide +kernel
theorem i_53_65 : Jvm.ClassFile.decode (pm_bytes 53) 65 = .ok (.goto (16), 3) := by decide +kernel
theorem i_53_68 : Jvm.ClassFile.decode (pm_bytes 53) 68 = .ok (.aload_n 0, 1) := by decide +kernel
theorem i_53_69 : Jvm.ClassFile.decode (pm_bytes 53) 69 = .ok (.aload_n 0, 1) := by decide +kernel
theorem i_53_70 : Jvm.ClassFile.decode (pm_bytes 53) 70 = .ok (.getfield 12, 3) := by decide +kernel
theorem i_53_73 : Jvm.ClassFile.decode (pm_bytes 53) 73 = .ok (.getfield 145, 3) := by decide +kernel
theorem i_53_76 : Jvm.ClassFile.decode (pm_bytes 53) 76 = .ok (.iload_n 3, 1) := by decide +kernel
theorem i_53_77 : Jvm.ClassFile.decode (pm_bytes 53) 77 = .ok (.iaload, 1) := by decide +kernel
theorem i_53_78 : Jvm.ClassFile.decode (pm_bytes 53) 78 = .ok (.invokevirtual 139, 3) := by decide +kernel
theorem i_53_81 : Jvm.ClassFile.decode (pm_bytes 53) 81 = .ok (.iinc 2 (-1), 3) := by decide +kernel
theorem i_53_84 : Jvm.ClassFile.decode (pm_bytes 53) 84 = .ok (.goto (-69), 3) := by decide +kernel
theorem i_53_87 : Jvm.ClassFile.decode (pm_bytes 53) 87 = .ok (.aload_n 0, 1) := by decide +kernel
theorem i_53_88 : Jvm.ClassFile.decode (pm_bytes 53) 88 = .ok (.getfield 36, 3) := by decide +kernel
theorem i_53_91 : Jvm.ClassFile.decode (pm_bytes 53) 91 = .ok (.invokevirtual 151, 3) := by decide +kernel
theorem i_53_94 : Jvm.ClassFile.decode (pm_bytes 53) 94 = .ok (.istore_n 2, 1) := by decide +kernel
theorem i_53_95 : Jvm.ClassFile.decode (pm_bytes 53) 95 = .ok (.aload_n 0, 1) := by decide +kernel
theorem i_53_96 : Jvm.ClassFile.decode (pm_bytes 53) 96 = .ok (.iload_n 1, 1) := by decide +kernel
theorem i_53_97 : Jvm.ClassFile.decode (pm_bytes 53) 97 = .ok (.invokevirtual 154, 3) := by decide +kernel
theorem i_53_100 : Jvm.ClassFile.decode (pm_bytes 53) 100 = .ok (.aload_n 0, 1) := by decide +kernel
theorem i_53_101 : Jvm.ClassFile.decode (pm_bytes 53) 101 = .ok (.getfield 40, 3) := by decide +kernel
theorem i_53_104 : Jvm.ClassFile.decode (pm_bytes 53) 104 = .ok (.iload_n 2, 1) := by decide +kernel
theorem i_53_105 : Jvm.ClassFile.decode (pm_bytes 53) 105 = .ok (.aload_n 0, 1) := by decide +kernel
theorem i_53_106 : Jvm.ClassFile.decode (pm_bytes 53) 106 = .ok (.getfield 29, 3) := by decide +kernel
theorem i_53_109 : Jvm.ClassFile.decode (pm_bytes 53) 109 = .ok (.aload_n 0, 1) := by decide +kernel
theorem i_53_110 : Jvm.ClassFile.decode (pm_bytes 53) 110 = .ok (.getfield 157, 3) := by decide +kernel
theorem i_53_113 : Jvm.ClassFile.decode (pm_bytes 53) 113 = .ok (.invokevirtual 160, 3) := by decide +kernel
theorem i_53_116 : Jvm.ClassFile.decode (pm_bytes 53) 116 = .ok (.iload_n 2, 1) := by decide +kernel
theorem i_53_117 : Jvm.ClassFile.decode (pm_bytes 53) 117 = .ok (.ireturn, 1) := by decide +kernel
theorem f_54_25 : (pm_own 54, 25, 4, 6) ∈ pm_fld := f4_25
theorem f_54_36 : (pm_own 54, 36, 4, 1) ∈ pm_fld := f4_36
theorem f_54_88 : (pm_own 54, 88, 2, 0) ∈ pm_fld := f4_88
theorem f_54_91 : (pm_own 54, 91, 2, 1) ∈ pm_fld := f4_91
theorem k_54_142 : (pm_own 54, 142, 16, 1, (none : Option Nat)) ∈ pm_call ∧ pm_rank 16 < pm_rank 54 := ⟨k4_142, by decide⟩
theorem m_54 : pm_mL 54 = 3 := rfl
theorem r_54 : pm_ret 54 = 0 := rfl
theorem i_54_0 : Jvm.ClassFile.decode (pm_bytes 54) 0 = .ok (.aload_n 0, 1) := by decide +kernel
theorem i_54_1 : Jvm.ClassFile.decode (pm_bytes 54) 1 = .ok (.getfield 36, 3) := by decide +kernel
theorem i_54_4 : Jvm.ClassFile.decode (pm_bytes 54) 4 = .ok (.getfield 91, 3) := by decide +kernel
theorem i_54_7 : Jvm.ClassFile.decode (pm_bytes 54) 7 = .ok (.iload_n 1, 1) := by decide +kernel
theorem i_54_8 : Jvm.ClassFile.decode (pm_bytes 54) 8 = .ok (.iaload, 1) := by decide +kernel
theorem i_54_9 : Jvm.ClassFile.decode (pm_bytes 54) 9 = .ok (.istore_n 2, 1) := by decide +kernel
theorem i_54_10 : Jvm.ClassFile.decode (pm_bytes 54) 10 = .ok (.iload_n 2, 1) := by decide +kernel
theorem i_54_11 : Jvm.ClassFile.decode (pm_bytes 54) 11 = .ok (.aload_n 0, 1) := by decide +kernel
theorem i_54_12 : Jvm.ClassFile.decode (pm_bytes 54) 12 = .ok (.getfield 36, 3) := by decide +kernel
theorem i_54_15 : Jvm.ClassFile.decode (pm_bytes 54) 15 = .ok (.getfield 91, 3) := by decide +kernel
theorem i_54_18 : Jvm.ClassFile.decode (pm_bytes 54) 18 = .ok (.iload_n 1, 1) := by decide +kernel
theorem i_54_19 : Jvm.ClassFile.decode (pm_bytes 54) 19 = .ok (.iconst 1, 1) := by decide +kernel
theorem i_54_20 : Jvm.ClassFile.decode (pm_bytes 54) 20 = .ok (.iadd, 1) := by decide +kernel
theorem i_54_21 : Jvm.ClassFile.decode (pm_bytes 54) 21 = .ok (.iaload, 1) := by decide +kernel
theorem i_54_22 : Jvm.ClassFile.decode (pm_bytes 54) 22 = .ok (.if_icmp .ge (27), 3) := by decide +kernel
theorem i_54_25 : Jvm.ClassFile.decode (pm_bytes 54) 25 = .ok (.aload_n 0, 1) := by decide +kernel
theorem i_54_26 : Jvm.ClassFile.decode (pm_bytes 54) 26 = .ok (.getfield 25, 3) := by decide +kernel
theorem i_54_29 : Jvm.ClassFile.decode (pm_bytes 54) 29 = .ok (.aload_n 0, 1) := by decide +kernel
theorem i_54_30 : Jvm.ClassFile.decode (pm_bytes 54) 30 = .ok (.getfield 36, 3) := by decide +kernel
theorem i_54_33 : Jvm.ClassFile.decode (pm_bytes 54) 33 = .ok (.getfield 88, 3) := by decide +kernel
theorem i_54_36 : Jvm.ClassFile.decode (pm_bytes 54) 36 = .ok (.iload_n 2, 1) := by decide +kernel
theorem i_54_37 : Jvm.ClassFile.decode (pm_bytes 54) 37 = .ok (.iaload, 1) := by decide +kernel
theorem i_54_38 : Jvm.ClassFile.decode (pm_bytes 54) 38 = .ok (.invokestatic 142, 3) := by decide +kernel
theorem i_54_41 : Jvm.ClassFile.decode (pm_bytes 54) 41 = .ok (.iconst 1, 1) := by decide +kernel
theorem i_54_42 : Jvm.ClassFile.decode (pm_bytes 54) 42 = .ok (.bastore, 1) := by decide +kernel
theorem i_54_43 : Jvm.ClassFile.decode (pm_bytes 54) 43 = .ok (.iinc 2 (1), 3) := by decide +kernel
theorem i_54_46 : Jvm.ClassFile.decode (pm_bytes 54) 46 = .ok (.goto (-36), 3) := by decide +kernel
theorem i_54_49 : Jvm.ClassFile.decode (pm_bytes 54) 49 = .ok (.return_, 1) := by decide +kernel
theorem f_55_12 : (pm_own 55, 12, 4, 3) ∈ pm_fld := f4_12
theorem f_55_25 : (pm_own 55, 25, 4, 6) ∈ pm_fld := f4_25
theorem f_55_29 : (pm_own 55, 29, 4, 7) ∈ pm_fld := f4_29
theorem f_55_120 : (pm_own 55, 120, 5, 4) ∈ pm_fld := f4_120
theorem f_55_123 : (pm_own 55, 123, 5, 2) ∈ pm_fld := f4_123
theorem f_55_145 : (pm_own 55, 145, 5, 1) ∈ pm_fld := f4_145
theorem f_55_157 : (pm_own 55, 157, 4, 8) ∈ pm_fld := f4_157
theorem k_55_142 : (pm_own 55, 142, 16, 1, (none : Option Nat)) ∈ pm_call ∧ pm_rank 16 < pm_rank 55 := ⟨k4_142, by decide⟩
theorem m_55 : pm_mL 55 = 4 := rfl
theorem r_55 : pm_ret 55 = 0 := rfl
theorem i_55_0 : Jvm.ClassFile.decode (pm_bytes 55) 0 = .ok (.aload_n 0, 1) := by decide +kernel
theorem i_55_1 : Jvm.ClassFile.decode (pm_bytes 55) 1 = .ok (.iconst 0, 1) := by decide +kernel
theorem i_55_2 : Jvm.ClassFile.decode (pm_bytes 55) 2 = .ok (.putfield 157, 3) := by decide +kernel
theorem i_55_5 : Jvm.ClassFile.decode (pm_bytes 55) 5 = .ok (.iconst 0, 1) := by decide +kernel
theorem i_55_6 : Jvm.ClassFile.decode (pm_bytes 55) 6 = .ok (.istore_n 2, 1) := by decide +kernel
theorem i_55_7 : Jvm.ClassFile.decode (pm_bytes 55) 7 = .ok (.iload_n 2, 1) := by decide +kernel
theorem i_55_8 : Jvm.ClassFile.decode (pm_bytes 55) 8 = .ok (.aload_n 0, 1) := by decide +kernel
theorem i_55_9 : Jvm.ClassFile.decode (pm_bytes 55) 9 = .ok (.getfield 12, 3) := by decide +kernel
theorem i_55_12 : Jvm.ClassFile.decode (pm_bytes 55) 12 = .ok (.getfield 120, 3) := by decide +kernel
theorem i_55_15 : Jvm.ClassFile.decode (pm_bytes 55) 15 = .ok (.if_icmp .ge (82), 3) := by decide +kernel
theorem i_55_18 : Jvm.ClassFile.decode (pm_bytes 55) 18 = .ok (.aload_n 0, 1) := by decide +kernel
theorem i_55_19 : Jvm.ClassFile.decode (pm_bytes 55) 19 = .ok (.getfield 12, 3) := by decide +kernel
theorem i_55_22 : Jvm.ClassFile.decode (pm_bytes 55) 22 = .ok (.getfield 123, 3) := by decide +kernel
theorem i_55_25 : Jvm.ClassFile.decode (pm_bytes 55) 25 = .ok (.iload_n 2, 1) := by decide +kernel
theorem i_55_26 : Jvm.ClassFile.decode (pm_bytes 55) 26 = .ok (.iaload, 1) := by decide +kernel
theorem i_55_27 : Jvm.ClassFile.decode (pm_bytes 55) 27 = .ok (.istore_n 3, 1) := by decide +kernel
theorem i_55_28 : Jvm.ClassFile.decode (pm_bytes 55) 28 = .ok (.aload_n 0, 1) := by decide +kernel
theorem i_55_29 : Jvm.ClassFile.decode (pm_bytes 55) 29 = .ok (.getfield 25, 3) := by decide +kernel
theorem i_55_32 : Jvm.ClassFile.decode (pm_bytes 55) 32 = .ok (.iload_n 3, 1) := by decide +kernel
theorem i_55_33 : Jvm.ClassFile.decode (pm_bytes 55) 33 = .ok (.invokestatic 142, 3) := by decide +kernel
theorem i_55_36 : Jvm.ClassFile.decode (pm_bytes 55) 36 = .ok (.baload, 1) := by decide +kernel
theorem i_55_37 : Jvm.ClassFile.decode (pm_bytes 55) 37 = .ok (.ifCond .eq (44), 3) := by decide +kernel
theorem i_55_40 : Jvm.ClassFile.decode (pm_bytes 55) 40 = .ok (.aload_n 0, 1) := by decide +kernel
theorem i_55_41 : Jvm.ClassFile.decode (pm_bytes 55) 41 = .ok (.getfield 12, 3) := by decide +kernel
theorem i_55_44 : Jvm.ClassFile.decode (pm_bytes 55) 44 = .ok (.getfield 145, 3) := by decide +kernel
theorem i_55_47 : Jvm.ClassFile.decode (pm_bytes 55) 47 = .ok (.iload_n 3, 1) := by decide +kernel
theorem i_55_48 : Jvm.ClassFile.decode (pm_bytes 55) 48 = .ok (.iaload, 1) := by decide +kernel
theorem i_55_49 : Jvm.ClassFile.decode (pm_bytes 55) 49 = .ok (.iconst (-1), 1) := by decide +kernel
theorem i_55_50 : Jvm.ClassFile.decode (pm_bytes 55) 50 = .ok (.if_icmp .eq (31), 3) := by decide +kernel
theorem i_55_53 : Jvm.ClassFile.decode (pm_bytes 55) 53 = .ok (.aload_n 0, 1) := by decide +kernel
theorem i_55_54 : Jvm.ClassFile.decode (pm_bytes 55) 54 = .ok (.getfield 29, 3) := by decide +kernel
theorem i_55_57 : Jvm.ClassFile.decode (pm_bytes 55) 57 = .ok (.aload_n 0, 1) := by decide +kernel
theorem i_55_58 : Jvm.ClassFile.decode (pm_bytes 55) 58 = .ok (.getfield 157, 3) := by decide +kernel
theorem i_55_61 : Jvm.ClassFile.decode (pm_bytes 55) 61 = .ok (.aload_n 0, 1) := by decide +kernel
theorem i_55_62 : Jvm.ClassFile.decode (pm_bytes 55) 62 = .ok (.getfield 12, 3) := by decide +kernel
theorem i_55_65 : Jvm.ClassFile.decode (pm_bytes 55) 65 = .ok (.getfield 145, 3) := by decide +kernel
theorem i_55_68 : Jvm.ClassFile.decode (pm_bytes 55) 68 = .ok (.iload_n 3, 1) := by decide +kernel
theorem i_55_69 : Jvm.ClassFile.decode (pm_bytes 55) 69 = .ok (.iaload, 1) := by decide +kernel
theorem i_55_70 : Jvm.ClassFile.decode (pm_bytes 55) 70 = .ok (.iastore, 1) := by decide +kernel
theorem i_55_71 : Jvm.ClassFile.decode (pm_bytes 55) 71 = .ok (.aload_n 0, 1) := by decide +kernel
theorem i_55_72 : Jvm.ClassFile.decode (pm_bytes 55) 72 = .ok (.dup, 1) := by decide +kernel
theorem i_55_73 : Jvm.ClassFile.decode (pm_bytes 55) 73 = .ok (.getfield 157, 3) := by decide +kernel
theorem i_55_76 : Jvm.ClassFile.decode (pm_bytes 55) 76 = .ok (.iconst 1, 1) := by decide +kernel
theorem i_55_77 : Jvm.ClassFile.decode (pm_bytes 55) 77 = .ok (.iadd, 1) := by decide +kernel
theorem i_55_78 : Jvm.ClassFile.decode (pm_bytes 55) 78 = .ok (.putfield 157, 3) := by decide +kernel
theorem i_55_81 : Jvm.ClassFile.decode (pm_bytes 55) 81 = .ok (.aload_n 0, 1) := by decide +kernel
theorem i_55_82 : Jvm.ClassFile.decode (pm_bytes 55) 82 = .ok (.getfield 25, 3) := by decide +kernel
theorem i_55_85 : Jvm.ClassFile.decode (pm_bytes 55) 85 = .ok (.iload_n 3, 1) := by decide +kernel
theorem i_55_86 : Jvm.ClassFile.decode (pm_bytes 55) 86 = .ok (.invokestatic 142, 3) := by decide +kernel
theorem i_55_89 : Jvm.ClassFile.decode (pm_bytes 55) 89 = .ok (.iconst 0, 1) := by decide +kernel
theorem i_55_90 : Jvm.ClassFile.decode (pm_bytes 55) 90 = .ok (.bastore, 1) := by decide +kernel
theorem i_55_91 : Jvm.ClassFile.decode (pm_bytes 55) 91 = .ok (.iinc 2 (1), 3) := by decide +kernel
theorem i_55_94 : Jvm.ClassFile.decode (pm_bytes 55) 94 = .ok (.goto (-87), 3) := by decide +kernel
theorem i_55_97 : Jvm.ClassFile.decode (pm_bytes 55) 97 = .ok (.aload_n 0, 1) := by decide +kernel
theorem i_55_98 : Jvm.ClassFile.decode (pm_bytes 55) 98 = .ok (.getfield 29, 3) := by decide +kernel
theorem i_55_101 : Jvm.ClassFile.decode (pm_bytes 55) 101 = .ok (.aload_n 0, 1) := by decide +kernel
theorem i_55_102 : Jvm.ClassFile.decode (pm_bytes 55) 102 = .ok (.getfield 157, 3) := by decide +kernel
theorem i_55_105 : Jvm.ClassFile.decode (pm_bytes 55) 105 = .ok (.iload_n 1, 1) := by decide +kernel
theorem i_55_106 : Jvm.ClassFile.decode (pm_bytes 55) 106 = .ok (.iastore, 1) := by decide +kernel
theorem i_55_107 : Jvm.ClassFile.decode (pm_bytes 55) 107 = .ok (.aload_n 0, 1) := by decide +kernel
theorem i_55_108 : Jvm.ClassFile.decode (pm_bytes 55) 108 = .ok (.dup, 1) := by decide +kernel
theorem i_55_109 : Jvm.ClassFile.decode (pm_bytes 55) 109 = .ok (.getfield 157, 3) := by decide +kernel
theorem i_55_112 : Jvm.ClassFile.decode (pm_bytes 55) 112 = .ok (.iconst 1, 1) := by decide +kernel
theorem i_55_113 : Jvm.ClassFile.decode (pm_bytes 55) 113 = .ok (.iadd, 1) := by decide +kernel
theorem i_55_114 : Jvm.ClassFile.decode (pm_bytes 55) 114 = .ok (.putfield 157, 3) := by decide +kernel
theorem i_55_117 : Jvm.ClassFile.decode (pm_bytes 55) 117 = .ok (.return_, 1) := by decide +kernel
theorem f_56_12 : (pm_own 56, 12, 4, 3) ∈ pm_fld := f4_12
theorem f_56_36 : (pm_own 56, 36, 4, 1) ∈ pm_fld := f4_36
theorem f_56_73 : (pm_own 56, 73, 4, 9) ∈ pm_fld := f4_73
theorem f_56_88 : (pm_own 56, 88, 2, 0) ∈ pm_fld := f4_88
theorem f_56_91 : (pm_own 56, 91, 2, 1) ∈ pm_fld := f4_91
theorem f_56_120 : (pm_own 56, 120, 5, 4) ∈ pm_fld := f4_120
theorem k_56_61 : (pm_own 56, 61, 36, 2, (some 2 : Option Nat)) ∈ pm_call ∧ pm_rank 36 < pm_rank 56 := ⟨k4_61, by decide⟩
theorem k_56_94 : (pm_own 56, 94, 52, 2, (some 4 : Option Nat)) ∈ pm_call ∧ pm_rank 52 < pm_rank 56 := ⟨k4_94, by decide⟩
theorem k_56_97 : (pm_own 56, 97, 15, 1, (none : Option Nat)) ∈ pm_call ∧ pm_rank 15 < pm_rank 56 := ⟨k4_97, by decide⟩
theorem k_56_104 : (pm_own 56, 104, 60, 3, (some 5 : Option Nat)) ∈ pm_call ∧ pm_rank 60 < pm_rank 56 := ⟨k4_104, by decide⟩
theorem k_56_166 : (pm_own 56, 166, 61, 2, (some 5 : Option Nat)) ∈ pm_call ∧ pm_rank 61 < pm_rank 56 := ⟨k4_166, by decide⟩
theorem m_56 : pm_mL 56 = 3 := rfl
theorem r_56 : pm_ret 56 = 0 := rfl
theorem i_56_0 : Jvm.ClassFile.decode (pm_bytes 56) 0 = .ok (.aload_n 0, 1) := by decide +kernel
theorem i_56_1 : Jvm.ClassFile.decode (pm_bytes 56) 1 = .ok (.getfield 36, 3) := by decide +kernel
theorem i_56_4 : Jvm.ClassFile.decode (pm_bytes 56) 4 = .ok (.getfield 91, 3) := by decide +kernel
theorem i_56_7 : Jvm.ClassFile.decode (pm_bytes 56) 7 = .ok (.iload_n 1, 1) := by decide +kernel
theorem i_56_8 : Jvm.ClassFile.decode (pm_bytes 56) 8 = .ok (.iaload, 1) := by decide +kernel
theorem i_56_9 : Jvm.ClassFile.decode (pm_bytes 56) 9 = .ok (.istore_n 2, 1) := by decide +kernel
theorem i_56_10 : Jvm.ClassFile.decode (pm_bytes 56) 10 = .ok (.aload_n 0, 1) := by decide +kernel
theorem i_56_11 : Jvm.ClassFile.decode (pm_bytes 56) 11 = .ok (.getfield 36, 3) := by decide +kernel
theorem i_56_14 : Jvm.ClassFile.decode (pm_bytes 56) 14 = .ok (.iload_n 1, 1) := by decide +kernel
theorem i_56_15 : Jvm.ClassFile.decode (pm_bytes 56) 15 = .ok (.invokevirtual 61, 3) := by decide +kernel
theorem i_56_18 : Jvm.ClassFile.decode (pm_bytes 56) 18 = .ok (.iconst 1, 1) := by decide +kernel
theorem i_56_19 : Jvm.ClassFile.decode (pm_bytes 56) 19 = .ok (.if_icmp .le (32), 3) := by decide +kernel
theorem i_56_22 : Jvm.ClassFile.decode (pm_bytes 56) 22 = .ok (.aload_n 0, 1) := by decide +kernel
theorem i_56_23 : Jvm.ClassFile.decode (pm_bytes 56) 23 = .ok (.getfield 12, 3) := by decide +kernel
theorem i_56_26 : Jvm.ClassFile.decode (pm_bytes 56) 26 = .ok (.aload_n 0, 1) := by decide +kernel
theorem i_56_27 : Jvm.ClassFile.decode (pm_bytes 56) 27 = .ok (.getfield 36, 3) := by decide +kernel
theorem i_56_30 : Jvm.ClassFile.decode (pm_bytes 56) 30 = .ok (.getfield 88, 3) := by decide +kernel
theorem i_56_33 : Jvm.ClassFile.decode (pm_bytes 56) 33 = .ok (.iload_n 2, 1) := by decide +kernel
theorem i_56_34 : Jvm.ClassFile.decode (pm_bytes 56) 34 = .ok (.iconst 1, 1) := by decide +kernel
theorem i_56_35 : Jvm.ClassFile.decode (pm_bytes 56) 35 = .ok (.iadd, 1) := by decide +kernel
theorem i_56_36 : Jvm.ClassFile.decode (pm_bytes 56) 36 = .ok (.iaload, 1) := by decide +kernel
theorem i_56_37 : Jvm.ClassFile.decode (pm_bytes 56) 37 = .ok (.invokestatic 97, 3) := by decide +kernel
theorem i_56_40 : Jvm.ClassFile.decode (pm_bytes 56) 40 = .ok (.invokevirtual 166, 3) := by decide +kernel
theorem i_56_43 : Jvm.ClassFile.decode (pm_bytes 56) 43 = .ok (.aload_n 0, 1) := by decide +kernel
theorem i_56_44 : Jvm.ClassFile.decode (pm_bytes 56) 44 = .ok (.iload_n 1, 1) := by decide +kernel
theorem i_56_45 : Jvm.ClassFile.decode (pm_bytes 56) 45 = .ok (.invokevirtual 94, 3) := by decide +kernel
theorem i_56_48 : Jvm.ClassFile.decode (pm_bytes 56) 48 = .ok (.goto (11), 3) := by decide +kernel
theorem i_56_51 : Jvm.ClassFile.decode (pm_bytes 56) 51 = .ok (.aload_n 0, 1) := by decide +kernel
theorem i_56_52 : Jvm.ClassFile.decode (pm_bytes 56) 52 = .ok (.getfield 12, 3) := by decide +kernel
theorem i_56_55 : Jvm.ClassFile.decode (pm_bytes 56) 55 = .ok (.iconst (-1), 1) := by decide +kernel
theorem i_56_56 : Jvm.ClassFile.decode (pm_bytes 56) 56 = .ok (.invokevirtual 166, 3) := by decide +kernel
theorem i_56_59 : Jvm.ClassFile.decode (pm_bytes 56) 59 = .ok (.aload_n 0, 1) := by decide +kernel
theorem i_56_60 : Jvm.ClassFile.decode (pm_bytes 56) 60 = .ok (.aload_n 0, 1) := by decide +kernel
theorem i_56_61 : Jvm.ClassFile.decode (pm_bytes 56) 61 = .ok (.getfield 12, 3) := by decide +kernel
theorem i_56_64 : Jvm.ClassFile.decode (pm_bytes 56) 64 = .ok (.getfield 120, 3) := by decide +kernel
theorem i_56_67 : Jvm.ClassFile.decode (pm_bytes 56) 67 = .ok (.putfield 73, 3) := by decide +kernel
theorem i_56_70 : Jvm.ClassFile.decode (pm_bytes 56) 70 = .ok (.aload_n 0, 1) := by decide +kernel
theorem i_56_71 : Jvm.ClassFile.decode (pm_bytes 56) 71 = .ok (.getfield 12, 3) := by decide +kernel
theorem i_56_74 : Jvm.ClassFile.decode (pm_bytes 56) 74 = .ok (.aload_n 0, 1) := by decide +kernel
theorem i_56_75 : Jvm.ClassFile.decode (pm_bytes 56) 75 = .ok (.getfield 36, 3) := by decide +kernel
theorem i_56_78 : Jvm.ClassFile.decode (pm_bytes 56) 78 = .ok (.getfield 88, 3) := by decide +kernel
theorem i_56_81 : Jvm.ClassFile.decode (pm_bytes 56) 81 = .ok (.iload_n 2, 1) := by decide +kernel
theorem i_56_82 : Jvm.ClassFile.decode (pm_bytes 56) 82 = .ok (.iaload, 1) := by decide +kernel
theorem i_56_83 : Jvm.ClassFile.decode (pm_bytes 56) 83 = .ok (.iload_n 1, 1) := by decide +kernel
theorem i_56_84 : Jvm.ClassFile.decode (pm_bytes 56) 84 = .ok (.invokevirtual 104, 3) := by decide +kernel
theorem i_56_87 : Jvm.ClassFile.decode (pm_bytes 56) 87 = .ok (.return_, 1) := by decide +kernel
theorem f_57_29 : (pm_own 57, 29, 5, 5) ∈ pm_fld := f5_29
theorem k_57_25 : (pm_own 57, 25, 62, 2, (some 5 : Option Nat)) ∈ pm_call ∧ pm_rank 62 < pm_rank 57 := ⟨k5_25, by decide⟩
theorem m_57 : pm_mL 57 = 1 := rfl
theorem r_57 : pm_ret 57 = 0 := rfl
theorem i_57_0 : Jvm.ClassFile.decode (pm_bytes 57) 0 = .ok (.aload_n 0, 1) := by decide +kernel
theorem i_57_1 : Jvm.ClassFile.decode (pm_bytes 57) 1 = .ok (.iconst 0, 1) := by decide +kernel
theorem i_57_2 : Jvm.ClassFile.decode (pm_bytes 57) 2 = .ok (.invokevirtual 25, 3) := by decide +kernel
theorem i_57_5 : Jvm.ClassFile.decode (pm_bytes 57) 5 = .ok (.aload_n 0, 1) := by decide +kernel
theorem i_57_6 : Jvm.ClassFile.decode (pm_bytes 57) 6 = .ok (.iconst 0, 1) := by decide +kernel
theorem i_57_7 : Jvm.ClassFile.decode (pm_bytes 57) 7 = .ok (.putfield 29, 3) := by decide +kernel
theorem i_57_10 : Jvm.ClassFile.decode (pm_bytes 57) 10 = .ok (.return_, 1) := by decide +kernel
theorem f_58_9 : (pm_own 58, 9, 5, 0) ∈ pm_fld := f5_9
theorem k_58_33 : (pm_own 58, 33, 15, 1, (none : Option Nat)) ∈ pm_call ∧ pm_rank 15 < pm_rank 58 := ⟨k5_33, by decide⟩
theorem m_58 : pm_mL 58 = 2 := rfl
theorem r_58 : pm_ret 58 = 2 := rfl
theorem i_58_0 : Jvm.ClassFile.decode (pm_bytes 58) 0 = .ok (.aload_n 0, 1) := by decide +kernel
theorem i_58_1 : Jvm.ClassFile.decode (pm_bytes 58) 1 = .ok (.getfield 9, 3) := by decide +kernel
theorem i_58_4 : Jvm.ClassFile.decode (pm_bytes 58) 4 = .ok (.iload_n 1, 1) := by decide +kernel
theorem i_58_5 : Jvm.ClassFile.decode (pm_bytes 58) 5 = .ok (.baload, 1) := by decide +kernel
theorem i_58_6 : Jvm.ClassFile.decode (pm_bytes 58) 6 = .ok (.ifCond .ne (19), 3) := by decide +kernel
theorem i_58_9 : Jvm.ClassFile.decode (pm_bytes 58) 9 = .ok (.aload_n 0, 1) := by decide +kernel
theorem i_58_10 : Jvm.ClassFile.decode (pm_bytes 58) 10 = .ok (.getfield 9, 3) := by decide +kernel
theorem i_58_13 : Jvm.ClassFile.decode (pm_bytes 58) 13 = .ok (.iload_n 1, 1) := by decide +kernel
theorem i_58_14 : Jvm.ClassFile.decode (pm_bytes 58) 14 = .ok (.invokestatic 33, 3) := by decide +kernel
theorem i_58_17 : Jvm.ClassFile.decode (pm_bytes 58) 17 = .ok (.baload, 1) := by decide +kernel
theorem i_58_18 : Jvm.ClassFile.decode (pm_bytes 58) 18 = .ok (.ifCond .ne (7), 3) := by decide +kernel
theorem i_58_21 : Jvm.ClassFile.decode (pm_bytes 58) 21 = .ok (.iconst 1, 1) := by decide +kernel
theorem i_58_22 : Jvm.ClassFile.decode (pm_bytes 58) 22 = .ok (.goto (4), 3) := by decide +kernel
theorem i_58_25 : Jvm.ClassFile.decode (pm_bytes 58) 25 = .ok (.iconst 0, 1) := by decide +kernel
theorem i_58_26 : Jvm.ClassFile.decode (pm_bytes 58) 26 = .ok (.ireturn, 1) := by decide +kernel
theorem f_59_22 : (pm_own 59, 22, 5, 3) ∈ pm_fld := f5_22
theorem f_59_29 : (pm_own 59, 29, 5, 5) ∈ pm_fld := f5_29
theorem f_59_37 : (pm_own 59, 37, 5, 4) ∈ pm_fld := f5_37
theorem k_59_40 : (pm_own 59, 40, 60, 3, (some 5 : Option Nat)) ∈ pm_call ∧ pm_rank 60 < pm_rank 59 := ⟨k5_40, by decide⟩
theorem m_59 : pm_mL 59 = 2 := rfl
theorem r_59 : pm_ret 59 = 0 := rfl
theorem i_59_0 : Jvm.ClassFile.decode (pm_bytes 59) 0 = .ok (.aload_n 0, 1) := by decide +kernel
theorem i_59_1 : Jvm.ClassFile.decode (pm_bytes 59) 1 = .ok (.getfield 22, 3) := by decide +kernel
theorem i_59_4 : Jvm.ClassFile.decode (pm_bytes 59) 4 = .ok (.aload_n 0, 1) := by decide +kernel
theorem i_59_5 : Jvm.ClassFile.decode (pm_bytes 59) 5 = .ok (.getfield 29, 3) := by decide +kernel
theorem i_59_8 : Jvm.ClassFile.decode (pm_bytes 59) 8 = .ok (.aload_n 0, 1) := by decide +kernel
theorem i_59_9 : Jvm.ClassFile.decode (pm_bytes 59) 9 = .ok (.getfield 37, 3) := by decide +kernel
theorem i_59_12 : Jvm.ClassFile.decode (pm_bytes 59) 12 = .ok (.iastore, 1) := by decide +kernel
theorem i_59_13 : Jvm.ClassFile.decode (pm_bytes 59) 13 = .ok (.aload_n 0, 1) := by decide +kernel
theorem i_59_14 : Jvm.ClassFile.decode (pm_bytes 59) 14 = .ok (.dup, 1) := by decide +kernel
theorem i_59_15 : Jvm.ClassFile.decode (pm_bytes 59) 15 = .ok (.getfield 29, 3) := by decide +kernel
theorem i_59_18 : Jvm.ClassFile.decode (pm_bytes 59) 18 = .ok (.iconst 1, 1) := by decide +kernel
theorem i_59_19 : Jvm.ClassFile.decode (pm_bytes 59) 19 = .ok (.iadd, 1) := by decide +kernel
theorem i_59_20 : Jvm.ClassFile.decode (pm_bytes 59) 20 = .ok (.putfield 29, 3) := by decide +kernel
theorem i_59_23 : Jvm.ClassFile.decode (pm_bytes 59) 23 = .ok (.aload_n 0, 1) := by decide +kernel
theorem i_59_24 : Jvm.ClassFile.decode (pm_bytes 59) 24 = .ok (.iload_n 1, 1) := by decide +kernel
theorem i_59_25 : Jvm.ClassFile.decode (pm_bytes 59) 25 = .ok (.iconst (-1), 1) := by decide +kernel
theorem i_59_26 : Jvm.ClassFile.decode (pm_bytes 59) 26 = .ok (.invokevirtual 40, 3) := by decide +kernel
theorem i_59_29 : Jvm.ClassFile.decode (pm_bytes 59) 29 = .ok (.return_, 1) := by decide +kernel
theorem f_60_9 : (pm_own 60, 9, 5, 0) ∈ pm_fld := f5_9
theorem f_60_15 : (pm_own 60, 15, 5, 1) ∈ pm_fld := f5_15
theorem f_60_19 : (pm_own 60, 19, 5, 2) ∈ pm_fld := f5_19
theorem f_60_37 : (pm_own 60, 37, 5, 4) ∈ pm_fld := f5_37
theorem m_60 : pm_mL 60 = 3 := rfl
theorem r_60 : pm_ret 60 = 0 := rfl
theorem i_60_0 : Jvm.ClassFile.decode (pm_bytes 60) 0 = .ok (.aload_n 0, 1) := by decide +kernel
theorem i_60_1 : Jvm.ClassFile.decode (pm_bytes 60) 1 = .ok (.getfield 9, 3) := by decide +kernel
theorem i_60_4 : Jvm.ClassFile.decode (pm_bytes 60) 4 = .ok (.iload_n 1, 1) := by decide +kernel
theorem i_60_5 : Jvm.ClassFile.decode (pm_bytes 60) 5 = .ok (.iconst 1, 1) := by decide +kernel
theorem i_60_6 : Jvm.ClassFile.decode (pm_bytes 60) 6 = .ok (.bastore, 1) := by decide +kernel
theorem i_60_7 : Jvm.ClassFile.decode (pm_bytes 60) 7 = .ok (.aload_n 0, 1) := by decide +kernel
theorem i_60_8 : Jvm.ClassFile.decode (pm_bytes 60) 8 = .ok (.getfield 15, 3) := by decide +kernel
theorem i_60_11 : Jvm.ClassFile.decode (pm_bytes 60) 11 = .ok (.iload_n 1, 1) := by decide +kernel
theorem i_60_12 : Jvm.ClassFile.decode (pm_bytes 60) 12 = .ok (.iload_n 2, 1) := by decide +kernel
theorem i_60_13 : Jvm.ClassFile.decode (pm_bytes 60) 13 = .ok (.iastore, 1) := by decide +kernel
theorem i_60_14 : Jvm.ClassFile.decode (pm_bytes 60) 14 = .ok (.aload_n 0, 1) := by decide +kernel
theorem i_60_15 : Jvm.ClassFile.decode (pm_bytes 60) 15 = .ok (.getfield 19, 3) := by decide +kernel
theorem i_60_18 : Jvm.ClassFile.decode (pm_bytes 60) 18 = .ok (.aload_n 0, 1) := by decide +kernel
theorem i_60_19 : Jvm.ClassFile.decode (pm_bytes 60) 19 = .ok (.getfield 37, 3) := by decide +kernel
theorem i_60_22 : Jvm.ClassFile.decode (pm_bytes 60) 22 = .ok (.iload_n 1, 1) := by decide +kernel
theorem i_60_23 : Jvm.ClassFile.decode (pm_bytes 60) 23 = .ok (.iastore, 1) := by decide +kernel
theorem i_60_24 : Jvm.ClassFile.decode (pm_bytes 60) 24 = .ok (.aload_n 0, 1) := by decide +kernel
theorem i_60_25 : Jvm.ClassFile.decode (pm_bytes 60) 25 = .ok (.dup, 1) := by decide +kernel
theorem i_60_26 : Jvm.ClassFile.decode (pm_bytes 60) 26 = .ok (.getfield 37, 3) := by decide +kernel
theorem i_60_29 : Jvm.ClassFile.decode (pm_bytes 60) 29 = .ok (.iconst 1, 1) := by decide +kernel
theorem i_60_30 : Jvm.ClassFile.decode (pm_bytes 60) 30 = .ok (.iadd, 1) := by decide +kernel
theorem i_60_31 : Jvm.ClassFile.decode (pm_bytes 60) 31 = .ok (.putfield 37, 3) := by decide +kernel
theorem i_60_34 : Jvm.ClassFile.decode (pm_bytes 60) 34 = .ok (.return_, 1) := by decide +kernel
theorem f_61_19 : (pm_own 61, 19, 5, 2) ∈ pm_fld := f5_19
theorem f_61_22 : (pm_own 61, 22, 5, 3) ∈ pm_fld := f5_22
theorem f_61_29 : (pm_own 61, 29, 5, 5) ∈ pm_fld := f5_29
theorem f_61_37 : (pm_own 61, 37, 5, 4) ∈ pm_fld := f5_37
theorem k_61_25 : (pm_own 61, 25, 62, 2, (some 5 : Option Nat)) ∈ pm_call ∧ pm_rank 62 < pm_rank 61 := ⟨k5_25, by decide⟩
theorem m_61 : pm_mL 61 = 3 := rfl
theorem r_61 : pm_ret 61 = 0 := rfl
theorem i_61_0 : Jvm.ClassFile.decode (pm_bytes 61) 0 = .ok (.aload_n 0, 1) := by decide +kernel
theorem i_61_1 : Jvm.ClassFile.decode (pm_bytes 61) 1 = .ok (.getfield 37, 3) := by decide +kernel
theorem i_61_4 : Jvm.ClassFile.decode (pm_bytes 61) 4 = .ok (.istore_n 2, 1) := by decide +kernel
theorem i_61_5 : Jvm.ClassFile.decode (pm_bytes 61) 5 = .ok (.aload_n 0, 1) := by decide +kernel
theorem i_61_6 : Jvm.ClassFile.decode (pm_bytes 61) 6 = .ok (.getfield 29, 3) := by decide +kernel
theorem i_61_9 : Jvm.ClassFile.decode (pm_bytes 61) 9 = .ok (.ifCond .le (46), 3) := by decide +kernel
theorem i_61_12 : Jvm.ClassFile.decode (pm_bytes 61) 12 = .ok (.aload_n 0, 1) := by decide +kernel
theorem i_61_13 : Jvm.ClassFile.decode (pm_bytes 61) 13 = .ok (.getfield 19, 3) := by decide +kernel
theorem i_61_16 : Jvm.ClassFile.decode (pm_bytes 61) 16 = .ok (.aload_n 0, 1) := by decide +kernel
theorem i_61_17 : Jvm.ClassFile.decode (pm_bytes 61) 17 = .ok (.getfield 22, 3) := by decide +kernel
theorem i_61_20 : Jvm.ClassFile.decode (pm_bytes 61) 20 = .ok (.aload_n 0, 1) := by decide +kernel
theorem i_61_21 : Jvm.ClassFile.decode (pm_bytes 61) 21 = .ok (.getfield 29, 3) := by decide +kernel
theorem i_61_24 : Jvm.ClassFile.decode (pm_bytes 61) 24 = .ok (.iconst 1, 1) := by decide +kernel
theorem i_61_25 : Jvm.ClassFile.decode (pm_bytes 61) 25 = .ok (.isub, 1) := by decide +kernel
theorem i_61_26 : Jvm.ClassFile.decode (pm_bytes 61) 26 = .ok (.iaload, 1) := by decide +kernel
theorem i_61_27 : Jvm.ClassFile.decode (pm_bytes 61) 27 = .ok (.iaload, 1) := by decide +kernel
theorem i_61_28 : Jvm.ClassFile.decode (pm_bytes 61) 28 = .ok (.iload_n 1, 1) := by decide +kernel
theorem i_61_29 : Jvm.ClassFile.decode (pm_bytes 61) 29 = .ok (.if_icmp .eq (26), 3) := by decide +kernel
theorem i_61_32 : Jvm.ClassFile.decode (pm_bytes 61) 32 = .ok (.aload_n 0, 1) := by decide +kernel
theorem i_61_33 : Jvm.ClassFile.decode (pm_bytes 61) 33 = .ok (.dup, 1) := by decide +kernel
theorem i_61_34 : Jvm.ClassFile.decode (pm_bytes 61) 34 = .ok (.getfield 29, 3) := by decide +kernel
theorem i_61_37 : Jvm.ClassFile.decode (pm_bytes 61) 37 = .ok (.iconst 1, 1) := by decide +kernel
theorem i_61_38 : Jvm.ClassFile.decode (pm_bytes 61) 38 = .ok (.isub, 1) := by decide +kernel
theorem i_61_39 : Jvm.ClassFile.decode (pm_bytes 61) 39 = .ok (.putfield 29, 3) := by decide +kernel
theorem i_61_42 : Jvm.ClassFile.decode (pm_bytes 61) 42 = .ok (.aload_n 0, 1) := by decide +kernel
theorem i_61_43 : Jvm.ClassFile.decode (pm_bytes 61) 43 = .ok (.getfield 22, 3) := by decide +kernel
theorem i_61_46 : Jvm.ClassFile.decode (pm_bytes 61) 46 = .ok (.aload_n 0, 1) := by decide +kernel
theorem i_61_47 : Jvm.ClassFile.decode (pm_bytes 61) 47 = .ok (.getfield 29, 3) := by decide +kernel
theorem i_61_50 : Jvm.ClassFile.decode (pm_bytes 61) 50 = .ok (.iaload, 1) := by decide +kernel
theorem i_61_51 : Jvm.ClassFile.decode (pm_bytes 61) 51 = .ok (.istore_n 2, 1) := by decide +kernel
theorem i_61_52 : Jvm.ClassFile.decode (pm_bytes 61) 52 = .ok (.goto (-47), 3) := by decide +kernel
theorem i_61_55 : Jvm.ClassFile.decode (pm_bytes 61) 55 = .ok (.aload_n 0, 1) := by decide +kernel
theorem i_61_56 : Jvm.ClassFile.decode (pm_bytes 61) 56 = .ok (.iload_n 2, 1) := by decide +kernel
theorem i_61_57 : Jvm.ClassFile.decode (pm_bytes 61) 57 = .ok (.invokevirtual 25, 3) := by decide +kernel
theorem i_61_60 : Jvm.ClassFile.decode (pm_bytes 61) 60 = .ok (.return_, 1) := by decide +kernel
theorem f_62_9 : (pm_own 62, 9, 5, 0) ∈ pm_fld := f5_9
theorem f_62_19 : (pm_own 62, 19, 5, 2) ∈ pm_fld := f5_19
theorem f_62_37 : (pm_own 62, 37, 5, 4) ∈ pm_fld := f5_37
theorem m_62 : pm_mL 62 = 3 := rfl
theorem r_62 : pm_ret 62 = 0 := rfl
theorem i_62_0 : Jvm.ClassFile.decode (pm_bytes 62) 0 = .ok (.iload_n 1, 1) := by decide +kernel
theorem i_62_1 : Jvm.ClassFile.decode (pm_bytes 62) 1 = .ok (.istore_n 2, 1) := by decide +kernel
theorem i_62_2 : Jvm.ClassFile.decode (pm_bytes 62) 2 = .ok (.iload_n 2, 1) := by decide +kernel
theorem i_62_3 : Jvm.ClassFile.decode (pm_bytes 62) 3 = .ok (.aload_n 0, 1) := by decide +kernel
theorem i_62_4 : Jvm.ClassFile.decode (pm_bytes 62) 4 = .ok (.getfield 37, 3) := by decide +kernel
theorem i_62_7 : Jvm.ClassFile.decode (pm_bytes 62) 7 = .ok (.if_icmp .ge (21), 3) := by decide +kernel
theorem i_62_10 : Jvm.ClassFile.decode (pm_bytes 62) 10 = .ok (.aload_n 0, 1) := by decide +kernel
theorem i_62_11 : Jvm.ClassFile.decode (pm_bytes 62) 11 = .ok (.getfield 9, 3) := by decide +kernel
theorem i_62_14 : Jvm.ClassFile.decode (pm_bytes 62) 14 = .ok (.aload_n 0, 1) := by decide +kernel
theorem i_62_15 : Jvm.ClassFile.decode (pm_bytes 62) 15 = .ok (.getfield 19, 3) := by decide +kernel
theorem i_62_18 : Jvm.ClassFile.decode (pm_bytes 62) 18 = .ok (.iload_n 2, 1) := by decide +kernel
theorem i_62_19 : Jvm.ClassFile.decode (pm_bytes 62) 19 = .ok (.iaload, 1) := by decide +kernel
theorem i_62_20 : Jvm.ClassFile.decode (pm_bytes 62) 20 = .ok (.iconst 0, 1) := by decide +kernel
theorem i_62_21 : Jvm.ClassFile.decode (pm_bytes 62) 21 = .ok (.bastore, 1) := by decide +kernel
theorem i_62_22 : Jvm.ClassFile.decode (pm_bytes 62) 22 = .ok (.iinc 2 (1), 3) := by decide +kernel
theorem i_62_25 : Jvm.ClassFile.decode (pm_bytes 62) 25 = .ok (.goto (-23), 3) := by decide +kernel
theorem i_62_28 : Jvm.ClassFile.decode (pm_bytes 62) 28 = .ok (.aload_n 0, 1) := by decide +kernel
theorem i_62_29 : Jvm.ClassFile.decode (pm_bytes 62) 29 = .ok (.iload_n 1, 1) := by decide +kernel
theorem i_62_30 : Jvm.ClassFile.decode (pm_bytes 62) 30 = .ok (.putfield 37, 3) := by decide +kernel
theorem i_62_33 : Jvm.ClassFile.decode (pm_bytes 62) 33 = .ok (.return_, 1) := by decide +kernel
