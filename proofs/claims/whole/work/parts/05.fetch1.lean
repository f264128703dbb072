/-! fetch rows of the methods 20 to 39, laid by wip/whole/gen/fetch.py -/
theorem f_20_12 : (pm_own 20, 12, 0, 0) ∈ pm_fld := f0_12
theorem f_20_19 : (pm_own 20, 19, 0, 1) ∈ pm_fld := f0_19
theorem k_20_67 : (pm_own 20, 67, 14, 1, (none : Option Nat)) ∈ pm_call ∧ pm_rank 14 < pm_rank 20 := ⟨k0_67, by decide⟩
theorem k_20_80 : (pm_own 20, 80, 15, 1, (none : Option Nat)) ∈ pm_call ∧ pm_rank 15 < pm_rank 20 := ⟨k0_80, by decide⟩
theorem k_20_133 : (pm_own 20, 133, 32, 1, (some 2 : Option Nat)) ∈ pm_call ∧ pm_rank 32 < pm_rank 20 := ⟨k0_133, by decide⟩
theorem k_20_136 : (pm_own 20, 136, 28, 1, (some 1 : Option Nat)) ∈ pm_call ∧ pm_rank 28 < pm_rank 20 := ⟨k0_136, by decide⟩
theorem k_20_139 : (pm_own 20, 139, 33, 4, (some 2 : Option Nat)) ∈ pm_call ∧ pm_rank 33 < pm_rank 20 := ⟨k0_139, by decide⟩
theorem k_20_143 : (pm_own 20, 143, 29, 2, (some 1 : Option Nat)) ∈ pm_call ∧ pm_rank 29 < pm_rank 20 := ⟨k0_143, by decide⟩
theorem k_20_146 : (pm_own 20, 146, 30, 2, (some 1 : Option Nat)) ∈ pm_call ∧ pm_rank 30 < pm_rank 20 := ⟨k0_146, by decide⟩
theorem m_20 : pm_mL 20 = 3 := rfl
theorem r_20 : pm_ret 20 = 0 := rfl
theorem i_20_0 : Jvm.ClassFile.decode (pm_bytes 20) 0 = .ok (.aload_n 0, 1) := by decide +kernel
theorem i_20_1 : Jvm.ClassFile.decode (pm_bytes 20) 1 = .ok (.getfield 19, 3) := by decide +kernel
theorem i_20_4 : Jvm.ClassFile.decode (pm_bytes 20) 4 = .ok (.invokevirtual 133, 3) := by decide +kernel
theorem i_20_7 : Jvm.ClassFile.decode (pm_bytes 20) 7 = .ok (.aload_n 0, 1) := by decide +kernel
theorem i_20_8 : Jvm.ClassFile.decode (pm_bytes 20) 8 = .ok (.getfield 12, 3) := by decide +kernel
theorem i_20_11 : Jvm.ClassFile.decode (pm_bytes 20) 11 = .ok (.invokevirtual 136, 3) := by decide +kernel
theorem i_20_14 : Jvm.ClassFile.decode (pm_bytes 20) 14 = .ok (.aload_n 0, 1) := by decide +kernel
theorem i_20_15 : Jvm.ClassFile.decode (pm_bytes 20) 15 = .ok (.getfield 19, 3) := by decide +kernel
theorem i_20_18 : Jvm.ClassFile.decode (pm_bytes 20) 18 = .ok (.iload_n 1, 1) := by decide +kernel
theorem i_20_19 : Jvm.ClassFile.decode (pm_bytes 20) 19 = .ok (.invokestatic 67, 3) := by decide +kernel
theorem i_20_22 : Jvm.ClassFile.decode (pm_bytes 20) 22 = .ok (.iload_n 2, 1) := by decide +kernel
theorem i_20_23 : Jvm.ClassFile.decode (pm_bytes 20) 23 = .ok (.invokestatic 67, 3) := by decide +kernel
theorem i_20_26 : Jvm.ClassFile.decode (pm_bytes 20) 26 = .ok (.iconst 0, 1) := by decide +kernel
theorem i_20_27 : Jvm.ClassFile.decode (pm_bytes 20) 27 = .ok (.invokevirtual 139, 3) := by decide +kernel
theorem i_20_30 : Jvm.ClassFile.decode (pm_bytes 20) 30 = .ok (.aload_n 0, 1) := by decide +kernel
theorem i_20_31 : Jvm.ClassFile.decode (pm_bytes 20) 31 = .ok (.getfield 19, 3) := by decide +kernel
theorem i_20_34 : Jvm.ClassFile.decode (pm_bytes 20) 34 = .ok (.iload_n 1, 1) := by decide +kernel
theorem i_20_35 : Jvm.ClassFile.decode (pm_bytes 20) 35 = .ok (.invokestatic 67, 3) := by decide +kernel
theorem i_20_38 : Jvm.ClassFile.decode (pm_bytes 20) 38 = .ok (.invokestatic 80, 3) := by decide +kernel
theorem i_20_41 : Jvm.ClassFile.decode (pm_bytes 20) 41 = .ok (.iload_n 2, 1) := by decide +kernel
theorem i_20_42 : Jvm.ClassFile.decode (pm_bytes 20) 42 = .ok (.invokestatic 67, 3) := by decide +kernel
theorem i_20_45 : Jvm.ClassFile.decode (pm_bytes 20) 45 = .ok (.invokestatic 80, 3) := by decide +kernel
theorem i_20_48 : Jvm.ClassFile.decode (pm_bytes 20) 48 = .ok (.iconst 0, 1) := by decide +kernel
theorem i_20_49 : Jvm.ClassFile.decode (pm_bytes 20) 49 = .ok (.invokevirtual 139, 3) := by decide +kernel
theorem i_20_52 : Jvm.ClassFile.decode (pm_bytes 20) 52 = .ok (.aload_n 0, 1) := by decide +kernel
theorem i_20_53 : Jvm.ClassFile.decode (pm_bytes 20) 53 = .ok (.getfield 12, 3) := by decide +kernel
theorem i_20_56 : Jvm.ClassFile.decode (pm_bytes 20) 56 = .ok (.iload_n 1, 1) := by decide +kernel
theorem i_20_57 : Jvm.ClassFile.decode (pm_bytes 20) 57 = .ok (.invokevirtual 143, 3) := by decide +kernel
theorem i_20_60 : Jvm.ClassFile.decode (pm_bytes 20) 60 = .ok (.aload_n 0, 1) := by decide +kernel
theorem i_20_61 : Jvm.ClassFile.decode (pm_bytes 20) 61 = .ok (.getfield 12, 3) := by decide +kernel
theorem i_20_64 : Jvm.ClassFile.decode (pm_bytes 20) 64 = .ok (.iload_n 2, 1) := by decide +kernel
theorem i_20_65 : Jvm.ClassFile.decode (pm_bytes 20) 65 = .ok (.invokevirtual 143, 3) := by decide +kernel
theorem i_20_68 : Jvm.ClassFile.decode (pm_bytes 20) 68 = .ok (.aload_n 0, 1) := by decide +kernel
theorem i_20_69 : Jvm.ClassFile.decode (pm_bytes 20) 69 = .ok (.getfield 12, 3) := by decide +kernel
theorem i_20_72 : Jvm.ClassFile.decode (pm_bytes 20) 72 = .ok (.aload_n 0, 1) := by decide +kernel
theorem i_20_73 : Jvm.ClassFile.decode (pm_bytes 20) 73 = .ok (.getfield 19, 3) := by decide +kernel
theorem i_20_76 : Jvm.ClassFile.decode (pm_bytes 20) 76 = .ok (.invokevirtual 146, 3) := by decide +kernel
theorem i_20_79 : Jvm.ClassFile.decode (pm_bytes 20) 79 = .ok (.return_, 1) := by decide +kernel
theorem f_21_28 : (pm_own 21, 28, 0, 2) ∈ pm_fld := f0_28
theorem f_21_37 : (pm_own 21, 37, 0, 3) ∈ pm_fld := f0_37
theorem f_21_123 : (pm_own 21, 123, 0, 6) ∈ pm_fld := f0_123
theorem k_21_149 : (pm_own 21, 149, 37, 1, (some 3 : Option Nat)) ∈ pm_call ∧ pm_rank 37 < pm_rank 21 := ⟨k0_149, by decide⟩
theorem k_21_152 : (pm_own 21, 152, 43, 1, (some 4 : Option Nat)) ∈ pm_call ∧ pm_rank 43 < pm_rank 21 := ⟨k0_152, by decide⟩
theorem k_21_155 : (pm_own 21, 155, 38, 1, (some 3 : Option Nat)) ∈ pm_call ∧ pm_rank 38 < pm_rank 21 := ⟨k0_155, by decide⟩
theorem m_21 : pm_mL 21 = 2 := rfl
theorem r_21 : pm_ret 21 = 2 := rfl
theorem i_21_0 : Jvm.ClassFile.decode (pm_bytes 21) 0 = .ok (.aload_n 0, 1) := by decide +kernel
theorem i_21_1 : Jvm.ClassFile.decode (pm_bytes 21) 1 = .ok (.getfield 28, 3) := by decide +kernel
theorem i_21_4 : Jvm.ClassFile.decode (pm_bytes 21) 4 = .ok (.invokevirtual 149, 3) := by decide +kernel
theorem i_21_7 : Jvm.ClassFile.decode (pm_bytes 21) 7 = .ok (.aload_n 0, 1) := by decide +kernel
theorem i_21_8 : Jvm.ClassFile.decode (pm_bytes 21) 8 = .ok (.getfield 37, 3) := by decide +kernel
theorem i_21_11 : Jvm.ClassFile.decode (pm_bytes 21) 11 = .ok (.invokevirtual 152, 3) := by decide +kernel
theorem i_21_14 : Jvm.ClassFile.decode (pm_bytes 21) 14 = .ok (.istore_n 1, 1) := by decide +kernel
theorem i_21_15 : Jvm.ClassFile.decode (pm_bytes 21) 15 = .ok (.iload_n 1, 1) := by decide +kernel
theorem i_21_16 : Jvm.ClassFile.decode (pm_bytes 21) 16 = .ok (.ifCond .ne (23), 3) := by decide +kernel
theorem i_21_19 : Jvm.ClassFile.decode (pm_bytes 21) 19 = .ok (.aload_n 0, 1) := by decide +kernel
theorem i_21_20 : Jvm.ClassFile.decode (pm_bytes 21) 20 = .ok (.getfield 28, 3) := by decide +kernel
theorem i_21_23 : Jvm.ClassFile.decode (pm_bytes 21) 23 = .ok (.invokevirtual 155, 3) := by decide +kernel
theorem i_21_26 : Jvm.ClassFile.decode (pm_bytes 21) 26 = .ok (.ifCond .ne (13), 3) := by decide +kernel
theorem i_21_29 : Jvm.ClassFile.decode (pm_bytes 21) 29 = .ok (.aload_n 0, 1) := by decide +kernel
theorem i_21_30 : Jvm.ClassFile.decode (pm_bytes 21) 30 = .ok (.dup, 1) := by decide +kernel
theorem i_21_31 : Jvm.ClassFile.decode (pm_bytes 21) 31 = .ok (.getfield 123, 3) := by decide +kernel
theorem i_21_34 : Jvm.ClassFile.decode (pm_bytes 21) 34 = .ok (.iconst 1, 1) := by decide +kernel
theorem i_21_35 : Jvm.ClassFile.decode (pm_bytes 21) 35 = .ok (.iadd, 1) := by decide +kernel
theorem i_21_36 : Jvm.ClassFile.decode (pm_bytes 21) 36 = .ok (.putfield 123, 3) := by decide +kernel
theorem i_21_39 : Jvm.ClassFile.decode (pm_bytes 21) 39 = .ok (.iload_n 1, 1) := by decide +kernel
theorem i_21_40 : Jvm.ClassFile.decode (pm_bytes 21) 40 = .ok (.ireturn, 1) := by decide +kernel
theorem f_22_12 : (pm_own 22, 12, 0, 0) ∈ pm_fld := f0_12
theorem f_22_37 : (pm_own 22, 37, 0, 3) ∈ pm_fld := f0_37
theorem f_22_45 : (pm_own 22, 45, 1, 7) ∈ pm_fld := f0_45
theorem f_22_112 : (pm_own 22, 112, 1, 5) ∈ pm_fld := f0_112
theorem f_22_115 : (pm_own 22, 115, 1, 3) ∈ pm_fld := f0_115
theorem k_22_158 : (pm_own 22, 158, 42, 2, (some 4 : Option Nat)) ∈ pm_call ∧ pm_rank 42 < pm_rank 22 := ⟨k0_158, by decide⟩
theorem m_22 : pm_mL 22 = 3 := rfl
theorem r_22 : pm_ret 22 = 0 := rfl
theorem i_22_0 : Jvm.ClassFile.decode (pm_bytes 22) 0 = .ok (.iconst 0, 1) := by decide +kernel
theorem i_22_1 : Jvm.ClassFile.decode (pm_bytes 22) 1 = .ok (.istore_n 1, 1) := by decide +kernel
theorem i_22_2 : Jvm.ClassFile.decode (pm_bytes 22) 2 = .ok (.iload_n 1, 1) := by decide +kernel
theorem i_22_3 : Jvm.ClassFile.decode (pm_bytes 22) 3 = .ok (.aload_n 0, 1) := by decide +kernel
theorem i_22_4 : Jvm.ClassFile.decode (pm_bytes 22) 4 = .ok (.getfield 12, 3) := by decide +kernel
theorem i_22_7 : Jvm.ClassFile.decode (pm_bytes 22) 7 = .ok (.getfield 45, 3) := by decide +kernel
theorem i_22_10 : Jvm.ClassFile.decode (pm_bytes 22) 10 = .ok (.if_icmp .ge (36), 3) := by decide +kernel
theorem i_22_13 : Jvm.ClassFile.decode (pm_bytes 22) 13 = .ok (.aload_n 0, 1) := by decide +kernel
theorem i_22_14 : Jvm.ClassFile.decode (pm_bytes 22) 14 = .ok (.getfield 12, 3) := by decide +kernel
theorem i_22_17 : Jvm.ClassFile.decode (pm_bytes 22) 17 = .ok (.getfield 112, 3) := by decide +kernel
theorem i_22_20 : Jvm.ClassFile.decode (pm_bytes 22) 20 = .ok (.iload_n 1, 1) := by decide +kernel
theorem i_22_21 : Jvm.ClassFile.decode (pm_bytes 22) 21 = .ok (.iaload, 1) := by decide +kernel
theorem i_22_22 : Jvm.ClassFile.decode (pm_bytes 22) 22 = .ok (.istore_n 2, 1) := by decide +kernel
theorem i_22_23 : Jvm.ClassFile.decode (pm_bytes 22) 23 = .ok (.aload_n 0, 1) := by decide +kernel
theorem i_22_24 : Jvm.ClassFile.decode (pm_bytes 22) 24 = .ok (.getfield 12, 3) := by decide +kernel
theorem i_22_27 : Jvm.ClassFile.decode (pm_bytes 22) 27 = .ok (.getfield 115, 3) := by decide +kernel
theorem i_22_30 : Jvm.ClassFile.decode (pm_bytes 22) 30 = .ok (.iload_n 2, 1) := by decide +kernel
theorem i_22_31 : Jvm.ClassFile.decode (pm_bytes 22) 31 = .ok (.aload_n 0, 1) := by decide +kernel
theorem i_22_32 : Jvm.ClassFile.decode (pm_bytes 22) 32 = .ok (.getfield 37, 3) := by decide +kernel
theorem i_22_35 : Jvm.ClassFile.decode (pm_bytes 22) 35 = .ok (.iload_n 2, 1) := by decide +kernel
theorem i_22_36 : Jvm.ClassFile.decode (pm_bytes 22) 36 = .ok (.invokevirtual 158, 3) := by decide +kernel
theorem i_22_39 : Jvm.ClassFile.decode (pm_bytes 22) 39 = .ok (.bastore, 1) := by decide +kernel
theorem i_22_40 : Jvm.ClassFile.decode (pm_bytes 22) 40 = .ok (.iinc 1 (1), 3) := by decide +kernel
theorem i_22_43 : Jvm.ClassFile.decode (pm_bytes 22) 43 = .ok (.goto (-41), 3) := by decide +kernel
theorem i_22_46 : Jvm.ClassFile.decode (pm_bytes 22) 46 = .ok (.return_, 1) := by decide +kernel
theorem f_23_41 : (pm_own 23, 41, 0, 4) ∈ pm_fld := f0_41
theorem f_23_83 : (pm_own 23, 83, 0, 5) ∈ pm_fld := f0_83
theorem m_23 : pm_mL 23 = 3 := rfl
theorem r_23 : pm_ret 23 = 0 := rfl
theorem i_23_0 : Jvm.ClassFile.decode (pm_bytes 23) 0 = .ok (.aload_n 0, 1) := by decide +kernel
theorem i_23_1 : Jvm.ClassFile.decode (pm_bytes 23) 1 = .ok (.dup, 1) := by decide +kernel
theorem i_23_2 : Jvm.ClassFile.decode (pm_bytes 23) 2 = .ok (.getfield 83, 3) := by decide +kernel
theorem i_23_5 : Jvm.ClassFile.decode (pm_bytes 23) 5 = .ok (.iconst 1, 1) := by decide +kernel
theorem i_23_6 : Jvm.ClassFile.decode (pm_bytes 23) 6 = .ok (.isub, 1) := by decide +kernel
theorem i_23_7 : Jvm.ClassFile.decode (pm_bytes 23) 7 = .ok (.putfield 83, 3) := by decide +kernel
theorem i_23_10 : Jvm.ClassFile.decode (pm_bytes 23) 10 = .ok (.iload_n 1, 1) := by decide +kernel
theorem i_23_11 : Jvm.ClassFile.decode (pm_bytes 23) 11 = .ok (.istore_n 2, 1) := by decide +kernel
theorem i_23_12 : Jvm.ClassFile.decode (pm_bytes 23) 12 = .ok (.iload_n 2, 1) := by decide +kernel
theorem i_23_13 : Jvm.ClassFile.decode (pm_bytes 23) 13 = .ok (.aload_n 0, 1) := by decide +kernel
theorem i_23_14 : Jvm.ClassFile.decode (pm_bytes 23) 14 = .ok (.getfield 83, 3) := by decide +kernel
theorem i_23_17 : Jvm.ClassFile.decode (pm_bytes 23) 17 = .ok (.if_icmp .ge (23), 3) := by decide +kernel
theorem i_23_20 : Jvm.ClassFile.decode (pm_bytes 23) 20 = .ok (.aload_n 0, 1) := by decide +kernel
theorem i_23_21 : Jvm.ClassFile.decode (pm_bytes 23) 21 = .ok (.getfield 41, 3) := by decide +kernel
theorem i_23_24 : Jvm.ClassFile.decode (pm_bytes 23) 24 = .ok (.iload_n 2, 1) := by decide +kernel
theorem i_23_25 : Jvm.ClassFile.decode (pm_bytes 23) 25 = .ok (.aload_n 0, 1) := by decide +kernel
theorem i_23_26 : Jvm.ClassFile.decode (pm_bytes 23) 26 = .ok (.getfield 41, 3) := by decide +kernel
theorem i_23_29 : Jvm.ClassFile.decode (pm_bytes 23) 29 = .ok (.iload_n 2, 1) := by decide +kernel
theorem i_23_30 : Jvm.ClassFile.decode (pm_bytes 23) 30 = .ok (.iconst 1, 1) := by decide +kernel
theorem i_23_31 : Jvm.ClassFile.decode (pm_bytes 23) 31 = .ok (.iadd, 1) := by decide +kernel
theorem i_23_32 : Jvm.ClassFile.decode (pm_bytes 23) 32 = .ok (.iaload, 1) := by decide +kernel
theorem i_23_33 : Jvm.ClassFile.decode (pm_bytes 23) 33 = .ok (.iastore, 1) := by decide +kernel
theorem i_23_34 : Jvm.ClassFile.decode (pm_bytes 23) 34 = .ok (.iinc 2 (1), 3) := by decide +kernel
theorem i_23_37 : Jvm.ClassFile.decode (pm_bytes 23) 37 = .ok (.goto (-25), 3) := by decide +kernel
theorem i_23_40 : Jvm.ClassFile.decode (pm_bytes 23) 40 = .ok (.return_, 1) := by decide +kernel
theorem f_24_28 : (pm_own 24, 28, 1, 5) ∈ pm_fld := f1_28
theorem f_24_31 : (pm_own 24, 31, 1, 6) ∈ pm_fld := f1_31
theorem f_24_35 : (pm_own 24, 35, 1, 7) ∈ pm_fld := f1_35
theorem k_24_38 : (pm_own 24, 38, 25, 4, (some 1 : Option Nat)) ∈ pm_call ∧ pm_rank 25 < pm_rank 24 := ⟨k1_38, by decide⟩
theorem m_24 : pm_mL 24 = 1 := rfl
theorem r_24 : pm_ret 24 = 1 := rfl
theorem i_24_0 : Jvm.ClassFile.decode (pm_bytes 24) 0 = .ok (.aload_n 0, 1) := by decide +kernel
theorem i_24_1 : Jvm.ClassFile.decode (pm_bytes 24) 1 = .ok (.getfield 28, 3) := by decide +kernel
theorem i_24_4 : Jvm.ClassFile.decode (pm_bytes 24) 4 = .ok (.aload_n 0, 1) := by decide +kernel
theorem i_24_5 : Jvm.ClassFile.decode (pm_bytes 24) 5 = .ok (.getfield 35, 3) := by decide +kernel
theorem i_24_8 : Jvm.ClassFile.decode (pm_bytes 24) 8 = .ok (.aload_n 0, 1) := by decide +kernel
theorem i_24_9 : Jvm.ClassFile.decode (pm_bytes 24) 9 = .ok (.getfield 31, 3) := by decide +kernel
theorem i_24_12 : Jvm.ClassFile.decode (pm_bytes 24) 12 = .ok (.iastore, 1) := by decide +kernel
theorem i_24_13 : Jvm.ClassFile.decode (pm_bytes 24) 13 = .ok (.aload_n 0, 1) := by decide +kernel
theorem i_24_14 : Jvm.ClassFile.decode (pm_bytes 24) 14 = .ok (.dup, 1) := by decide +kernel
theorem i_24_15 : Jvm.ClassFile.decode (pm_bytes 24) 15 = .ok (.getfield 35, 3) := by decide +kernel
theorem i_24_18 : Jvm.ClassFile.decode (pm_bytes 24) 18 = .ok (.iconst 1, 1) := by decide +kernel
theorem i_24_19 : Jvm.ClassFile.decode (pm_bytes 24) 19 = .ok (.iadd, 1) := by decide +kernel
theorem i_24_20 : Jvm.ClassFile.decode (pm_bytes 24) 20 = .ok (.putfield 35, 3) := by decide +kernel
theorem i_24_23 : Jvm.ClassFile.decode (pm_bytes 24) 23 = .ok (.aload_n 0, 1) := by decide +kernel
theorem i_24_24 : Jvm.ClassFile.decode (pm_bytes 24) 24 = .ok (.iconst (-1), 1) := by decide +kernel
theorem i_24_25 : Jvm.ClassFile.decode (pm_bytes 24) 25 = .ok (.iconst 0, 1) := by decide +kernel
theorem i_24_26 : Jvm.ClassFile.decode (pm_bytes 24) 26 = .ok (.iconst 0, 1) := by decide +kernel
theorem i_24_27 : Jvm.ClassFile.decode (pm_bytes 24) 27 = .ok (.invokevirtual 38, 3) := by decide +kernel
theorem i_24_30 : Jvm.ClassFile.decode (pm_bytes 24) 30 = .ok (.ireturn, 1) := by decide +kernel
theorem f_25_9 : (pm_own 25, 9, 1, 0) ∈ pm_fld := f1_9
theorem f_25_15 : (pm_own 25, 15, 1, 1) ∈ pm_fld := f1_15
theorem f_25_18 : (pm_own 25, 18, 1, 2) ∈ pm_fld := f1_18
theorem f_25_31 : (pm_own 25, 31, 1, 6) ∈ pm_fld := f1_31
theorem m_25 : pm_mL 25 = 5 := rfl
theorem r_25 : pm_ret 25 = 1 := rfl
theorem i_25_0 : Jvm.ClassFile.decode (pm_bytes 25) 0 = .ok (.aload_n 0, 1) := by decide +kernel
theorem i_25_1 : Jvm.ClassFile.decode (pm_bytes 25) 1 = .ok (.getfield 31, 3) := by decide +kernel
theorem i_25_4 : Jvm.ClassFile.decode (pm_bytes 25) 4 = .ok (.istore 4, 2) := by decide +kernel
theorem i_25_6 : Jvm.ClassFile.decode (pm_bytes 25) 6 = .ok (.aload_n 0, 1) := by decide +kernel
theorem i_25_7 : Jvm.ClassFile.decode (pm_bytes 25) 7 = .ok (.getfield 9, 3) := by decide +kernel
theorem i_25_10 : Jvm.ClassFile.decode (pm_bytes 25) 10 = .ok (.iload 4, 2) := by decide +kernel
theorem i_25_12 : Jvm.ClassFile.decode (pm_bytes 25) 12 = .ok (.iload_n 1, 1) := by decide +kernel
theorem i_25_13 : Jvm.ClassFile.decode (pm_bytes 25) 13 = .ok (.iastore, 1) := by decide +kernel
theorem i_25_14 : Jvm.ClassFile.decode (pm_bytes 25) 14 = .ok (.aload_n 0, 1) := by decide +kernel
theorem i_25_15 : Jvm.ClassFile.decode (pm_bytes 25) 15 = .ok (.getfield 15, 3) := by decide +kernel
theorem i_25_18 : Jvm.ClassFile.decode (pm_bytes 25) 18 = .ok (.iload 4, 2) := by decide +kernel
theorem i_25_20 : Jvm.ClassFile.decode (pm_bytes 25) 20 = .ok (.iload_n 2, 1) := by decide +kernel
theorem i_25_21 : Jvm.ClassFile.decode (pm_bytes 25) 21 = .ok (.iastore, 1) := by decide +kernel
theorem i_25_22 : Jvm.ClassFile.decode (pm_bytes 25) 22 = .ok (.aload_n 0, 1) := by decide +kernel
theorem i_25_23 : Jvm.ClassFile.decode (pm_bytes 25) 23 = .ok (.getfield 18, 3) := by decide +kernel
theorem i_25_26 : Jvm.ClassFile.decode (pm_bytes 25) 26 = .ok (.iload 4, 2) := by decide +kernel
theorem i_25_28 : Jvm.ClassFile.decode (pm_bytes 25) 28 = .ok (.iload_n 3, 1) := by decide +kernel
theorem i_25_29 : Jvm.ClassFile.decode (pm_bytes 25) 29 = .ok (.iastore, 1) := by decide +kernel
theorem i_25_30 : Jvm.ClassFile.decode (pm_bytes 25) 30 = .ok (.aload_n 0, 1) := by decide +kernel
theorem i_25_31 : Jvm.ClassFile.decode (pm_bytes 25) 31 = .ok (.dup, 1) := by decide +kernel
theorem i_25_32 : Jvm.ClassFile.decode (pm_bytes 25) 32 = .ok (.getfield 31, 3) := by decide +kernel
theorem i_25_35 : Jvm.ClassFile.decode (pm_bytes 25) 35 = .ok (.iconst 1, 1) := by decide +kernel
theorem i_25_36 : Jvm.ClassFile.decode (pm_bytes 25) 36 = .ok (.iadd, 1) := by decide +kernel
theorem i_25_37 : Jvm.ClassFile.decode (pm_bytes 25) 37 = .ok (.putfield 31, 3) := by decide +kernel
theorem i_25_40 : Jvm.ClassFile.decode (pm_bytes 25) 40 = .ok (.iload 4, 2) := by decide +kernel
theorem i_25_42 : Jvm.ClassFile.decode (pm_bytes 25) 42 = .ok (.ireturn, 1) := by decide +kernel
theorem f_26_9 : (pm_own 26, 9, 1, 0) ∈ pm_fld := f1_9
theorem f_26_15 : (pm_own 26, 15, 1, 1) ∈ pm_fld := f1_15
theorem f_26_18 : (pm_own 26, 18, 1, 2) ∈ pm_fld := f1_18
theorem f_26_21 : (pm_own 26, 21, 1, 3) ∈ pm_fld := f1_21
theorem k_26_42 : (pm_own 26, 42, 27, 2, (some 1 : Option Nat)) ∈ pm_call ∧ pm_rank 27 < pm_rank 26 := ⟨k1_42, by decide⟩
theorem m_26 : pm_mL 26 = 3 := rfl
theorem r_26 : pm_ret 26 = 2 := rfl
theorem i_26_0 : Jvm.ClassFile.decode (pm_bytes 26) 0 = .ok (.iconst 1, 1) := by decide +kernel
theorem i_26_1 : Jvm.ClassFile.decode (pm_bytes 26) 1 = .ok (.istore_n 2, 1) := by decide +kernel
theorem i_26_2 : Jvm.ClassFile.decode (pm_bytes 26) 2 = .ok (.iload_n 2, 1) := by decide +kernel
theorem i_26_3 : Jvm.ClassFile.decode (pm_bytes 26) 3 = .ok (.iload_n 1, 1) := by decide +kernel
theorem i_26_4 : Jvm.ClassFile.decode (pm_bytes 26) 4 = .ok (.if_icmp .gt (61), 3) := by decide +kernel
theorem i_26_7 : Jvm.ClassFile.decode (pm_bytes 26) 7 = .ok (.aload_n 0, 1) := by decide +kernel
theorem i_26_8 : Jvm.ClassFile.decode (pm_bytes 26) 8 = .ok (.getfield 9, 3) := by decide +kernel
theorem i_26_11 : Jvm.ClassFile.decode (pm_bytes 26) 11 = .ok (.iload_n 2, 1) := by decide +kernel
theorem i_26_12 : Jvm.ClassFile.decode (pm_bytes 26) 12 = .ok (.iaload, 1) := by decide +kernel
theorem i_26_13 : Jvm.ClassFile.decode (pm_bytes 26) 13 = .ok (.iconst (-1), 1) := by decide +kernel
theorem i_26_14 : Jvm.ClassFile.decode (pm_bytes 26) 14 = .ok (.if_icmp .eq (45), 3) := by decide +kernel
theorem i_26_17 : Jvm.ClassFile.decode (pm_bytes 26) 17 = .ok (.aload_n 0, 1) := by decide +kernel
theorem i_26_18 : Jvm.ClassFile.decode (pm_bytes 26) 18 = .ok (.getfield 21, 3) := by decide +kernel
theorem i_26_21 : Jvm.ClassFile.decode (pm_bytes 26) 21 = .ok (.iload_n 2, 1) := by decide +kernel
theorem i_26_22 : Jvm.ClassFile.decode (pm_bytes 26) 22 = .ok (.aload_n 0, 1) := by decide +kernel
theorem i_26_23 : Jvm.ClassFile.decode (pm_bytes 26) 23 = .ok (.aload_n 0, 1) := by decide +kernel
theorem i_26_24 : Jvm.ClassFile.decode (pm_bytes 26) 24 = .ok (.getfield 9, 3) := by decide +kernel
theorem i_26_27 : Jvm.ClassFile.decode (pm_bytes 26) 27 = .ok (.iload_n 2, 1) := by decide +kernel
theorem i_26_28 : Jvm.ClassFile.decode (pm_bytes 26) 28 = .ok (.iaload, 1) := by decide +kernel
theorem i_26_29 : Jvm.ClassFile.decode (pm_bytes 26) 29 = .ok (.invokevirtual 42, 3) := by decide +kernel
theorem i_26_32 : Jvm.ClassFile.decode (pm_bytes 26) 32 = .ok (.ifCond .eq (16), 3) := by decide +kernel
theorem i_26_35 : Jvm.ClassFile.decode (pm_bytes 26) 35 = .ok (.aload_n 0, 1) := by decide +kernel
theorem i_26_36 : Jvm.ClassFile.decode (pm_bytes 26) 36 = .ok (.aload_n 0, 1) := by decide +kernel
theorem i_26_37 : Jvm.ClassFile.decode (pm_bytes 26) 37 = .ok (.getfield 15, 3) := by decide +kernel
theorem i_26_40 : Jvm.ClassFile.decode (pm_bytes 26) 40 = .ok (.iload_n 2, 1) := by decide +kernel
theorem i_26_41 : Jvm.ClassFile.decode (pm_bytes 26) 41 = .ok (.iaload, 1) := by decide +kernel
theorem i_26_42 : Jvm.ClassFile.decode (pm_bytes 26) 42 = .ok (.invokevirtual 42, 3) := by decide +kernel
theorem i_26_45 : Jvm.ClassFile.decode (pm_bytes 26) 45 = .ok (.goto (13), 3) := by decide +kernel
theorem i_26_48 : Jvm.ClassFile.decode (pm_bytes 26) 48 = .ok (.aload_n 0, 1) := by decide +kernel
theorem i_26_49 : Jvm.ClassFile.decode (pm_bytes 26) 49 = .ok (.aload_n 0, 1) := by decide +kernel
theorem i_26_50 : Jvm.ClassFile.decode (pm_bytes 26) 50 = .ok (.getfield 18, 3) := by decide +kernel
theorem i_26_53 : Jvm.ClassFile.decode (pm_bytes 26) 53 = .ok (.iload_n 2, 1) := by decide +kernel
theorem i_26_54 : Jvm.ClassFile.decode (pm_bytes 26) 54 = .ok (.iaload, 1) := by decide +kernel
theorem i_26_55 : Jvm.ClassFile.decode (pm_bytes 26) 55 = .ok (.invokevirtual 42, 3) := by decide +kernel
theorem i_26_58 : Jvm.ClassFile.decode (pm_bytes 26) 58 = .ok (.bastore, 1) := by decide +kernel
theorem i_26_59 : Jvm.ClassFile.decode (pm_bytes 26) 59 = .ok (.iinc 2 (1), 3) := by decide +kernel
theorem i_26_62 : Jvm.ClassFile.decode (pm_bytes 26) 62 = .ok (.goto (-60), 3) := by decide +kernel
theorem i_26_65 : Jvm.ClassFile.decode (pm_bytes 26) 65 = .ok (.aload_n 0, 1) := by decide +kernel
theorem i_26_66 : Jvm.ClassFile.decode (pm_bytes 26) 66 = .ok (.getfield 21, 3) := by decide +kernel
theorem i_26_69 : Jvm.ClassFile.decode (pm_bytes 26) 69 = .ok (.iload_n 1, 1) := by decide +kernel
theorem i_26_70 : Jvm.ClassFile.decode (pm_bytes 26) 70 = .ok (.baload, 1) := by decide +kernel
theorem i_26_71 : Jvm.ClassFile.decode (pm_bytes 26) 71 = .ok (.ireturn, 1) := by decide +kernel
theorem f_27_21 : (pm_own 27, 21, 1, 3) ∈ pm_fld := f1_21
theorem k_27_46 : (pm_own 27, 46, 16, 1, (none : Option Nat)) ∈ pm_call ∧ pm_rank 16 < pm_rank 27 := ⟨k1_46, by decide⟩
theorem m_27 : pm_mL 27 = 2 := rfl
theorem r_27 : pm_ret 27 = 2 := rfl
theorem i_27_0 : Jvm.ClassFile.decode (pm_bytes 27) 0 = .ok (.aload_n 0, 1) := by decide +kernel
theorem i_27_1 : Jvm.ClassFile.decode (pm_bytes 27) 1 = .ok (.getfield 21, 3) := by decide +kernel
theorem i_27_4 : Jvm.ClassFile.decode (pm_bytes 27) 4 = .ok (.iload_n 1, 1) := by decide +kernel
theorem i_27_5 : Jvm.ClassFile.decode (pm_bytes 27) 5 = .ok (.invokestatic 46, 3) := by decide +kernel
theorem i_27_8 : Jvm.ClassFile.decode (pm_bytes 27) 8 = .ok (.baload, 1) := by decide +kernel
theorem i_27_9 : Jvm.ClassFile.decode (pm_bytes 27) 9 = .ok (.iload_n 1, 1) := by decide +kernel
theorem i_27_10 : Jvm.ClassFile.decode (pm_bytes 27) 10 = .ok (.iconst 1, 1) := by decide +kernel
theorem i_27_11 : Jvm.ClassFile.decode (pm_bytes 27) 11 = .ok (.iand, 1) := by decide +kernel
theorem i_27_12 : Jvm.ClassFile.decode (pm_bytes 27) 12 = .ok (.ifCond .ne (7), 3) := by decide +kernel
theorem i_27_15 : Jvm.ClassFile.decode (pm_bytes 27) 15 = .ok (.iconst 1, 1) := by decide +kernel
theorem i_27_16 : Jvm.ClassFile.decode (pm_bytes 27) 16 = .ok (.goto (4), 3) := by decide +kernel
theorem i_27_19 : Jvm.ClassFile.decode (pm_bytes 27) 19 = .ok (.iconst 0, 1) := by decide +kernel
theorem i_27_20 : Jvm.ClassFile.decode (pm_bytes 27) 20 = .ok (.if_icmp .ne (7), 3) := by decide +kernel
theorem i_27_23 : Jvm.ClassFile.decode (pm_bytes 27) 23 = .ok (.iconst 1, 1) := by decide +kernel
theorem i_27_24 : Jvm.ClassFile.decode (pm_bytes 27) 24 = .ok (.goto (4), 3) := by decide +kernel
theorem i_27_27 : Jvm.ClassFile.decode (pm_bytes 27) 27 = .ok (.iconst 0, 1) := by decide +kernel
theorem i_27_28 : Jvm.ClassFile.decode (pm_bytes 27) 28 = .ok (.ireturn, 1) := by decide +kernel
theorem f_28_25 : (pm_own 28, 25, 1, 4) ∈ pm_fld := f1_25
theorem f_28_31 : (pm_own 28, 31, 1, 6) ∈ pm_fld := f1_31
theorem m_28 : pm_mL 28 = 2 := rfl
theorem r_28 : pm_ret 28 = 0 := rfl
theorem i_28_0 : Jvm.ClassFile.decode (pm_bytes 28) 0 = .ok (.iconst 0, 1) := by decide +kernel
theorem i_28_1 : Jvm.ClassFile.decode (pm_bytes 28) 1 = .ok (.istore_n 1, 1) := by decide +kernel
theorem i_28_2 : Jvm.ClassFile.decode (pm_bytes 28) 2 = .ok (.iload_n 1, 1) := by decide +kernel
theorem i_28_3 : Jvm.ClassFile.decode (pm_bytes 28) 3 = .ok (.aload_n 0, 1) := by decide +kernel
theorem i_28_4 : Jvm.ClassFile.decode (pm_bytes 28) 4 = .ok (.getfield 31, 3) := by decide +kernel
theorem i_28_7 : Jvm.ClassFile.decode (pm_bytes 28) 7 = .ok (.if_icmp .ge (16), 3) := by decide +kernel
theorem i_28_10 : Jvm.ClassFile.decode (pm_bytes 28) 10 = .ok (.aload_n 0, 1) := by decide +kernel
theorem i_28_11 : Jvm.ClassFile.decode (pm_bytes 28) 11 = .ok (.getfield 25, 3) := by decide +kernel
theorem i_28_14 : Jvm.ClassFile.decode (pm_bytes 28) 14 = .ok (.iload_n 1, 1) := by decide +kernel
theorem i_28_15 : Jvm.ClassFile.decode (pm_bytes 28) 15 = .ok (.iconst 0, 1) := by decide +kernel
theorem i_28_16 : Jvm.ClassFile.decode (pm_bytes 28) 16 = .ok (.bastore, 1) := by decide +kernel
theorem i_28_17 : Jvm.ClassFile.decode (pm_bytes 28) 17 = .ok (.iinc 1 (1), 3) := by decide +kernel
theorem i_28_20 : Jvm.ClassFile.decode (pm_bytes 28) 20 = .ok (.goto (-18), 3) := by decide +kernel
theorem i_28_23 : Jvm.ClassFile.decode (pm_bytes 28) 23 = .ok (.return_, 1) := by decide +kernel
theorem f_29_25 : (pm_own 29, 25, 1, 4) ∈ pm_fld := f1_25
theorem m_29 : pm_mL 29 = 2 := rfl
theorem r_29 : pm_ret 29 = 0 := rfl
theorem i_29_0 : Jvm.ClassFile.decode (pm_bytes 29) 0 = .ok (.aload_n 0, 1) := by decide +kernel
theorem i_29_1 : Jvm.ClassFile.decode (pm_bytes 29) 1 = .ok (.getfield 25, 3) := by decide +kernel
theorem i_29_4 : Jvm.ClassFile.decode (pm_bytes 29) 4 = .ok (.iload_n 1, 1) := by decide +kernel
theorem i_29_5 : Jvm.ClassFile.decode (pm_bytes 29) 5 = .ok (.iconst 1, 1) := by decide +kernel
theorem i_29_6 : Jvm.ClassFile.decode (pm_bytes 29) 6 = .ok (.bastore, 1) := by decide +kernel
theorem i_29_7 : Jvm.ClassFile.decode (pm_bytes 29) 7 = .ok (.return_, 1) := by decide +kernel
theorem f_30_9 : (pm_own 30, 9, 1, 0) ∈ pm_fld := f1_9
theorem f_30_15 : (pm_own 30, 15, 1, 1) ∈ pm_fld := f1_15
theorem f_30_18 : (pm_own 30, 18, 1, 2) ∈ pm_fld := f1_18
theorem f_30_25 : (pm_own 30, 25, 1, 4) ∈ pm_fld := f1_25
theorem f_30_31 : (pm_own 30, 31, 1, 6) ∈ pm_fld := f1_31
theorem k_30_46 : (pm_own 30, 46, 16, 1, (none : Option Nat)) ∈ pm_call ∧ pm_rank 16 < pm_rank 30 := ⟨k1_46, by decide⟩
theorem k_30_50 : (pm_own 30, 50, 29, 2, (some 1 : Option Nat)) ∈ pm_call ∧ pm_rank 29 < pm_rank 30 := ⟨k1_50, by decide⟩
theorem k_30_54 : (pm_own 30, 54, 31, 3, (some 1 : Option Nat)) ∈ pm_call ∧ pm_rank 31 < pm_rank 30 := ⟨k1_54, by decide⟩
theorem m_30 : pm_mL 30 = 3 := rfl
theorem r_30 : pm_ret 30 = 0 := rfl
theorem i_30_0 : Jvm.ClassFile.decode (pm_bytes 30) 0 = .ok (.aload_n 0, 1) := by decide +kernel
theorem i_30_1 : Jvm.ClassFile.decode (pm_bytes 30) 1 = .ok (.getfield 31, 3) := by decide +kernel
theorem i_30_4 : Jvm.ClassFile.decode (pm_bytes 30) 4 = .ok (.iconst 1, 1) := by decide +kernel
theorem i_30_5 : Jvm.ClassFile.decode (pm_bytes 30) 5 = .ok (.isub, 1) := by decide +kernel
theorem i_30_6 : Jvm.ClassFile.decode (pm_bytes 30) 6 = .ok (.istore_n 2, 1) := by decide +kernel
theorem i_30_7 : Jvm.ClassFile.decode (pm_bytes 30) 7 = .ok (.iload_n 2, 1) := by decide +kernel
theorem i_30_8 : Jvm.ClassFile.decode (pm_bytes 30) 8 = .ok (.ifCond .le (73), 3) := by decide +kernel
theorem i_30_11 : Jvm.ClassFile.decode (pm_bytes 30) 11 = .ok (.aload_n 0, 1) := by decide +kernel
theorem i_30_12 : Jvm.ClassFile.decode (pm_bytes 30) 12 = .ok (.getfield 25, 3) := by decide +kernel
theorem i_30_15 : Jvm.ClassFile.decode (pm_bytes 30) 15 = .ok (.iload_n 2, 1) := by decide +kernel
theorem i_30_16 : Jvm.ClassFile.decode (pm_bytes 30) 16 = .ok (.baload, 1) := by decide +kernel
theorem i_30_17 : Jvm.ClassFile.decode (pm_bytes 30) 17 = .ok (.ifCond .eq (58), 3) := by decide +kernel
theorem i_30_20 : Jvm.ClassFile.decode (pm_bytes 30) 20 = .ok (.aload_n 0, 1) := by decide +kernel
theorem i_30_21 : Jvm.ClassFile.decode (pm_bytes 30) 21 = .ok (.getfield 9, 3) := by decide +kernel
theorem i_30_24 : Jvm.ClassFile.decode (pm_bytes 30) 24 = .ok (.iload_n 2, 1) := by decide +kernel
theorem i_30_25 : Jvm.ClassFile.decode (pm_bytes 30) 25 = .ok (.iaload, 1) := by decide +kernel
theorem i_30_26 : Jvm.ClassFile.decode (pm_bytes 30) 26 = .ok (.iconst (-1), 1) := by decide +kernel
theorem i_30_27 : Jvm.ClassFile.decode (pm_bytes 30) 27 = .ok (.if_icmp .eq (48), 3) := by decide +kernel
theorem i_30_30 : Jvm.ClassFile.decode (pm_bytes 30) 30 = .ok (.aload_n 0, 1) := by decide +kernel
theorem i_30_31 : Jvm.ClassFile.decode (pm_bytes 30) 31 = .ok (.aload_n 0, 1) := by decide +kernel
theorem i_30_32 : Jvm.ClassFile.decode (pm_bytes 30) 32 = .ok (.getfield 9, 3) := by decide +kernel
theorem i_30_35 : Jvm.ClassFile.decode (pm_bytes 30) 35 = .ok (.iload_n 2, 1) := by decide +kernel
theorem i_30_36 : Jvm.ClassFile.decode (pm_bytes 30) 36 = .ok (.iaload, 1) := by decide +kernel
theorem i_30_37 : Jvm.ClassFile.decode (pm_bytes 30) 37 = .ok (.invokestatic 46, 3) := by decide +kernel
theorem i_30_40 : Jvm.ClassFile.decode (pm_bytes 30) 40 = .ok (.invokevirtual 50, 3) := by decide +kernel
theorem i_30_43 : Jvm.ClassFile.decode (pm_bytes 30) 43 = .ok (.aload_n 0, 1) := by decide +kernel
theorem i_30_44 : Jvm.ClassFile.decode (pm_bytes 30) 44 = .ok (.aload_n 0, 1) := by decide +kernel
theorem i_30_45 : Jvm.ClassFile.decode (pm_bytes 30) 45 = .ok (.getfield 15, 3) := by decide +kernel
theorem i_30_48 : Jvm.ClassFile.decode (pm_bytes 30) 48 = .ok (.iload_n 2, 1) := by decide +kernel
theorem i_30_49 : Jvm.ClassFile.decode (pm_bytes 30) 49 = .ok (.iaload, 1) := by decide +kernel
theorem i_30_50 : Jvm.ClassFile.decode (pm_bytes 30) 50 = .ok (.invokestatic 46, 3) := by decide +kernel
theorem i_30_53 : Jvm.ClassFile.decode (pm_bytes 30) 53 = .ok (.invokevirtual 50, 3) := by decide +kernel
theorem i_30_56 : Jvm.ClassFile.decode (pm_bytes 30) 56 = .ok (.aload_n 0, 1) := by decide +kernel
theorem i_30_57 : Jvm.ClassFile.decode (pm_bytes 30) 57 = .ok (.aload_n 0, 1) := by decide +kernel
theorem i_30_58 : Jvm.ClassFile.decode (pm_bytes 30) 58 = .ok (.getfield 18, 3) := by decide +kernel
theorem i_30_61 : Jvm.ClassFile.decode (pm_bytes 30) 61 = .ok (.iload_n 2, 1) := by decide +kernel
theorem i_30_62 : Jvm.ClassFile.decode (pm_bytes 30) 62 = .ok (.iaload, 1) := by decide +kernel
theorem i_30_63 : Jvm.ClassFile.decode (pm_bytes 30) 63 = .ok (.invokestatic 46, 3) := by decide +kernel
theorem i_30_66 : Jvm.ClassFile.decode (pm_bytes 30) 66 = .ok (.invokevirtual 50, 3) := by decide +kernel
theorem i_30_69 : Jvm.ClassFile.decode (pm_bytes 30) 69 = .ok (.aload_n 0, 1) := by decide +kernel
theorem i_30_70 : Jvm.ClassFile.decode (pm_bytes 30) 70 = .ok (.iload_n 2, 1) := by decide +kernel
theorem i_30_71 : Jvm.ClassFile.decode (pm_bytes 30) 71 = .ok (.aload_n 1, 1) := by decide +kernel
theorem i_30_72 : Jvm.ClassFile.decode (pm_bytes 30) 72 = .ok (.invokevirtual 54, 3) := by decide +kernel
theorem i_30_75 : Jvm.ClassFile.decode (pm_bytes 30) 75 = .ok (.iinc 2 (-1), 3) := by decide +kernel
theorem i_30_78 : Jvm.ClassFile.decode (pm_bytes 30) 78 = .ok (.goto (-71), 3) := by decide +kernel
theorem i_30_81 : Jvm.ClassFile.decode (pm_bytes 30) 81 = .ok (.return_, 1) := by decide +kernel
theorem f_31_9 : (pm_own 31, 9, 1, 0) ∈ pm_fld := f1_9
theorem f_31_15 : (pm_own 31, 15, 1, 1) ∈ pm_fld := f1_15
theorem f_31_18 : (pm_own 31, 18, 1, 2) ∈ pm_fld := f1_18
theorem k_31_58 : (pm_own 31, 58, 14, 1, (none : Option Nat)) ∈ pm_call ∧ pm_rank 14 < pm_rank 31 := ⟨k1_58, by decide⟩
theorem k_31_61 : (pm_own 31, 61, 15, 1, (none : Option Nat)) ∈ pm_call ∧ pm_rank 15 < pm_rank 31 := ⟨k1_61, by decide⟩
theorem k_31_64 : (pm_own 31, 64, 33, 4, (some 2 : Option Nat)) ∈ pm_call ∧ pm_rank 33 < pm_rank 31 := ⟨k1_64, by decide⟩
theorem m_31 : pm_mL 31 = 7 := rfl
theorem r_31 : pm_ret 31 = 0 := rfl
theorem i_31_0 : Jvm.ClassFile.decode (pm_bytes 31) 0 = .ok (.iload_n 1, 1) := by decide +kernel
theorem i_31_1 : Jvm.ClassFile.decode (pm_bytes 31) 1 = .ok (.invokestatic 58, 3) := by decide +kernel
theorem i_31_4 : Jvm.ClassFile.decode (pm_bytes 31) 4 = .ok (.istore_n 3, 1) := by decide +kernel
theorem i_31_5 : Jvm.ClassFile.decode (pm_bytes 31) 5 = .ok (.aload_n 0, 1) := by decide +kernel
theorem i_31_6 : Jvm.ClassFile.decode (pm_bytes 31) 6 = .ok (.getfield 9, 3) := by decide +kernel
theorem i_31_9 : Jvm.ClassFile.decode (pm_bytes 31) 9 = .ok (.iload_n 1, 1) := by decide +kernel
theorem i_31_10 : Jvm.ClassFile.decode (pm_bytes 31) 10 = .ok (.iaload, 1) := by decide +kernel
theorem i_31_11 : Jvm.ClassFile.decode (pm_bytes 31) 11 = .ok (.istore 4, 2) := by decide +kernel
theorem i_31_13 : Jvm.ClassFile.decode (pm_bytes 31) 13 = .ok (.aload_n 0, 1) := by decide +kernel
theorem i_31_14 : Jvm.ClassFile.decode (pm_bytes 31) 14 = .ok (.getfield 15, 3) := by decide +kernel
theorem i_31_17 : Jvm.ClassFile.decode (pm_bytes 31) 17 = .ok (.iload_n 1, 1) := by decide +kernel
theorem i_31_18 : Jvm.ClassFile.decode (pm_bytes 31) 18 = .ok (.iaload, 1) := by decide +kernel
theorem i_31_19 : Jvm.ClassFile.decode (pm_bytes 31) 19 = .ok (.istore 5, 2) := by decide +kernel
theorem i_31_21 : Jvm.ClassFile.decode (pm_bytes 31) 21 = .ok (.aload_n 0, 1) := by decide +kernel
theorem i_31_22 : Jvm.ClassFile.decode (pm_bytes 31) 22 = .ok (.getfield 18, 3) := by decide +kernel
theorem i_31_25 : Jvm.ClassFile.decode (pm_bytes 31) 25 = .ok (.iload_n 1, 1) := by decide +kernel
theorem i_31_26 : Jvm.ClassFile.decode (pm_bytes 31) 26 = .ok (.iaload, 1) := by decide +kernel
theorem i_31_27 : Jvm.ClassFile.decode (pm_bytes 31) 27 = .ok (.istore 6, 2) := by decide +kernel
theorem i_31_29 : Jvm.ClassFile.decode (pm_bytes 31) 29 = .ok (.aload_n 2, 1) := by decide +kernel
theorem i_31_30 : Jvm.ClassFile.decode (pm_bytes 31) 30 = .ok (.iload 4, 2) := by decide +kernel
theorem i_31_32 : Jvm.ClassFile.decode (pm_bytes 31) 32 = .ok (.invokestatic 61, 3) := by decide +kernel
theorem i_31_35 : Jvm.ClassFile.decode (pm_bytes 31) 35 = .ok (.iload 5, 2) := by decide +kernel
theorem i_31_37 : Jvm.ClassFile.decode (pm_bytes 31) 37 = .ok (.invokestatic 61, 3) := by decide +kernel
theorem i_31_40 : Jvm.ClassFile.decode (pm_bytes 31) 40 = .ok (.iload_n 3, 1) := by decide +kernel
theorem i_31_41 : Jvm.ClassFile.decode (pm_bytes 31) 41 = .ok (.invokevirtual 64, 3) := by decide +kernel
theorem i_31_44 : Jvm.ClassFile.decode (pm_bytes 31) 44 = .ok (.aload_n 2, 1) := by decide +kernel
theorem i_31_45 : Jvm.ClassFile.decode (pm_bytes 31) 45 = .ok (.iload 4, 2) := by decide +kernel
theorem i_31_47 : Jvm.ClassFile.decode (pm_bytes 31) 47 = .ok (.invokestatic 61, 3) := by decide +kernel
theorem i_31_50 : Jvm.ClassFile.decode (pm_bytes 31) 50 = .ok (.iload 5, 2) := by decide +kernel
theorem i_31_52 : Jvm.ClassFile.decode (pm_bytes 31) 52 = .ok (.iload_n 3, 1) := by decide +kernel
theorem i_31_53 : Jvm.ClassFile.decode (pm_bytes 31) 53 = .ok (.invokestatic 61, 3) := by decide +kernel
theorem i_31_56 : Jvm.ClassFile.decode (pm_bytes 31) 56 = .ok (.invokevirtual 64, 3) := by decide +kernel
theorem i_31_59 : Jvm.ClassFile.decode (pm_bytes 31) 59 = .ok (.aload_n 2, 1) := by decide +kernel
theorem i_31_60 : Jvm.ClassFile.decode (pm_bytes 31) 60 = .ok (.iload 4, 2) := by decide +kernel
theorem i_31_62 : Jvm.ClassFile.decode (pm_bytes 31) 62 = .ok (.iload 6, 2) := by decide +kernel
theorem i_31_64 : Jvm.ClassFile.decode (pm_bytes 31) 64 = .ok (.invokestatic 61, 3) := by decide +kernel
theorem i_31_67 : Jvm.ClassFile.decode (pm_bytes 31) 67 = .ok (.iload_n 3, 1) := by decide +kernel
theorem i_31_68 : Jvm.ClassFile.decode (pm_bytes 31) 68 = .ok (.invokevirtual 64, 3) := by decide +kernel
theorem i_31_71 : Jvm.ClassFile.decode (pm_bytes 31) 71 = .ok (.aload_n 2, 1) := by decide +kernel
theorem i_31_72 : Jvm.ClassFile.decode (pm_bytes 31) 72 = .ok (.iload 4, 2) := by decide +kernel
theorem i_31_74 : Jvm.ClassFile.decode (pm_bytes 31) 74 = .ok (.iload 6, 2) := by decide +kernel
theorem i_31_76 : Jvm.ClassFile.decode (pm_bytes 31) 76 = .ok (.iload_n 3, 1) := by decide +kernel
theorem i_31_77 : Jvm.ClassFile.decode (pm_bytes 31) 77 = .ok (.invokestatic 61, 3) := by decide +kernel
theorem i_31_80 : Jvm.ClassFile.decode (pm_bytes 31) 80 = .ok (.invokevirtual 64, 3) := by decide +kernel
theorem i_31_83 : Jvm.ClassFile.decode (pm_bytes 31) 83 = .ok (.aload_n 2, 1) := by decide +kernel
theorem i_31_84 : Jvm.ClassFile.decode (pm_bytes 31) 84 = .ok (.iload 5, 2) := by decide +kernel
theorem i_31_86 : Jvm.ClassFile.decode (pm_bytes 31) 86 = .ok (.invokestatic 61, 3) := by decide +kernel
theorem i_31_89 : Jvm.ClassFile.decode (pm_bytes 31) 89 = .ok (.iload 6, 2) := by decide +kernel
theorem i_31_91 : Jvm.ClassFile.decode (pm_bytes 31) 91 = .ok (.invokestatic 61, 3) := by decide +kernel
theorem i_31_94 : Jvm.ClassFile.decode (pm_bytes 31) 94 = .ok (.iload_n 3, 1) := by decide +kernel
theorem i_31_95 : Jvm.ClassFile.decode (pm_bytes 31) 95 = .ok (.invokevirtual 64, 3) := by decide +kernel
theorem i_31_98 : Jvm.ClassFile.decode (pm_bytes 31) 98 = .ok (.aload_n 2, 1) := by decide +kernel
theorem i_31_99 : Jvm.ClassFile.decode (pm_bytes 31) 99 = .ok (.iload 5, 2) := by decide +kernel
theorem i_31_101 : Jvm.ClassFile.decode (pm_bytes 31) 101 = .ok (.iload 6, 2) := by decide +kernel
theorem i_31_103 : Jvm.ClassFile.decode (pm_bytes 31) 103 = .ok (.iload_n 3, 1) := by decide +kernel
theorem i_31_104 : Jvm.ClassFile.decode (pm_bytes 31) 104 = .ok (.invokestatic 61, 3) := by decide +kernel
theorem i_31_107 : Jvm.ClassFile.decode (pm_bytes 31) 107 = .ok (.invokevirtual 64, 3) := by decide +kernel
theorem i_31_110 : Jvm.ClassFile.decode (pm_bytes 31) 110 = .ok (.return_, 1) := by decide +kernel
theorem f_32_19 : (pm_own 32, 19, 2, 2) ∈ pm_fld := f2_19
theorem f_32_23 : (pm_own 32, 23, 2, 3) ∈ pm_fld := f2_23
theorem m_32 : pm_mL 32 = 1 := rfl
theorem r_32 : pm_ret 32 = 0 := rfl
theorem i_32_0 : Jvm.ClassFile.decode (pm_bytes 32) 0 = .ok (.aload_n 0, 1) := by decide +kernel
theorem i_32_1 : Jvm.ClassFile.decode (pm_bytes 32) 1 = .ok (.iconst 0, 1) := by decide +kernel
theorem i_32_2 : Jvm.ClassFile.decode (pm_bytes 32) 2 = .ok (.putfield 19, 3) := by decide +kernel
theorem i_32_5 : Jvm.ClassFile.decode (pm_bytes 32) 5 = .ok (.aload_n 0, 1) := by decide +kernel
theorem i_32_6 : Jvm.ClassFile.decode (pm_bytes 32) 6 = .ok (.iconst 0, 1) := by decide +kernel
theorem i_32_7 : Jvm.ClassFile.decode (pm_bytes 32) 7 = .ok (.putfield 23, 3) := by decide +kernel
theorem i_32_10 : Jvm.ClassFile.decode (pm_bytes 32) 10 = .ok (.return_, 1) := by decide +kernel
theorem k_33_26 : (pm_own 33, 26, 15, 1, (none : Option Nat)) ∈ pm_call ∧ pm_rank 15 < pm_rank 33 := ⟨k2_26, by decide⟩
theorem k_33_30 : (pm_own 33, 30, 34, 2, (some 2 : Option Nat)) ∈ pm_call ∧ pm_rank 34 < pm_rank 33 := ⟨k2_30, by decide⟩
theorem k_33_34 : (pm_own 33, 34, 35, 1, (some 2 : Option Nat)) ∈ pm_call ∧ pm_rank 35 < pm_rank 33 := ⟨k2_34, by decide⟩
theorem m_33 : pm_mL 33 = 4 := rfl
theorem r_33 : pm_ret 33 = 0 := rfl
theorem i_33_0 : Jvm.ClassFile.decode (pm_bytes 33) 0 = .ok (.iload_n 1, 1) := by decide +kernel
theorem i_33_1 : Jvm.ClassFile.decode (pm_bytes 33) 1 = .ok (.iconst 1, 1) := by decide +kernel
theorem i_33_2 : Jvm.ClassFile.decode (pm_bytes 33) 2 = .ok (.if_icmp .eq (13), 3) := by decide +kernel
theorem i_33_5 : Jvm.ClassFile.decode (pm_bytes 33) 5 = .ok (.iload_n 2, 1) := by decide +kernel
theorem i_33_6 : Jvm.ClassFile.decode (pm_bytes 33) 6 = .ok (.iconst 1, 1) := by decide +kernel
theorem i_33_7 : Jvm.ClassFile.decode (pm_bytes 33) 7 = .ok (.if_icmp .eq (8), 3) := by decide +kernel
theorem i_33_10 : Jvm.ClassFile.decode (pm_bytes 33) 10 = .ok (.iload_n 3, 1) := by decide +kernel
theorem i_33_11 : Jvm.ClassFile.decode (pm_bytes 33) 11 = .ok (.iconst 1, 1) := by decide +kernel
theorem i_33_12 : Jvm.ClassFile.decode (pm_bytes 33) 12 = .ok (.if_icmp .ne (4), 3) := by decide +kernel
theorem i_33_15 : Jvm.ClassFile.decode (pm_bytes 33) 15 = .ok (.return_, 1) := by decide +kernel
theorem i_33_16 : Jvm.ClassFile.decode (pm_bytes 33) 16 = .ok (.iload_n 1, 1) := by decide +kernel
theorem i_33_17 : Jvm.ClassFile.decode (pm_bytes 33) 17 = .ok (.iload_n 2, 1) := by decide +kernel
theorem i_33_18 : Jvm.ClassFile.decode (pm_bytes 33) 18 = .ok (.invokestatic 26, 3) := by decide +kernel
theorem i_33_21 : Jvm.ClassFile.decode (pm_bytes 33) 21 = .ok (.if_icmp .eq (19), 3) := by decide +kernel
theorem i_33_24 : Jvm.ClassFile.decode (pm_bytes 33) 24 = .ok (.iload_n 1, 1) := by decide +kernel
theorem i_33_25 : Jvm.ClassFile.decode (pm_bytes 33) 25 = .ok (.iload_n 3, 1) := by decide +kernel
theorem i_33_26 : Jvm.ClassFile.decode (pm_bytes 33) 26 = .ok (.invokestatic 26, 3) := by decide +kernel
theorem i_33_29 : Jvm.ClassFile.decode (pm_bytes 33) 29 = .ok (.if_icmp .eq (11), 3) := by decide +kernel
theorem i_33_32 : Jvm.ClassFile.decode (pm_bytes 33) 32 = .ok (.iload_n 2, 1) := by decide +kernel
theorem i_33_33 : Jvm.ClassFile.decode (pm_bytes 33) 33 = .ok (.iload_n 3, 1) := by decide +kernel
theorem i_33_34 : Jvm.ClassFile.decode (pm_bytes 33) 34 = .ok (.invokestatic 26, 3) := by decide +kernel
theorem i_33_37 : Jvm.ClassFile.decode (pm_bytes 33) 37 = .ok (.if_icmp .ne (4), 3) := by decide +kernel
theorem i_33_40 : Jvm.ClassFile.decode (pm_bytes 33) 40 = .ok (.return_, 1) := by decide +kernel
theorem i_33_41 : Jvm.ClassFile.decode (pm_bytes 33) 41 = .ok (.iload_n 1, 1) := by decide +kernel
theorem i_33_42 : Jvm.ClassFile.decode (pm_bytes 33) 42 = .ok (.ifCond .eq (8), 3) := by decide +kernel
theorem i_33_45 : Jvm.ClassFile.decode (pm_bytes 33) 45 = .ok (.aload_n 0, 1) := by decide +kernel
theorem i_33_46 : Jvm.ClassFile.decode (pm_bytes 33) 46 = .ok (.iload_n 1, 1) := by decide +kernel
theorem i_33_47 : Jvm.ClassFile.decode (pm_bytes 33) 47 = .ok (.invokevirtual 30, 3) := by decide +kernel
theorem i_33_50 : Jvm.ClassFile.decode (pm_bytes 33) 50 = .ok (.iload_n 2, 1) := by decide +kernel
theorem i_33_51 : Jvm.ClassFile.decode (pm_bytes 33) 51 = .ok (.ifCond .eq (13), 3) := by decide +kernel
theorem i_33_54 : Jvm.ClassFile.decode (pm_bytes 33) 54 = .ok (.iload_n 2, 1) := by decide +kernel
theorem i_33_55 : Jvm.ClassFile.decode (pm_bytes 33) 55 = .ok (.iload_n 1, 1) := by decide +kernel
theorem i_33_56 : Jvm.ClassFile.decode (pm_bytes 33) 56 = .ok (.if_icmp .eq (8), 3) := by decide +kernel
theorem i_33_59 : Jvm.ClassFile.decode (pm_bytes 33) 59 = .ok (.aload_n 0, 1) := by decide +kernel
theorem i_33_60 : Jvm.ClassFile.decode (pm_bytes 33) 60 = .ok (.iload_n 2, 1) := by decide +kernel
theorem i_33_61 : Jvm.ClassFile.decode (pm_bytes 33) 61 = .ok (.invokevirtual 30, 3) := by decide +kernel
theorem i_33_64 : Jvm.ClassFile.decode (pm_bytes 33) 64 = .ok (.iload_n 3, 1) := by decide +kernel
theorem i_33_65 : Jvm.ClassFile.decode (pm_bytes 33) 65 = .ok (.ifCond .eq (18), 3) := by decide +kernel
theorem i_33_68 : Jvm.ClassFile.decode (pm_bytes 33) 68 = .ok (.iload_n 3, 1) := by decide +kernel
theorem i_33_69 : Jvm.ClassFile.decode (pm_bytes 33) 69 = .ok (.iload_n 1, 1) := by decide +kernel
theorem i_33_70 : Jvm.ClassFile.decode (pm_bytes 33) 70 = .ok (.if_icmp .eq (13), 3) := by decide +kernel
theorem i_33_73 : Jvm.ClassFile.decode (pm_bytes 33) 73 = .ok (.iload_n 3, 1) := by decide +kernel
theorem i_33_74 : Jvm.ClassFile.decode (pm_bytes 33) 74 = .ok (.iload_n 2, 1) := by decide +kernel
theorem i_33_75 : Jvm.ClassFile.decode (pm_bytes 33) 75 = .ok (.if_icmp .eq (8), 3) := by decide +kernel
theorem i_33_78 : Jvm.ClassFile.decode (pm_bytes 33) 78 = .ok (.aload_n 0, 1) := by decide +kernel
theorem i_33_79 : Jvm.ClassFile.decode (pm_bytes 33) 79 = .ok (.iload_n 3, 1) := by decide +kernel
theorem i_33_80 : Jvm.ClassFile.decode (pm_bytes 33) 80 = .ok (.invokevirtual 30, 3) := by decide +kernel
theorem i_33_83 : Jvm.ClassFile.decode (pm_bytes 33) 83 = .ok (.aload_n 0, 1) := by decide +kernel
theorem i_33_84 : Jvm.ClassFile.decode (pm_bytes 33) 84 = .ok (.invokevirtual 34, 3) := by decide +kernel
theorem i_33_87 : Jvm.ClassFile.decode (pm_bytes 33) 87 = .ok (.pop, 1) := by decide +kernel
theorem i_33_88 : Jvm.ClassFile.decode (pm_bytes 33) 88 = .ok (.return_, 1) := by decide +kernel
theorem f_34_10 : (pm_own 34, 10, 2, 0) ∈ pm_fld := f2_10
theorem f_34_23 : (pm_own 34, 23, 2, 3) ∈ pm_fld := f2_23
theorem m_34 : pm_mL 34 = 2 := rfl
theorem r_34 : pm_ret 34 = 0 := rfl
theorem i_34_0 : Jvm.ClassFile.decode (pm_bytes 34) 0 = .ok (.aload_n 0, 1) := by decide +kernel
theorem i_34_1 : Jvm.ClassFile.decode (pm_bytes 34) 1 = .ok (.getfield 10, 3) := by decide +kernel
theorem i_34_4 : Jvm.ClassFile.decode (pm_bytes 34) 4 = .ok (.aload_n 0, 1) := by decide +kernel
theorem i_34_5 : Jvm.ClassFile.decode (pm_bytes 34) 5 = .ok (.getfield 23, 3) := by decide +kernel
theorem i_34_8 : Jvm.ClassFile.decode (pm_bytes 34) 8 = .ok (.iload_n 1, 1) := by decide +kernel
theorem i_34_9 : Jvm.ClassFile.decode (pm_bytes 34) 9 = .ok (.iastore, 1) := by decide +kernel
theorem i_34_10 : Jvm.ClassFile.decode (pm_bytes 34) 10 = .ok (.aload_n 0, 1) := by decide +kernel
theorem i_34_11 : Jvm.ClassFile.decode (pm_bytes 34) 11 = .ok (.dup, 1) := by decide +kernel
theorem i_34_12 : Jvm.ClassFile.decode (pm_bytes 34) 12 = .ok (.getfield 23, 3) := by decide +kernel
theorem i_34_15 : Jvm.ClassFile.decode (pm_bytes 34) 15 = .ok (.iconst 1, 1) := by decide +kernel
theorem i_34_16 : Jvm.ClassFile.decode (pm_bytes 34) 16 = .ok (.iadd, 1) := by decide +kernel
theorem i_34_17 : Jvm.ClassFile.decode (pm_bytes 34) 17 = .ok (.putfield 23, 3) := by decide +kernel
theorem i_34_20 : Jvm.ClassFile.decode (pm_bytes 34) 20 = .ok (.return_, 1) := by decide +kernel
theorem f_35_16 : (pm_own 35, 16, 2, 1) ∈ pm_fld := f2_16
theorem f_35_19 : (pm_own 35, 19, 2, 2) ∈ pm_fld := f2_19
theorem f_35_23 : (pm_own 35, 23, 2, 3) ∈ pm_fld := f2_23
theorem m_35 : pm_mL 35 = 2 := rfl
theorem r_35 : pm_ret 35 = 1 := rfl
theorem i_35_0 : Jvm.ClassFile.decode (pm_bytes 35) 0 = .ok (.aload_n 0, 1) := by decide +kernel
theorem i_35_1 : Jvm.ClassFile.decode (pm_bytes 35) 1 = .ok (.getfield 19, 3) := by decide +kernel
theorem i_35_4 : Jvm.ClassFile.decode (pm_bytes 35) 4 = .ok (.istore_n 1, 1) := by decide +kernel
theorem i_35_5 : Jvm.ClassFile.decode (pm_bytes 35) 5 = .ok (.aload_n 0, 1) := by decide +kernel
theorem i_35_6 : Jvm.ClassFile.decode (pm_bytes 35) 6 = .ok (.dup, 1) := by decide +kernel
theorem i_35_7 : Jvm.ClassFile.decode (pm_bytes 35) 7 = .ok (.getfield 19, 3) := by decide +kernel
theorem i_35_10 : Jvm.ClassFile.decode (pm_bytes 35) 10 = .ok (.iconst 1, 1) := by decide +kernel
theorem i_35_11 : Jvm.ClassFile.decode (pm_bytes 35) 11 = .ok (.iadd, 1) := by decide +kernel
theorem i_35_12 : Jvm.ClassFile.decode (pm_bytes 35) 12 = .ok (.putfield 19, 3) := by decide +kernel
theorem i_35_15 : Jvm.ClassFile.decode (pm_bytes 35) 15 = .ok (.aload_n 0, 1) := by decide +kernel
theorem i_35_16 : Jvm.ClassFile.decode (pm_bytes 35) 16 = .ok (.getfield 16, 3) := by decide +kernel
theorem i_35_19 : Jvm.ClassFile.decode (pm_bytes 35) 19 = .ok (.aload_n 0, 1) := by decide +kernel
theorem i_35_20 : Jvm.ClassFile.decode (pm_bytes 35) 20 = .ok (.getfield 19, 3) := by decide +kernel
theorem i_35_23 : Jvm.ClassFile.decode (pm_bytes 35) 23 = .ok (.aload_n 0, 1) := by decide +kernel
theorem i_35_24 : Jvm.ClassFile.decode (pm_bytes 35) 24 = .ok (.getfield 23, 3) := by decide +kernel
theorem i_35_27 : Jvm.ClassFile.decode (pm_bytes 35) 27 = .ok (.iastore, 1) := by decide +kernel
theorem i_35_28 : Jvm.ClassFile.decode (pm_bytes 35) 28 = .ok (.iload_n 1, 1) := by decide +kernel
theorem i_35_29 : Jvm.ClassFile.decode (pm_bytes 35) 29 = .ok (.ireturn, 1) := by decide +kernel
theorem f_36_16 : (pm_own 36, 16, 2, 1) ∈ pm_fld := f2_16
theorem m_36 : pm_mL 36 = 2 := rfl
theorem r_36 : pm_ret 36 = 1 := rfl
theorem i_36_0 : Jvm.ClassFile.decode (pm_bytes 36) 0 = .ok (.aload_n 0, 1) := by decide +kernel
theorem i_36_1 : Jvm.ClassFile.decode (pm_bytes 36) 1 = .ok (.getfield 16, 3) := by decide +kernel
theorem i_36_4 : Jvm.ClassFile.decode (pm_bytes 36) 4 = .ok (.iload_n 1, 1) := by decide +kernel
theorem i_36_5 : Jvm.ClassFile.decode (pm_bytes 36) 5 = .ok (.iconst 1, 1) := by decide +kernel
theorem i_36_6 : Jvm.ClassFile.decode (pm_bytes 36) 6 = .ok (.iadd, 1) := by decide +kernel
theorem i_36_7 : Jvm.ClassFile.decode (pm_bytes 36) 7 = .ok (.iaload, 1) := by decide +kernel
theorem i_36_8 : Jvm.ClassFile.decode (pm_bytes 36) 8 = .ok (.aload_n 0, 1) := by decide +kernel
theorem i_36_9 : Jvm.ClassFile.decode (pm_bytes 36) 9 = .ok (.getfield 16, 3) := by decide +kernel
theorem i_36_12 : Jvm.ClassFile.decode (pm_bytes 36) 12 = .ok (.iload_n 1, 1) := by decide +kernel
theorem i_36_13 : Jvm.ClassFile.decode (pm_bytes 36) 13 = .ok (.iaload, 1) := by decide +kernel
theorem i_36_14 : Jvm.ClassFile.decode (pm_bytes 36) 14 = .ok (.isub, 1) := by decide +kernel
theorem i_36_15 : Jvm.ClassFile.decode (pm_bytes 36) 15 = .ok (.ireturn, 1) := by decide +kernel
theorem f_37_15 : (pm_own 37, 15, 3, 0) ∈ pm_fld := f3_15
theorem f_37_19 : (pm_own 37, 19, 2, 2) ∈ pm_fld := f3_19
theorem f_37_25 : (pm_own 37, 25, 3, 3) ∈ pm_fld := f3_25
theorem f_37_28 : (pm_own 37, 28, 3, 4) ∈ pm_fld := f3_28
theorem m_37 : pm_mL 37 = 1 := rfl
theorem r_37 : pm_ret 37 = 0 := rfl
theorem i_37_0 : Jvm.ClassFile.decode (pm_bytes 37) 0 = .ok (.aload_n 0, 1) := by decide +kernel
theorem i_37_1 : Jvm.ClassFile.decode (pm_bytes 37) 1 = .ok (.aload_n 0, 1) := by decide +kernel
theorem i_37_2 : Jvm.ClassFile.decode (pm_bytes 37) 2 = .ok (.getfield 15, 3) := by decide +kernel
theorem i_37_5 : Jvm.ClassFile.decode (pm_bytes 37) 5 = .ok (.getfield 19, 3) := by decide +kernel
theorem i_37_8 : Jvm.ClassFile.decode (pm_bytes 37) 8 = .ok (.putfield 25, 3) := by decide +kernel
theorem i_37_11 : Jvm.ClassFile.decode (pm_bytes 37) 11 = .ok (.aload_n 0, 1) := by decide +kernel
theorem i_37_12 : Jvm.ClassFile.decode (pm_bytes 37) 12 = .ok (.iconst 0, 1) := by decide +kernel
theorem i_37_13 : Jvm.ClassFile.decode (pm_bytes 37) 13 = .ok (.putfield 28, 3) := by decide +kernel
theorem i_37_16 : Jvm.ClassFile.decode (pm_bytes 37) 16 = .ok (.return_, 1) := by decide +kernel
theorem f_38_28 : (pm_own 38, 28, 3, 4) ∈ pm_fld := f3_28
theorem m_38 : pm_mL 38 = 1 := rfl
theorem r_38 : pm_ret 38 = 2 := rfl
theorem i_38_0 : Jvm.ClassFile.decode (pm_bytes 38) 0 = .ok (.aload_n 0, 1) := by decide +kernel
theorem i_38_1 : Jvm.ClassFile.decode (pm_bytes 38) 1 = .ok (.getfield 28, 3) := by decide +kernel
theorem i_38_4 : Jvm.ClassFile.decode (pm_bytes 38) 4 = .ok (.ireturn, 1) := by decide +kernel
theorem f_39_15 : (pm_own 39, 15, 3, 0) ∈ pm_fld := f3_15
theorem f_39_25 : (pm_own 39, 25, 3, 3) ∈ pm_fld := f3_25
theorem f_39_28 : (pm_own 39, 28, 3, 4) ∈ pm_fld := f3_28
theorem k_39_32 : (pm_own 39, 32, 40, 4, (some 3 : Option Nat)) ∈ pm_call ∧ pm_rank 40 < pm_rank 39 := ⟨k3_32, by decide⟩
theorem k_39_36 : (pm_own 39, 36, 36, 2, (some 2 : Option Nat)) ∈ pm_call ∧ pm_rank 36 < pm_rank 39 := ⟨k3_36, by decide⟩
theorem m_39 : pm_mL 39 = 4 := rfl
theorem r_39 : pm_ret 39 = 0 := rfl
theorem i_39_0 : Jvm.ClassFile.decode (pm_bytes 39) 0 = .ok (.iload_n 1, 1) := by decide +kernel
theorem i_39_1 : Jvm.ClassFile.decode (pm_bytes 39) 1 = .ok (.aload_n 0, 1) := by decide +kernel
theorem i_39_2 : Jvm.ClassFile.decode (pm_bytes 39) 2 = .ok (.getfield 25, 3) := by decide +kernel
theorem i_39_5 : Jvm.ClassFile.decode (pm_bytes 39) 5 = .ok (.if_icmp .ne (50), 3) := by decide +kernel
theorem i_39_8 : Jvm.ClassFile.decode (pm_bytes 39) 8 = .ok (.aload_n 0, 1) := by decide +kernel
theorem i_39_9 : Jvm.ClassFile.decode (pm_bytes 39) 9 = .ok (.iload_n 1, 1) := by decide +kernel
theorem i_39_10 : Jvm.ClassFile.decode (pm_bytes 39) 10 = .ok (.aload_n 2, 1) := by decide +kernel
theorem i_39_11 : Jvm.ClassFile.decode (pm_bytes 39) 11 = .ok (.iload_n 3, 1) := by decide +kernel
theorem i_39_12 : Jvm.ClassFile.decode (pm_bytes 39) 12 = .ok (.invokevirtual 32, 3) := by decide +kernel
theorem i_39_15 : Jvm.ClassFile.decode (pm_bytes 39) 15 = .ok (.ifCond .eq (40), 3) := by decide +kernel
theorem i_39_18 : Jvm.ClassFile.decode (pm_bytes 39) 18 = .ok (.aload_n 0, 1) := by decide +kernel
theorem i_39_19 : Jvm.ClassFile.decode (pm_bytes 39) 19 = .ok (.dup, 1) := by decide +kernel
theorem i_39_20 : Jvm.ClassFile.decode (pm_bytes 39) 20 = .ok (.getfield 25, 3) := by decide +kernel
theorem i_39_23 : Jvm.ClassFile.decode (pm_bytes 39) 23 = .ok (.iconst 1, 1) := by decide +kernel
theorem i_39_24 : Jvm.ClassFile.decode (pm_bytes 39) 24 = .ok (.iadd, 1) := by decide +kernel
theorem i_39_25 : Jvm.ClassFile.decode (pm_bytes 39) 25 = .ok (.putfield 25, 3) := by decide +kernel
theorem i_39_28 : Jvm.ClassFile.decode (pm_bytes 39) 28 = .ok (.aload_n 0, 1) := by decide +kernel
theorem i_39_29 : Jvm.ClassFile.decode (pm_bytes 39) 29 = .ok (.aload_n 0, 1) := by decide +kernel
theorem i_39_30 : Jvm.ClassFile.decode (pm_bytes 39) 30 = .ok (.getfield 28, 3) := by decide +kernel
theorem i_39_33 : Jvm.ClassFile.decode (pm_bytes 39) 33 = .ok (.ifCond .ne (14), 3) := by decide +kernel
theorem i_39_36 : Jvm.ClassFile.decode (pm_bytes 39) 36 = .ok (.aload_n 0, 1) := by decide +kernel
theorem i_39_37 : Jvm.ClassFile.decode (pm_bytes 39) 37 = .ok (.getfield 15, 3) := by decide +kernel
theorem i_39_40 : Jvm.ClassFile.decode (pm_bytes 39) 40 = .ok (.iload_n 1, 1) := by decide +kernel
theorem i_39_41 : Jvm.ClassFile.decode (pm_bytes 39) 41 = .ok (.invokevirtual 36, 3) := by decide +kernel
theorem i_39_44 : Jvm.ClassFile.decode (pm_bytes 39) 44 = .ok (.ifCond .ne (7), 3) := by decide +kernel
theorem i_39_47 : Jvm.ClassFile.decode (pm_bytes 39) 47 = .ok (.iconst 1, 1) := by decide +kernel
theorem i_39_48 : Jvm.ClassFile.decode (pm_bytes 39) 48 = .ok (.goto (4), 3) := by decide +kernel
theorem i_39_51 : Jvm.ClassFile.decode (pm_bytes 39) 51 = .ok (.iconst 0, 1) := by decide +kernel
theorem i_39_52 : Jvm.ClassFile.decode (pm_bytes 39) 52 = .ok (.putfield 28, 3) := by decide +kernel
theorem i_39_55 : Jvm.ClassFile.decode (pm_bytes 39) 55 = .ok (.return_, 1) := by decide +kernel
