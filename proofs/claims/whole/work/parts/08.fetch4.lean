/-! fetch rows of the methods 63 to 79, laid by wip/whole/gen/fetch.py -/
theorem f_63_7 : (pm_own 63, 7, 6, 0) ∈ pm_fld := f6_7
theorem m_63 : pm_mL 63 = 1 := rfl
theorem r_63 : pm_ret 63 = 1 := rfl
theorem i_63_0 : Jvm.ClassFile.decode (pm_bytes 63) 0 = .ok (.aload_n 0, 1) := by decide +kernel
theorem i_63_1 : Jvm.ClassFile.decode (pm_bytes 63) 1 = .ok (.getfield 7, 3) := by decide +kernel
theorem i_63_4 : Jvm.ClassFile.decode (pm_bytes 63) 4 = .ok (.ireturn, 1) := by decide +kernel
theorem f_64_7 : (pm_own 64, 7, 6, 0) ∈ pm_fld := f6_7
theorem m_64 : pm_mL 64 = 3 := rfl
theorem r_64 : pm_ret 64 = 2 := rfl
theorem i_64_0 : Jvm.ClassFile.decode (pm_bytes 64) 0 = .ok (.iload_n 2, 1) := by decide +kernel
theorem i_64_1 : Jvm.ClassFile.decode (pm_bytes 64) 1 = .ok (.ifCond .eq (8), 3) := by decide +kernel
theorem i_64_4 : Jvm.ClassFile.decode (pm_bytes 64) 4 = .ok (.aload_n 0, 1) := by decide +kernel
theorem i_64_5 : Jvm.ClassFile.decode (pm_bytes 64) 5 = .ok (.iload_n 1, 1) := by decide +kernel
theorem i_64_6 : Jvm.ClassFile.decode (pm_bytes 64) 6 = .ok (.putfield 7, 3) := by decide +kernel
theorem i_64_9 : Jvm.ClassFile.decode (pm_bytes 64) 9 = .ok (.iload_n 2, 1) := by decide +kernel
theorem i_64_10 : Jvm.ClassFile.decode (pm_bytes 64) 10 = .ok (.ireturn, 1) := by decide +kernel
theorem f_65_13 : (pm_own 65, 13, 6, 1) ∈ pm_fld := f6_13
theorem m_65 : pm_mL 65 = 2 := rfl
theorem r_65 : pm_ret 65 = 2 := rfl
theorem i_65_0 : Jvm.ClassFile.decode (pm_bytes 65) 0 = .ok (.iload_n 1, 1) := by decide +kernel
theorem i_65_1 : Jvm.ClassFile.decode (pm_bytes 65) 1 = .ok (.ifCond .lt (11), 3) := by decide +kernel
theorem i_65_4 : Jvm.ClassFile.decode (pm_bytes 65) 4 = .ok (.iload_n 1, 1) := by decide +kernel
theorem i_65_5 : Jvm.ClassFile.decode (pm_bytes 65) 5 = .ok (.aload_n 0, 1) := by decide +kernel
theorem i_65_6 : Jvm.ClassFile.decode (pm_bytes 65) 6 = .ok (.getfield 13, 3) := by decide +kernel
theorem i_65_9 : Jvm.ClassFile.decode (pm_bytes 65) 9 = .ok (.if_icmp .lt (7), 3) := by decide +kernel
theorem i_65_12 : Jvm.ClassFile.decode (pm_bytes 65) 12 = .ok (.iconst 1, 1) := by decide +kernel
theorem i_65_13 : Jvm.ClassFile.decode (pm_bytes 65) 13 = .ok (.goto (4), 3) := by decide +kernel
theorem i_65_16 : Jvm.ClassFile.decode (pm_bytes 65) 16 = .ok (.iconst 0, 1) := by decide +kernel
theorem i_65_17 : Jvm.ClassFile.decode (pm_bytes 65) 17 = .ok (.ireturn, 1) := by decide +kernel
theorem f_66_13 : (pm_own 66, 13, 6, 1) ∈ pm_fld := f6_13
theorem f_66_22 : (pm_own 66, 22, 6, 4) ∈ pm_fld := f6_22
theorem f_66_26 : (pm_own 66, 26, 6, 5) ∈ pm_fld := f6_26
theorem f_66_29 : (pm_own 66, 29, 6, 6) ∈ pm_fld := f6_29
theorem f_66_32 : (pm_own 66, 32, 6, 7) ∈ pm_fld := f6_32
theorem m_66 : pm_mL 66 = 5 := rfl
theorem r_66 : pm_ret 66 = 1 := rfl
theorem i_66_0 : Jvm.ClassFile.decode (pm_bytes 66) 0 = .ok (.aload_n 0, 1) := by decide +kernel
theorem i_66_1 : Jvm.ClassFile.decode (pm_bytes 66) 1 = .ok (.getfield 22, 3) := by decide +kernel
theorem i_66_4 : Jvm.ClassFile.decode (pm_bytes 66) 4 = .ok (.aload_n 0, 1) := by decide +kernel
theorem i_66_5 : Jvm.ClassFile.decode (pm_bytes 66) 5 = .ok (.getfield 13, 3) := by decide +kernel
theorem i_66_8 : Jvm.ClassFile.decode (pm_bytes 66) 8 = .ok (.iload_n 1, 1) := by decide +kernel
theorem i_66_9 : Jvm.ClassFile.decode (pm_bytes 66) 9 = .ok (.iastore, 1) := by decide +kernel
theorem i_66_10 : Jvm.ClassFile.decode (pm_bytes 66) 10 = .ok (.aload_n 0, 1) := by decide +kernel
theorem i_66_11 : Jvm.ClassFile.decode (pm_bytes 66) 11 = .ok (.getfield 26, 3) := by decide +kernel
theorem i_66_14 : Jvm.ClassFile.decode (pm_bytes 66) 14 = .ok (.aload_n 0, 1) := by decide +kernel
theorem i_66_15 : Jvm.ClassFile.decode (pm_bytes 66) 15 = .ok (.getfield 13, 3) := by decide +kernel
theorem i_66_18 : Jvm.ClassFile.decode (pm_bytes 66) 18 = .ok (.iload_n 2, 1) := by decide +kernel
theorem i_66_19 : Jvm.ClassFile.decode (pm_bytes 66) 19 = .ok (.iastore, 1) := by decide +kernel
theorem i_66_20 : Jvm.ClassFile.decode (pm_bytes 66) 20 = .ok (.aload_n 0, 1) := by decide +kernel
theorem i_66_21 : Jvm.ClassFile.decode (pm_bytes 66) 21 = .ok (.getfield 29, 3) := by decide +kernel
theorem i_66_24 : Jvm.ClassFile.decode (pm_bytes 66) 24 = .ok (.aload_n 0, 1) := by decide +kernel
theorem i_66_25 : Jvm.ClassFile.decode (pm_bytes 66) 25 = .ok (.getfield 13, 3) := by decide +kernel
theorem i_66_28 : Jvm.ClassFile.decode (pm_bytes 66) 28 = .ok (.iload_n 3, 1) := by decide +kernel
theorem i_66_29 : Jvm.ClassFile.decode (pm_bytes 66) 29 = .ok (.iastore, 1) := by decide +kernel
theorem i_66_30 : Jvm.ClassFile.decode (pm_bytes 66) 30 = .ok (.aload_n 0, 1) := by decide +kernel
theorem i_66_31 : Jvm.ClassFile.decode (pm_bytes 66) 31 = .ok (.getfield 32, 3) := by decide +kernel
theorem i_66_34 : Jvm.ClassFile.decode (pm_bytes 66) 34 = .ok (.aload_n 0, 1) := by decide +kernel
theorem i_66_35 : Jvm.ClassFile.decode (pm_bytes 66) 35 = .ok (.getfield 13, 3) := by decide +kernel
theorem i_66_38 : Jvm.ClassFile.decode (pm_bytes 66) 38 = .ok (.iload 4, 2) := by decide +kernel
theorem i_66_40 : Jvm.ClassFile.decode (pm_bytes 66) 40 = .ok (.iastore, 1) := by decide +kernel
theorem i_66_41 : Jvm.ClassFile.decode (pm_bytes 66) 41 = .ok (.aload_n 0, 1) := by decide +kernel
theorem i_66_42 : Jvm.ClassFile.decode (pm_bytes 66) 42 = .ok (.dup, 1) := by decide +kernel
theorem i_66_43 : Jvm.ClassFile.decode (pm_bytes 66) 43 = .ok (.getfield 13, 3) := by decide +kernel
theorem i_66_46 : Jvm.ClassFile.decode (pm_bytes 66) 46 = .ok (.dup_x1, 1) := by decide +kernel
theorem i_66_47 : Jvm.ClassFile.decode (pm_bytes 66) 47 = .ok (.iconst 1, 1) := by decide +kernel
theorem i_66_48 : Jvm.ClassFile.decode (pm_bytes 66) 48 = .ok (.iadd, 1) := by decide +kernel
theorem i_66_49 : Jvm.ClassFile.decode (pm_bytes 66) 49 = .ok (.putfield 13, 3) := by decide +kernel
theorem i_66_52 : Jvm.ClassFile.decode (pm_bytes 66) 52 = .ok (.ireturn, 1) := by decide +kernel
theorem f_67_7 : (pm_own 67, 7, 6, 0) ∈ pm_fld := f6_7
theorem f_67_13 : (pm_own 67, 13, 6, 1) ∈ pm_fld := f6_13
theorem f_67_16 : (pm_own 67, 16, 6, 2) ∈ pm_fld := f6_16
theorem f_67_38 : (pm_own 67, 38, 6, 9) ∈ pm_fld := f6_38
theorem k_67_51 : (pm_own 67, 51, 64, 3, (some 6 : Option Nat)) ∈ pm_call ∧ pm_rank 64 < pm_rank 67 := ⟨k6_51, by decide⟩
theorem k_67_55 : (pm_own 67, 55, 66, 5, (some 6 : Option Nat)) ∈ pm_call ∧ pm_rank 66 < pm_rank 67 := ⟨k6_55, by decide⟩
theorem m_67 : pm_mL 67 = 1 := rfl
theorem r_67 : pm_ret 67 = 1 := rfl
theorem i_67_0 : Jvm.ClassFile.decode (pm_bytes 67) 0 = .ok (.aload_n 0, 1) := by decide +kernel
theorem i_67_1 : Jvm.ClassFile.decode (pm_bytes 67) 1 = .ok (.iconst 0, 1) := by decide +kernel
theorem i_67_2 : Jvm.ClassFile.decode (pm_bytes 67) 2 = .ok (.putfield 7, 3) := by decide +kernel
theorem i_67_5 : Jvm.ClassFile.decode (pm_bytes 67) 5 = .ok (.aload_n 0, 1) := by decide +kernel
theorem i_67_6 : Jvm.ClassFile.decode (pm_bytes 67) 6 = .ok (.iconst 1, 1) := by decide +kernel
theorem i_67_7 : Jvm.ClassFile.decode (pm_bytes 67) 7 = .ok (.aload_n 0, 1) := by decide +kernel
theorem i_67_8 : Jvm.ClassFile.decode (pm_bytes 67) 8 = .ok (.getfield 16, 3) := by decide +kernel
theorem i_67_11 : Jvm.ClassFile.decode (pm_bytes 67) 11 = .ok (.bipush (12), 2) := by decide +kernel
theorem i_67_13 : Jvm.ClassFile.decode (pm_bytes 67) 13 = .ok (.if_icmp .eq (13), 3) := by decide +kernel
theorem i_67_16 : Jvm.ClassFile.decode (pm_bytes 67) 16 = .ok (.aload_n 0, 1) := by decide +kernel
theorem i_67_17 : Jvm.ClassFile.decode (pm_bytes 67) 17 = .ok (.getfield 13, 3) := by decide +kernel
theorem i_67_20 : Jvm.ClassFile.decode (pm_bytes 67) 20 = .ok (.sipush (2000), 3) := by decide +kernel
theorem i_67_23 : Jvm.ClassFile.decode (pm_bytes 67) 23 = .ok (.if_icmp .ne (7), 3) := by decide +kernel
theorem i_67_26 : Jvm.ClassFile.decode (pm_bytes 67) 26 = .ok (.iconst 1, 1) := by decide +kernel
theorem i_67_27 : Jvm.ClassFile.decode (pm_bytes 67) 27 = .ok (.goto (4), 3) := by decide +kernel
theorem i_67_30 : Jvm.ClassFile.decode (pm_bytes 67) 30 = .ok (.iconst 0, 1) := by decide +kernel
theorem i_67_31 : Jvm.ClassFile.decode (pm_bytes 67) 31 = .ok (.invokevirtual 51, 3) := by decide +kernel
theorem i_67_34 : Jvm.ClassFile.decode (pm_bytes 67) 34 = .ok (.ifCond .eq (5), 3) := by decide +kernel
theorem i_67_37 : Jvm.ClassFile.decode (pm_bytes 67) 37 = .ok (.iconst 0, 1) := by decide +kernel
theorem i_67_38 : Jvm.ClassFile.decode (pm_bytes 67) 38 = .ok (.ireturn, 1) := by decide +kernel
theorem i_67_39 : Jvm.ClassFile.decode (pm_bytes 67) 39 = .ok (.aload_n 0, 1) := by decide +kernel
theorem i_67_40 : Jvm.ClassFile.decode (pm_bytes 67) 40 = .ok (.getfield 38, 3) := by decide +kernel
theorem i_67_43 : Jvm.ClassFile.decode (pm_bytes 67) 43 = .ok (.aload_n 0, 1) := by decide +kernel
theorem i_67_44 : Jvm.ClassFile.decode (pm_bytes 67) 44 = .ok (.getfield 16, 3) := by decide +kernel
theorem i_67_47 : Jvm.ClassFile.decode (pm_bytes 67) 47 = .ok (.iconst 0, 1) := by decide +kernel
theorem i_67_48 : Jvm.ClassFile.decode (pm_bytes 67) 48 = .ok (.bastore, 1) := by decide +kernel
theorem i_67_49 : Jvm.ClassFile.decode (pm_bytes 67) 49 = .ok (.aload_n 0, 1) := by decide +kernel
theorem i_67_50 : Jvm.ClassFile.decode (pm_bytes 67) 50 = .ok (.iconst 1, 1) := by decide +kernel
theorem i_67_51 : Jvm.ClassFile.decode (pm_bytes 67) 51 = .ok (.aload_n 0, 1) := by decide +kernel
theorem i_67_52 : Jvm.ClassFile.decode (pm_bytes 67) 52 = .ok (.dup, 1) := by decide +kernel
theorem i_67_53 : Jvm.ClassFile.decode (pm_bytes 67) 53 = .ok (.getfield 16, 3) := by decide +kernel
theorem i_67_56 : Jvm.ClassFile.decode (pm_bytes 67) 56 = .ok (.dup_x1, 1) := by decide +kernel
theorem i_67_57 : Jvm.ClassFile.decode (pm_bytes 67) 57 = .ok (.iconst 1, 1) := by decide +kernel
theorem i_67_58 : Jvm.ClassFile.decode (pm_bytes 67) 58 = .ok (.iadd, 1) := by decide +kernel
theorem i_67_59 : Jvm.ClassFile.decode (pm_bytes 67) 59 = .ok (.putfield 16, 3) := by decide +kernel
theorem i_67_62 : Jvm.ClassFile.decode (pm_bytes 67) 62 = .ok (.iconst 0, 1) := by decide +kernel
theorem i_67_63 : Jvm.ClassFile.decode (pm_bytes 67) 63 = .ok (.iconst 0, 1) := by decide +kernel
theorem i_67_64 : Jvm.ClassFile.decode (pm_bytes 67) 64 = .ok (.invokevirtual 55, 3) := by decide +kernel
theorem i_67_67 : Jvm.ClassFile.decode (pm_bytes 67) 67 = .ok (.ireturn, 1) := by decide +kernel
theorem f_68_7 : (pm_own 68, 7, 6, 0) ∈ pm_fld := f6_7
theorem f_68_13 : (pm_own 68, 13, 6, 1) ∈ pm_fld := f6_13
theorem k_68_51 : (pm_own 68, 51, 64, 3, (some 6 : Option Nat)) ∈ pm_call ∧ pm_rank 64 < pm_rank 68 := ⟨k6_51, by decide⟩
theorem k_68_55 : (pm_own 68, 55, 66, 5, (some 6 : Option Nat)) ∈ pm_call ∧ pm_rank 66 < pm_rank 68 := ⟨k6_55, by decide⟩
theorem k_68_59 : (pm_own 68, 59, 65, 2, (some 6 : Option Nat)) ∈ pm_call ∧ pm_rank 65 < pm_rank 68 := ⟨k6_59, by decide⟩
theorem m_68 : pm_mL 68 = 2 := rfl
theorem r_68 : pm_ret 68 = 1 := rfl
theorem i_68_0 : Jvm.ClassFile.decode (pm_bytes 68) 0 = .ok (.aload_n 0, 1) := by decide +kernel
theorem i_68_1 : Jvm.ClassFile.decode (pm_bytes 68) 1 = .ok (.iconst 0, 1) := by decide +kernel
theorem i_68_2 : Jvm.ClassFile.decode (pm_bytes 68) 2 = .ok (.putfield 7, 3) := by decide +kernel
theorem i_68_5 : Jvm.ClassFile.decode (pm_bytes 68) 5 = .ok (.aload_n 0, 1) := by decide +kernel
theorem i_68_6 : Jvm.ClassFile.decode (pm_bytes 68) 6 = .ok (.iconst 1, 1) := by decide +kernel
theorem i_68_7 : Jvm.ClassFile.decode (pm_bytes 68) 7 = .ok (.aload_n 0, 1) := by decide +kernel
theorem i_68_8 : Jvm.ClassFile.decode (pm_bytes 68) 8 = .ok (.iload_n 1, 1) := by decide +kernel
theorem i_68_9 : Jvm.ClassFile.decode (pm_bytes 68) 9 = .ok (.invokevirtual 59, 3) := by decide +kernel
theorem i_68_12 : Jvm.ClassFile.decode (pm_bytes 68) 12 = .ok (.invokevirtual 51, 3) := by decide +kernel
theorem i_68_15 : Jvm.ClassFile.decode (pm_bytes 68) 15 = .ok (.ifCond .ne (26), 3) := by decide +kernel
theorem i_68_18 : Jvm.ClassFile.decode (pm_bytes 68) 18 = .ok (.aload_n 0, 1) := by decide +kernel
theorem i_68_19 : Jvm.ClassFile.decode (pm_bytes 68) 19 = .ok (.iconst 2, 1) := by decide +kernel
theorem i_68_20 : Jvm.ClassFile.decode (pm_bytes 68) 20 = .ok (.aload_n 0, 1) := by decide +kernel
theorem i_68_21 : Jvm.ClassFile.decode (pm_bytes 68) 21 = .ok (.getfield 13, 3) := by decide +kernel
theorem i_68_24 : Jvm.ClassFile.decode (pm_bytes 68) 24 = .ok (.sipush (2000), 3) := by decide +kernel
theorem i_68_27 : Jvm.ClassFile.decode (pm_bytes 68) 27 = .ok (.if_icmp .ne (7), 3) := by decide +kernel
theorem i_68_30 : Jvm.ClassFile.decode (pm_bytes 68) 30 = .ok (.iconst 1, 1) := by decide +kernel
theorem i_68_31 : Jvm.ClassFile.decode (pm_bytes 68) 31 = .ok (.goto (4), 3) := by decide +kernel
theorem i_68_34 : Jvm.ClassFile.decode (pm_bytes 68) 34 = .ok (.iconst 0, 1) := by decide +kernel
theorem i_68_35 : Jvm.ClassFile.decode (pm_bytes 68) 35 = .ok (.invokevirtual 51, 3) := by decide +kernel
theorem i_68_38 : Jvm.ClassFile.decode (pm_bytes 68) 38 = .ok (.ifCond .eq (5), 3) := by decide +kernel
theorem i_68_41 : Jvm.ClassFile.decode (pm_bytes 68) 41 = .ok (.iconst 0, 1) := by decide +kernel
theorem i_68_42 : Jvm.ClassFile.decode (pm_bytes 68) 42 = .ok (.ireturn, 1) := by decide +kernel
theorem i_68_43 : Jvm.ClassFile.decode (pm_bytes 68) 43 = .ok (.aload_n 0, 1) := by decide +kernel
theorem i_68_44 : Jvm.ClassFile.decode (pm_bytes 68) 44 = .ok (.iconst 2, 1) := by decide +kernel
theorem i_68_45 : Jvm.ClassFile.decode (pm_bytes 68) 45 = .ok (.iload_n 1, 1) := by decide +kernel
theorem i_68_46 : Jvm.ClassFile.decode (pm_bytes 68) 46 = .ok (.iconst 0, 1) := by decide +kernel
theorem i_68_47 : Jvm.ClassFile.decode (pm_bytes 68) 47 = .ok (.iconst 0, 1) := by decide +kernel
theorem i_68_48 : Jvm.ClassFile.decode (pm_bytes 68) 48 = .ok (.invokevirtual 55, 3) := by decide +kernel
theorem i_68_51 : Jvm.ClassFile.decode (pm_bytes 68) 51 = .ok (.ireturn, 1) := by decide +kernel
theorem f_69_7 : (pm_own 69, 7, 6, 0) ∈ pm_fld := f6_7
theorem f_69_13 : (pm_own 69, 13, 6, 1) ∈ pm_fld := f6_13
theorem k_69_51 : (pm_own 69, 51, 64, 3, (some 6 : Option Nat)) ∈ pm_call ∧ pm_rank 64 < pm_rank 69 := ⟨k6_51, by decide⟩
theorem k_69_55 : (pm_own 69, 55, 66, 5, (some 6 : Option Nat)) ∈ pm_call ∧ pm_rank 66 < pm_rank 69 := ⟨k6_55, by decide⟩
theorem k_69_59 : (pm_own 69, 59, 65, 2, (some 6 : Option Nat)) ∈ pm_call ∧ pm_rank 65 < pm_rank 69 := ⟨k6_59, by decide⟩
theorem m_69 : pm_mL 69 = 4 := rfl
theorem r_69 : pm_ret 69 = 1 := rfl
theorem i_69_0 : Jvm.ClassFile.decode (pm_bytes 69) 0 = .ok (.aload_n 0, 1) := by decide +kernel
theorem i_69_1 : Jvm.ClassFile.decode (pm_bytes 69) 1 = .ok (.iconst 0, 1) := by decide +kernel
theorem i_69_2 : Jvm.ClassFile.decode (pm_bytes 69) 2 = .ok (.putfield 7, 3) := by decide +kernel
theorem i_69_5 : Jvm.ClassFile.decode (pm_bytes 69) 5 = .ok (.aload_n 0, 1) := by decide +kernel
theorem i_69_6 : Jvm.ClassFile.decode (pm_bytes 69) 6 = .ok (.iconst 1, 1) := by decide +kernel
theorem i_69_7 : Jvm.ClassFile.decode (pm_bytes 69) 7 = .ok (.aload_n 0, 1) := by decide +kernel
theorem i_69_8 : Jvm.ClassFile.decode (pm_bytes 69) 8 = .ok (.iload_n 2, 1) := by decide +kernel
theorem i_69_9 : Jvm.ClassFile.decode (pm_bytes 69) 9 = .ok (.invokevirtual 59, 3) := by decide +kernel
theorem i_69_12 : Jvm.ClassFile.decode (pm_bytes 69) 12 = .ok (.ifCond .ne (11), 3) := by decide +kernel
theorem i_69_15 : Jvm.ClassFile.decode (pm_bytes 69) 15 = .ok (.aload_n 0, 1) := by decide +kernel
theorem i_69_16 : Jvm.ClassFile.decode (pm_bytes 69) 16 = .ok (.iload_n 3, 1) := by decide +kernel
theorem i_69_17 : Jvm.ClassFile.decode (pm_bytes 69) 17 = .ok (.invokevirtual 59, 3) := by decide +kernel
theorem i_69_20 : Jvm.ClassFile.decode (pm_bytes 69) 20 = .ok (.ifCond .eq (7), 3) := by decide +kernel
theorem i_69_23 : Jvm.ClassFile.decode (pm_bytes 69) 23 = .ok (.iconst 1, 1) := by decide +kernel
theorem i_69_24 : Jvm.ClassFile.decode (pm_bytes 69) 24 = .ok (.goto (4), 3) := by decide +kernel
theorem i_69_27 : Jvm.ClassFile.decode (pm_bytes 69) 27 = .ok (.iconst 0, 1) := by decide +kernel
theorem i_69_28 : Jvm.ClassFile.decode (pm_bytes 69) 28 = .ok (.invokevirtual 51, 3) := by decide +kernel
theorem i_69_31 : Jvm.ClassFile.decode (pm_bytes 69) 31 = .ok (.ifCond .ne (48), 3) := by decide +kernel
theorem i_69_34 : Jvm.ClassFile.decode (pm_bytes 69) 34 = .ok (.aload_n 0, 1) := by decide +kernel
theorem i_69_35 : Jvm.ClassFile.decode (pm_bytes 69) 35 = .ok (.iconst 2, 1) := by decide +kernel
theorem i_69_36 : Jvm.ClassFile.decode (pm_bytes 69) 36 = .ok (.iload_n 1, 1) := by decide +kernel
theorem i_69_37 : Jvm.ClassFile.decode (pm_bytes 69) 37 = .ok (.ifCond .lt (8), 3) := by decide +kernel
theorem i_69_40 : Jvm.ClassFile.decode (pm_bytes 69) 40 = .ok (.iload_n 1, 1) := by decide +kernel
theorem i_69_41 : Jvm.ClassFile.decode (pm_bytes 69) 41 = .ok (.iconst 2, 1) := by decide +kernel
theorem i_69_42 : Jvm.ClassFile.decode (pm_bytes 69) 42 = .ok (.if_icmp .le (7), 3) := by decide +kernel
theorem i_69_45 : Jvm.ClassFile.decode (pm_bytes 69) 45 = .ok (.iconst 1, 1) := by decide +kernel
theorem i_69_46 : Jvm.ClassFile.decode (pm_bytes 69) 46 = .ok (.goto (4), 3) := by decide +kernel
theorem i_69_49 : Jvm.ClassFile.decode (pm_bytes 69) 49 = .ok (.iconst 0, 1) := by decide +kernel
theorem i_69_50 : Jvm.ClassFile.decode (pm_bytes 69) 50 = .ok (.invokevirtual 51, 3) := by decide +kernel
theorem i_69_53 : Jvm.ClassFile.decode (pm_bytes 69) 53 = .ok (.ifCond .ne (26), 3) := by decide +kernel
theorem i_69_56 : Jvm.ClassFile.decode (pm_bytes 69) 56 = .ok (.aload_n 0, 1) := by decide +kernel
theorem i_69_57 : Jvm.ClassFile.decode (pm_bytes 69) 57 = .ok (.iconst 3, 1) := by decide +kernel
theorem i_69_58 : Jvm.ClassFile.decode (pm_bytes 69) 58 = .ok (.aload_n 0, 1) := by decide +kernel
theorem i_69_59 : Jvm.ClassFile.decode (pm_bytes 69) 59 = .ok (.getfield 13, 3) := by decide +kernel
theorem i_69_62 : Jvm.ClassFile.decode (pm_bytes 69) 62 = .ok (.sipush (2000), 3) := by decide +kernel
theorem i_69_65 : Jvm.ClassFile.decode (pm_bytes 69) 65 = .ok (.if_icmp .ne (7), 3) := by decide +kernel
theorem i_69_68 : Jvm.ClassFile.decode (pm_bytes 69) 68 = .ok (.iconst 1, 1) := by decide +kernel
theorem i_69_69 : Jvm.ClassFile.decode (pm_bytes 69) 69 = .ok (.goto (4), 3) := by decide +kernel
theorem i_69_72 : Jvm.ClassFile.decode (pm_bytes 69) 72 = .ok (.iconst 0, 1) := by decide +kernel
theorem i_69_73 : Jvm.ClassFile.decode (pm_bytes 69) 73 = .ok (.invokevirtual 51, 3) := by decide +kernel
theorem i_69_76 : Jvm.ClassFile.decode (pm_bytes 69) 76 = .ok (.ifCond .eq (5), 3) := by decide +kernel
theorem i_69_79 : Jvm.ClassFile.decode (pm_bytes 69) 79 = .ok (.iconst 0, 1) := by decide +kernel
theorem i_69_80 : Jvm.ClassFile.decode (pm_bytes 69) 80 = .ok (.ireturn, 1) := by decide +kernel
theorem i_69_81 : Jvm.ClassFile.decode (pm_bytes 69) 81 = .ok (.aload_n 0, 1) := by decide +kernel
theorem i_69_82 : Jvm.ClassFile.decode (pm_bytes 69) 82 = .ok (.iconst 3, 1) := by decide +kernel
theorem i_69_83 : Jvm.ClassFile.decode (pm_bytes 69) 83 = .ok (.iload_n 1, 1) := by decide +kernel
theorem i_69_84 : Jvm.ClassFile.decode (pm_bytes 69) 84 = .ok (.iadd, 1) := by decide +kernel
theorem i_69_85 : Jvm.ClassFile.decode (pm_bytes 69) 85 = .ok (.iload_n 2, 1) := by decide +kernel
theorem i_69_86 : Jvm.ClassFile.decode (pm_bytes 69) 86 = .ok (.iload_n 3, 1) := by decide +kernel
theorem i_69_87 : Jvm.ClassFile.decode (pm_bytes 69) 87 = .ok (.iconst 0, 1) := by decide +kernel
theorem i_69_88 : Jvm.ClassFile.decode (pm_bytes 69) 88 = .ok (.invokevirtual 55, 3) := by decide +kernel
theorem i_69_91 : Jvm.ClassFile.decode (pm_bytes 69) 91 = .ok (.ireturn, 1) := by decide +kernel
theorem f_70_7 : (pm_own 70, 7, 6, 0) ∈ pm_fld := f6_7
theorem f_70_13 : (pm_own 70, 13, 6, 1) ∈ pm_fld := f6_13
theorem k_70_51 : (pm_own 70, 51, 64, 3, (some 6 : Option Nat)) ∈ pm_call ∧ pm_rank 64 < pm_rank 70 := ⟨k6_51, by decide⟩
theorem k_70_55 : (pm_own 70, 55, 66, 5, (some 6 : Option Nat)) ∈ pm_call ∧ pm_rank 66 < pm_rank 70 := ⟨k6_55, by decide⟩
theorem k_70_59 : (pm_own 70, 59, 65, 2, (some 6 : Option Nat)) ∈ pm_call ∧ pm_rank 65 < pm_rank 70 := ⟨k6_59, by decide⟩
theorem m_70 : pm_mL 70 = 4 := rfl
theorem r_70 : pm_ret 70 = 1 := rfl
theorem i_70_0 : Jvm.ClassFile.decode (pm_bytes 70) 0 = .ok (.aload_n 0, 1) := by decide +kernel
theorem i_70_1 : Jvm.ClassFile.decode (pm_bytes 70) 1 = .ok (.iconst 0, 1) := by decide +kernel
theorem i_70_2 : Jvm.ClassFile.decode (pm_bytes 70) 2 = .ok (.putfield 7, 3) := by decide +kernel
theorem i_70_5 : Jvm.ClassFile.decode (pm_bytes 70) 5 = .ok (.aload_n 0, 1) := by decide +kernel
theorem i_70_6 : Jvm.ClassFile.decode (pm_bytes 70) 6 = .ok (.iconst 1, 1) := by decide +kernel
theorem i_70_7 : Jvm.ClassFile.decode (pm_bytes 70) 7 = .ok (.aload_n 0, 1) := by decide +kernel
theorem i_70_8 : Jvm.ClassFile.decode (pm_bytes 70) 8 = .ok (.iload_n 1, 1) := by decide +kernel
theorem i_70_9 : Jvm.ClassFile.decode (pm_bytes 70) 9 = .ok (.invokevirtual 59, 3) := by decide +kernel
theorem i_70_12 : Jvm.ClassFile.decode (pm_bytes 70) 12 = .ok (.ifCond .ne (19), 3) := by decide +kernel
theorem i_70_15 : Jvm.ClassFile.decode (pm_bytes 70) 15 = .ok (.aload_n 0, 1) := by decide +kernel
theorem i_70_16 : Jvm.ClassFile.decode (pm_bytes 70) 16 = .ok (.iload_n 2, 1) := by decide +kernel
theorem i_70_17 : Jvm.ClassFile.decode (pm_bytes 70) 17 = .ok (.invokevirtual 59, 3) := by decide +kernel
theorem i_70_20 : Jvm.ClassFile.decode (pm_bytes 70) 20 = .ok (.ifCond .ne (11), 3) := by decide +kernel
theorem i_70_23 : Jvm.ClassFile.decode (pm_bytes 70) 23 = .ok (.aload_n 0, 1) := by decide +kernel
theorem i_70_24 : Jvm.ClassFile.decode (pm_bytes 70) 24 = .ok (.iload_n 3, 1) := by decide +kernel
theorem i_70_25 : Jvm.ClassFile.decode (pm_bytes 70) 25 = .ok (.invokevirtual 59, 3) := by decide +kernel
theorem i_70_28 : Jvm.ClassFile.decode (pm_bytes 70) 28 = .ok (.ifCond .eq (7), 3) := by decide +kernel
theorem i_70_31 : Jvm.ClassFile.decode (pm_bytes 70) 31 = .ok (.iconst 1, 1) := by decide +kernel
theorem i_70_32 : Jvm.ClassFile.decode (pm_bytes 70) 32 = .ok (.goto (4), 3) := by decide +kernel
theorem i_70_35 : Jvm.ClassFile.decode (pm_bytes 70) 35 = .ok (.iconst 0, 1) := by decide +kernel
theorem i_70_36 : Jvm.ClassFile.decode (pm_bytes 70) 36 = .ok (.invokevirtual 51, 3) := by decide +kernel
theorem i_70_39 : Jvm.ClassFile.decode (pm_bytes 70) 39 = .ok (.ifCond .ne (26), 3) := by decide +kernel
theorem i_70_42 : Jvm.ClassFile.decode (pm_bytes 70) 42 = .ok (.aload_n 0, 1) := by decide +kernel
theorem i_70_43 : Jvm.ClassFile.decode (pm_bytes 70) 43 = .ok (.iconst 2, 1) := by decide +kernel
theorem i_70_44 : Jvm.ClassFile.decode (pm_bytes 70) 44 = .ok (.aload_n 0, 1) := by decide +kernel
theorem i_70_45 : Jvm.ClassFile.decode (pm_bytes 70) 45 = .ok (.getfield 13, 3) := by decide +kernel
theorem i_70_48 : Jvm.ClassFile.decode (pm_bytes 70) 48 = .ok (.sipush (2000), 3) := by decide +kernel
theorem i_70_51 : Jvm.ClassFile.decode (pm_bytes 70) 51 = .ok (.if_icmp .ne (7), 3) := by decide +kernel
theorem i_70_54 : Jvm.ClassFile.decode (pm_bytes 70) 54 = .ok (.iconst 1, 1) := by decide +kernel
theorem i_70_55 : Jvm.ClassFile.decode (pm_bytes 70) 55 = .ok (.goto (4), 3) := by decide +kernel
theorem i_70_58 : Jvm.ClassFile.decode (pm_bytes 70) 58 = .ok (.iconst 0, 1) := by decide +kernel
theorem i_70_59 : Jvm.ClassFile.decode (pm_bytes 70) 59 = .ok (.invokevirtual 51, 3) := by decide +kernel
theorem i_70_62 : Jvm.ClassFile.decode (pm_bytes 70) 62 = .ok (.ifCond .eq (5), 3) := by decide +kernel
theorem i_70_65 : Jvm.ClassFile.decode (pm_bytes 70) 65 = .ok (.iconst 0, 1) := by decide +kernel
theorem i_70_66 : Jvm.ClassFile.decode (pm_bytes 70) 66 = .ok (.ireturn, 1) := by decide +kernel
theorem i_70_67 : Jvm.ClassFile.decode (pm_bytes 70) 67 = .ok (.aload_n 0, 1) := by decide +kernel
theorem i_70_68 : Jvm.ClassFile.decode (pm_bytes 70) 68 = .ok (.bipush (6), 2) := by decide +kernel
theorem i_70_70 : Jvm.ClassFile.decode (pm_bytes 70) 70 = .ok (.iload_n 1, 1) := by decide +kernel
theorem i_70_71 : Jvm.ClassFile.decode (pm_bytes 70) 71 = .ok (.iload_n 2, 1) := by decide +kernel
theorem i_70_72 : Jvm.ClassFile.decode (pm_bytes 70) 72 = .ok (.iload_n 3, 1) := by decide +kernel
theorem i_70_73 : Jvm.ClassFile.decode (pm_bytes 70) 73 = .ok (.invokevirtual 55, 3) := by decide +kernel
theorem i_70_76 : Jvm.ClassFile.decode (pm_bytes 70) 76 = .ok (.ireturn, 1) := by decide +kernel
theorem f_71_7 : (pm_own 71, 7, 6, 0) ∈ pm_fld := f6_7
theorem f_71_19 : (pm_own 71, 19, 6, 3) ∈ pm_fld := f6_19
theorem f_71_35 : (pm_own 71, 35, 6, 8) ∈ pm_fld := f6_35
theorem k_71_51 : (pm_own 71, 51, 64, 3, (some 6 : Option Nat)) ∈ pm_call ∧ pm_rank 64 < pm_rank 71 := ⟨k6_51, by decide⟩
theorem k_71_59 : (pm_own 71, 59, 65, 2, (some 6 : Option Nat)) ∈ pm_call ∧ pm_rank 65 < pm_rank 71 := ⟨k6_59, by decide⟩
theorem m_71 : pm_mL 71 = 2 := rfl
theorem r_71 : pm_ret 71 = 1 := rfl
theorem i_71_0 : Jvm.ClassFile.decode (pm_bytes 71) 0 = .ok (.aload_n 0, 1) := by decide +kernel
theorem i_71_1 : Jvm.ClassFile.decode (pm_bytes 71) 1 = .ok (.iconst 0, 1) := by decide +kernel
theorem i_71_2 : Jvm.ClassFile.decode (pm_bytes 71) 2 = .ok (.putfield 7, 3) := by decide +kernel
theorem i_71_5 : Jvm.ClassFile.decode (pm_bytes 71) 5 = .ok (.aload_n 0, 1) := by decide +kernel
theorem i_71_6 : Jvm.ClassFile.decode (pm_bytes 71) 6 = .ok (.iconst 1, 1) := by decide +kernel
theorem i_71_7 : Jvm.ClassFile.decode (pm_bytes 71) 7 = .ok (.aload_n 0, 1) := by decide +kernel
theorem i_71_8 : Jvm.ClassFile.decode (pm_bytes 71) 8 = .ok (.iload_n 1, 1) := by decide +kernel
theorem i_71_9 : Jvm.ClassFile.decode (pm_bytes 71) 9 = .ok (.invokevirtual 59, 3) := by decide +kernel
theorem i_71_12 : Jvm.ClassFile.decode (pm_bytes 71) 12 = .ok (.invokevirtual 51, 3) := by decide +kernel
theorem i_71_15 : Jvm.ClassFile.decode (pm_bytes 71) 15 = .ok (.ifCond .ne (25), 3) := by decide +kernel
theorem i_71_18 : Jvm.ClassFile.decode (pm_bytes 71) 18 = .ok (.aload_n 0, 1) := by decide +kernel
theorem i_71_19 : Jvm.ClassFile.decode (pm_bytes 71) 19 = .ok (.iconst 2, 1) := by decide +kernel
theorem i_71_20 : Jvm.ClassFile.decode (pm_bytes 71) 20 = .ok (.aload_n 0, 1) := by decide +kernel
theorem i_71_21 : Jvm.ClassFile.decode (pm_bytes 71) 21 = .ok (.getfield 19, 3) := by decide +kernel
theorem i_71_24 : Jvm.ClassFile.decode (pm_bytes 71) 24 = .ok (.bipush (20), 2) := by decide +kernel
theorem i_71_26 : Jvm.ClassFile.decode (pm_bytes 71) 26 = .ok (.if_icmp .ne (7), 3) := by decide +kernel
theorem i_71_29 : Jvm.ClassFile.decode (pm_bytes 71) 29 = .ok (.iconst 1, 1) := by decide +kernel
theorem i_71_30 : Jvm.ClassFile.decode (pm_bytes 71) 30 = .ok (.goto (4), 3) := by decide +kernel
theorem i_71_33 : Jvm.ClassFile.decode (pm_bytes 71) 33 = .ok (.iconst 0, 1) := by decide +kernel
theorem i_71_34 : Jvm.ClassFile.decode (pm_bytes 71) 34 = .ok (.invokevirtual 51, 3) := by decide +kernel
theorem i_71_37 : Jvm.ClassFile.decode (pm_bytes 71) 37 = .ok (.ifCond .eq (5), 3) := by decide +kernel
theorem i_71_40 : Jvm.ClassFile.decode (pm_bytes 71) 40 = .ok (.iconst 0, 1) := by decide +kernel
theorem i_71_41 : Jvm.ClassFile.decode (pm_bytes 71) 41 = .ok (.ireturn, 1) := by decide +kernel
theorem i_71_42 : Jvm.ClassFile.decode (pm_bytes 71) 42 = .ok (.aload_n 0, 1) := by decide +kernel
theorem i_71_43 : Jvm.ClassFile.decode (pm_bytes 71) 43 = .ok (.getfield 35, 3) := by decide +kernel
theorem i_71_46 : Jvm.ClassFile.decode (pm_bytes 71) 46 = .ok (.aload_n 0, 1) := by decide +kernel
theorem i_71_47 : Jvm.ClassFile.decode (pm_bytes 71) 47 = .ok (.dup, 1) := by decide +kernel
theorem i_71_48 : Jvm.ClassFile.decode (pm_bytes 71) 48 = .ok (.getfield 19, 3) := by decide +kernel
theorem i_71_51 : Jvm.ClassFile.decode (pm_bytes 71) 51 = .ok (.dup_x1, 1) := by decide +kernel
theorem i_71_52 : Jvm.ClassFile.decode (pm_bytes 71) 52 = .ok (.iconst 1, 1) := by decide +kernel
theorem i_71_53 : Jvm.ClassFile.decode (pm_bytes 71) 53 = .ok (.iadd, 1) := by decide +kernel
theorem i_71_54 : Jvm.ClassFile.decode (pm_bytes 71) 54 = .ok (.putfield 19, 3) := by decide +kernel
theorem i_71_57 : Jvm.ClassFile.decode (pm_bytes 71) 57 = .ok (.iload_n 1, 1) := by decide +kernel
theorem i_71_58 : Jvm.ClassFile.decode (pm_bytes 71) 58 = .ok (.iastore, 1) := by decide +kernel
theorem i_71_59 : Jvm.ClassFile.decode (pm_bytes 71) 59 = .ok (.aload_n 0, 1) := by decide +kernel
theorem i_71_60 : Jvm.ClassFile.decode (pm_bytes 71) 60 = .ok (.getfield 19, 3) := by decide +kernel
theorem i_71_63 : Jvm.ClassFile.decode (pm_bytes 71) 63 = .ok (.ireturn, 1) := by decide +kernel
theorem f_72_7 : (pm_own 72, 7, 6, 0) ∈ pm_fld := f6_7
theorem f_72_19 : (pm_own 72, 19, 6, 3) ∈ pm_fld := f6_19
theorem m_72 : pm_mL 72 = 2 := rfl
theorem r_72 : pm_ret 72 = 1 := rfl
theorem i_72_0 : Jvm.ClassFile.decode (pm_bytes 72) 0 = .ok (.aload_n 0, 1) := by decide +kernel
theorem i_72_1 : Jvm.ClassFile.decode (pm_bytes 72) 1 = .ok (.iconst 0, 1) := by decide +kernel
theorem i_72_2 : Jvm.ClassFile.decode (pm_bytes 72) 2 = .ok (.putfield 7, 3) := by decide +kernel
theorem i_72_5 : Jvm.ClassFile.decode (pm_bytes 72) 5 = .ok (.aload_n 0, 1) := by decide +kernel
theorem i_72_6 : Jvm.ClassFile.decode (pm_bytes 72) 6 = .ok (.getfield 19, 3) := by decide +kernel
theorem i_72_9 : Jvm.ClassFile.decode (pm_bytes 72) 9 = .ok (.istore_n 1, 1) := by decide +kernel
theorem i_72_10 : Jvm.ClassFile.decode (pm_bytes 72) 10 = .ok (.aload_n 0, 1) := by decide +kernel
theorem i_72_11 : Jvm.ClassFile.decode (pm_bytes 72) 11 = .ok (.iconst 0, 1) := by decide +kernel
theorem i_72_12 : Jvm.ClassFile.decode (pm_bytes 72) 12 = .ok (.putfield 19, 3) := by decide +kernel
theorem i_72_15 : Jvm.ClassFile.decode (pm_bytes 72) 15 = .ok (.iload_n 1, 1) := by decide +kernel
theorem i_72_16 : Jvm.ClassFile.decode (pm_bytes 72) 16 = .ok (.ireturn, 1) := by decide +kernel
theorem f_73_13 : (pm_own 73, 13, 6, 1) ∈ pm_fld := f6_13
theorem f_73_22 : (pm_own 73, 22, 6, 4) ∈ pm_fld := f6_22
theorem f_73_26 : (pm_own 73, 26, 6, 5) ∈ pm_fld := f6_26
theorem f_73_29 : (pm_own 73, 29, 6, 6) ∈ pm_fld := f6_29
theorem f_73_32 : (pm_own 73, 32, 6, 7) ∈ pm_fld := f6_32
theorem f_73_38 : (pm_own 73, 38, 6, 9) ∈ pm_fld := f6_38
theorem f_73_45 : (pm_own 73, 45, 6, 11) ∈ pm_fld := f6_45
theorem m_73 : pm_mL 73 = 2 := rfl
theorem r_73 : pm_ret 73 = 0 := rfl
theorem i_73_0 : Jvm.ClassFile.decode (pm_bytes 73) 0 = .ok (.iconst 0, 1) := by decide +kernel
theorem i_73_1 : Jvm.ClassFile.decode (pm_bytes 73) 1 = .ok (.istore_n 1, 1) := by decide +kernel
theorem i_73_2 : Jvm.ClassFile.decode (pm_bytes 73) 2 = .ok (.iload_n 1, 1) := by decide +kernel
theorem i_73_3 : Jvm.ClassFile.decode (pm_bytes 73) 3 = .ok (.aload_n 0, 1) := by decide +kernel
theorem i_73_4 : Jvm.ClassFile.decode (pm_bytes 73) 4 = .ok (.getfield 13, 3) := by decide +kernel
theorem i_73_7 : Jvm.ClassFile.decode (pm_bytes 73) 7 = .ok (.if_icmp .ge (281), 3) := by decide +kernel
theorem i_73_10 : Jvm.ClassFile.decode (pm_bytes 73) 10 = .ok (.aload_n 0, 1) := by decide +kernel
theorem i_73_11 : Jvm.ClassFile.decode (pm_bytes 73) 11 = .ok (.getfield 22, 3) := by decide +kernel
theorem i_73_14 : Jvm.ClassFile.decode (pm_bytes 73) 14 = .ok (.iload_n 1, 1) := by decide +kernel
theorem i_73_15 : Jvm.ClassFile.decode (pm_bytes 73) 15 = .ok (.iaload, 1) := by decide +kernel
theorem i_73_16 : Jvm.ClassFile.decode (pm_bytes 73) 16 = .ok (.tableswitch (221) (0) (5) #[40, 50, 70, 98, 140, 182], 40) := by decide +kernel
theorem i_73_56 : Jvm.ClassFile.decode (pm_bytes 73) 56 = .ok (.aload_n 0, 1) := by decide +kernel
theorem i_73_57 : Jvm.ClassFile.decode (pm_bytes 73) 57 = .ok (.getfield 45, 3) := by decide +kernel
theorem i_73_60 : Jvm.ClassFile.decode (pm_bytes 73) 60 = .ok (.iload_n 1, 1) := by decide +kernel
theorem i_73_61 : Jvm.ClassFile.decode (pm_bytes 73) 61 = .ok (.iconst 0, 1) := by decide +kernel
theorem i_73_62 : Jvm.ClassFile.decode (pm_bytes 73) 62 = .ok (.bastore, 1) := by decide +kernel
theorem i_73_63 : Jvm.ClassFile.decode (pm_bytes 73) 63 = .ok (.goto (219), 3) := by decide +kernel
theorem i_73_66 : Jvm.ClassFile.decode (pm_bytes 73) 66 = .ok (.aload_n 0, 1) := by decide +kernel
theorem i_73_67 : Jvm.ClassFile.decode (pm_bytes 73) 67 = .ok (.getfield 45, 3) := by decide +kernel
theorem i_73_70 : Jvm.ClassFile.decode (pm_bytes 73) 70 = .ok (.iload_n 1, 1) := by decide +kernel
theorem i_73_71 : Jvm.ClassFile.decode (pm_bytes 73) 71 = .ok (.aload_n 0, 1) := by decide +kernel
theorem i_73_72 : Jvm.ClassFile.decode (pm_bytes 73) 72 = .ok (.getfield 38, 3) := by decide +kernel
theorem i_73_75 : Jvm.ClassFile.decode (pm_bytes 73) 75 = .ok (.aload_n 0, 1) := by decide +kernel
theorem i_73_76 : Jvm.ClassFile.decode (pm_bytes 73) 76 = .ok (.getfield 26, 3) := by decide +kernel
theorem i_73_79 : Jvm.ClassFile.decode (pm_bytes 73) 79 = .ok (.iload_n 1, 1) := by decide +kernel
theorem i_73_80 : Jvm.ClassFile.decode (pm_bytes 73) 80 = .ok (.iaload, 1) := by decide +kernel
theorem i_73_81 : Jvm.ClassFile.decode (pm_bytes 73) 81 = .ok (.baload, 1) := by decide +kernel
theorem i_73_82 : Jvm.ClassFile.decode (pm_bytes 73) 82 = .ok (.bastore, 1) := by decide +kernel
theorem i_73_83 : Jvm.ClassFile.decode (pm_bytes 73) 83 = .ok (.goto (199), 3) := by decide +kernel
theorem i_73_86 : Jvm.ClassFile.decode (pm_bytes 73) 86 = .ok (.aload_n 0, 1) := by decide +kernel
theorem i_73_87 : Jvm.ClassFile.decode (pm_bytes 73) 87 = .ok (.getfield 45, 3) := by decide +kernel
theorem i_73_90 : Jvm.ClassFile.decode (pm_bytes 73) 90 = .ok (.iload_n 1, 1) := by decide +kernel
theorem i_73_91 : Jvm.ClassFile.decode (pm_bytes 73) 91 = .ok (.aload_n 0, 1) := by decide +kernel
theorem i_73_92 : Jvm.ClassFile.decode (pm_bytes 73) 92 = .ok (.getfield 45, 3) := by decide +kernel
theorem i_73_95 : Jvm.ClassFile.decode (pm_bytes 73) 95 = .ok (.aload_n 0, 1) := by decide +kernel
theorem i_73_96 : Jvm.ClassFile.decode (pm_bytes 73) 96 = .ok (.getfield 26, 3) := by decide +kernel
theorem i_73_99 : Jvm.ClassFile.decode (pm_bytes 73) 99 = .ok (.iload_n 1, 1) := by decide +kernel
theorem i_73_100 : Jvm.ClassFile.decode (pm_bytes 73) 100 = .ok (.iaload, 1) := by decide +kernel
theorem i_73_101 : Jvm.ClassFile.decode (pm_bytes 73) 101 = .ok (.baload, 1) := by decide +kernel
theorem i_73_102 : Jvm.ClassFile.decode (pm_bytes 73) 102 = .ok (.ifCond .ne (7), 3) := by decide +kernel
theorem i_73_105 : Jvm.ClassFile.decode (pm_bytes 73) 105 = .ok (.iconst 1, 1) := by decide +kernel
theorem i_73_106 : Jvm.ClassFile.decode (pm_bytes 73) 106 = .ok (.goto (4), 3) := by decide +kernel
theorem i_73_109 : Jvm.ClassFile.decode (pm_bytes 73) 109 = .ok (.iconst 0, 1) := by decide +kernel
theorem i_73_110 : Jvm.ClassFile.decode (pm_bytes 73) 110 = .ok (.bastore, 1) := by decide +kernel
theorem i_73_111 : Jvm.ClassFile.decode (pm_bytes 73) 111 = .ok (.goto (171), 3) := by decide +kernel
theorem i_73_114 : Jvm.ClassFile.decode (pm_bytes 73) 114 = .ok (.aload_n 0, 1) := by decide +kernel
theorem i_73_115 : Jvm.ClassFile.decode (pm_bytes 73) 115 = .ok (.getfield 45, 3) := by decide +kernel
theorem i_73_118 : Jvm.ClassFile.decode (pm_bytes 73) 118 = .ok (.iload_n 1, 1) := by decide +kernel
theorem i_73_119 : Jvm.ClassFile.decode (pm_bytes 73) 119 = .ok (.aload_n 0, 1) := by decide +kernel
theorem i_73_120 : Jvm.ClassFile.decode (pm_bytes 73) 120 = .ok (.getfield 45, 3) := by decide +kernel
theorem i_73_123 : Jvm.ClassFile.decode (pm_bytes 73) 123 = .ok (.aload_n 0, 1) := by decide +kernel
theorem i_73_124 : Jvm.ClassFile.decode (pm_bytes 73) 124 = .ok (.getfield 26, 3) := by decide +kernel
theorem i_73_127 : Jvm.ClassFile.decode (pm_bytes 73) 127 = .ok (.iload_n 1, 1) := by decide +kernel
theorem i_73_128 : Jvm.ClassFile.decode (pm_bytes 73) 128 = .ok (.iaload, 1) := by decide +kernel
theorem i_73_129 : Jvm.ClassFile.decode (pm_bytes 73) 129 = .ok (.baload, 1) := by decide +kernel
theorem i_73_130 : Jvm.ClassFile.decode (pm_bytes 73) 130 = .ok (.ifCond .eq (21), 3) := by decide +kernel
theorem i_73_133 : Jvm.ClassFile.decode (pm_bytes 73) 133 = .ok (.aload_n 0, 1) := by decide +kernel
theorem i_73_134 : Jvm.ClassFile.decode (pm_bytes 73) 134 = .ok (.getfield 45, 3) := by decide +kernel
theorem i_73_137 : Jvm.ClassFile.decode (pm_bytes 73) 137 = .ok (.aload_n 0, 1) := by decide +kernel
theorem i_73_138 : Jvm.ClassFile.decode (pm_bytes 73) 138 = .ok (.getfield 29, 3) := by decide +kernel
theorem i_73_141 : Jvm.ClassFile.decode (pm_bytes 73) 141 = .ok (.iload_n 1, 1) := by decide +kernel
theorem i_73_142 : Jvm.ClassFile.decode (pm_bytes 73) 142 = .ok (.iaload, 1) := by decide +kernel
theorem i_73_143 : Jvm.ClassFile.decode (pm_bytes 73) 143 = .ok (.baload, 1) := by decide +kernel
theorem i_73_144 : Jvm.ClassFile.decode (pm_bytes 73) 144 = .ok (.ifCond .eq (7), 3) := by decide +kernel
theorem i_73_147 : Jvm.ClassFile.decode (pm_bytes 73) 147 = .ok (.iconst 1, 1) := by decide +kernel
theorem i_73_148 : Jvm.ClassFile.decode (pm_bytes 73) 148 = .ok (.goto (4), 3) := by decide +kernel
theorem i_73_151 : Jvm.ClassFile.decode (pm_bytes 73) 151 = .ok (.iconst 0, 1) := by decide +kernel
theorem i_73_152 : Jvm.ClassFile.decode (pm_bytes 73) 152 = .ok (.bastore, 1) := by decide +kernel
theorem i_73_153 : Jvm.ClassFile.decode (pm_bytes 73) 153 = .ok (.goto (129), 3) := by decide +kernel
theorem i_73_156 : Jvm.ClassFile.decode (pm_bytes 73) 156 = .ok (.aload_n 0, 1) := by decide +kernel
theorem i_73_157 : Jvm.ClassFile.decode (pm_bytes 73) 157 = .ok (.getfield 45, 3) := by decide +kernel
theorem i_73_160 : Jvm.ClassFile.decode (pm_bytes 73) 160 = .ok (.iload_n 1, 1) := by decide +kernel
theorem i_73_161 : Jvm.ClassFile.decode (pm_bytes 73) 161 = .ok (.aload_n 0, 1) := by decide +kernel
theorem i_73_162 : Jvm.ClassFile.decode (pm_bytes 73) 162 = .ok (.getfield 45, 3) := by decide +kernel
theorem i_73_165 : Jvm.ClassFile.decode (pm_bytes 73) 165 = .ok (.aload_n 0, 1) := by decide +kernel
theorem i_73_166 : Jvm.ClassFile.decode (pm_bytes 73) 166 = .ok (.getfield 26, 3) := by decide +kernel
theorem i_73_169 : Jvm.ClassFile.decode (pm_bytes 73) 169 = .ok (.iload_n 1, 1) := by decide +kernel
theorem i_73_170 : Jvm.ClassFile.decode (pm_bytes 73) 170 = .ok (.iaload, 1) := by decide +kernel
theorem i_73_171 : Jvm.ClassFile.decode (pm_bytes 73) 171 = .ok (.baload, 1) := by decide +kernel
theorem i_73_172 : Jvm.ClassFile.decode (pm_bytes 73) 172 = .ok (.ifCond .ne (17), 3) := by decide +kernel
theorem i_73_175 : Jvm.ClassFile.decode (pm_bytes 73) 175 = .ok (.aload_n 0, 1) := by decide +kernel
theorem i_73_176 : Jvm.ClassFile.decode (pm_bytes 73) 176 = .ok (.getfield 45, 3) := by decide +kernel
theorem i_73_179 : Jvm.ClassFile.decode (pm_bytes 73) 179 = .ok (.aload_n 0, 1) := by decide +kernel
theorem i_73_180 : Jvm.ClassFile.decode (pm_bytes 73) 180 = .ok (.getfield 29, 3) := by decide +kernel
theorem i_73_183 : Jvm.ClassFile.decode (pm_bytes 73) 183 = .ok (.iload_n 1, 1) := by decide +kernel
theorem i_73_184 : Jvm.ClassFile.decode (pm_bytes 73) 184 = .ok (.iaload, 1) := by decide +kernel
theorem i_73_185 : Jvm.ClassFile.decode (pm_bytes 73) 185 = .ok (.baload, 1) := by decide +kernel
theorem i_73_186 : Jvm.ClassFile.decode (pm_bytes 73) 186 = .ok (.ifCond .eq (7), 3) := by decide +kernel
theorem i_73_189 : Jvm.ClassFile.decode (pm_bytes 73) 189 = .ok (.iconst 1, 1) := by decide +kernel
theorem i_73_190 : Jvm.ClassFile.decode (pm_bytes 73) 190 = .ok (.goto (4), 3) := by decide +kernel
theorem i_73_193 : Jvm.ClassFile.decode (pm_bytes 73) 193 = .ok (.iconst 0, 1) := by decide +kernel
theorem i_73_194 : Jvm.ClassFile.decode (pm_bytes 73) 194 = .ok (.bastore, 1) := by decide +kernel
theorem i_73_195 : Jvm.ClassFile.decode (pm_bytes 73) 195 = .ok (.goto (87), 3) := by decide +kernel
theorem i_73_198 : Jvm.ClassFile.decode (pm_bytes 73) 198 = .ok (.aload_n 0, 1) := by decide +kernel
theorem i_73_199 : Jvm.ClassFile.decode (pm_bytes 73) 199 = .ok (.getfield 45, 3) := by decide +kernel
theorem i_73_202 : Jvm.ClassFile.decode (pm_bytes 73) 202 = .ok (.iload_n 1, 1) := by decide +kernel
theorem i_73_203 : Jvm.ClassFile.decode (pm_bytes 73) 203 = .ok (.aload_n 0, 1) := by decide +kernel
theorem i_73_204 : Jvm.ClassFile.decode (pm_bytes 73) 204 = .ok (.getfield 45, 3) := by decide +kernel
theorem i_73_207 : Jvm.ClassFile.decode (pm_bytes 73) 207 = .ok (.aload_n 0, 1) := by decide +kernel
theorem i_73_208 : Jvm.ClassFile.decode (pm_bytes 73) 208 = .ok (.getfield 26, 3) := by decide +kernel
theorem i_73_211 : Jvm.ClassFile.decode (pm_bytes 73) 211 = .ok (.iload_n 1, 1) := by decide +kernel
theorem i_73_212 : Jvm.ClassFile.decode (pm_bytes 73) 212 = .ok (.iaload, 1) := by decide +kernel
theorem i_73_213 : Jvm.ClassFile.decode (pm_bytes 73) 213 = .ok (.baload, 1) := by decide +kernel
theorem i_73_214 : Jvm.ClassFile.decode (pm_bytes 73) 214 = .ok (.aload_n 0, 1) := by decide +kernel
theorem i_73_215 : Jvm.ClassFile.decode (pm_bytes 73) 215 = .ok (.getfield 45, 3) := by decide +kernel
theorem i_73_218 : Jvm.ClassFile.decode (pm_bytes 73) 218 = .ok (.aload_n 0, 1) := by decide +kernel
theorem i_73_219 : Jvm.ClassFile.decode (pm_bytes 73) 219 = .ok (.getfield 29, 3) := by decide +kernel
theorem i_73_222 : Jvm.ClassFile.decode (pm_bytes 73) 222 = .ok (.iload_n 1, 1) := by decide +kernel
theorem i_73_223 : Jvm.ClassFile.decode (pm_bytes 73) 223 = .ok (.iaload, 1) := by decide +kernel
theorem i_73_224 : Jvm.ClassFile.decode (pm_bytes 73) 224 = .ok (.baload, 1) := by decide +kernel
theorem i_73_225 : Jvm.ClassFile.decode (pm_bytes 73) 225 = .ok (.if_icmp .eq (7), 3) := by decide +kernel
theorem i_73_228 : Jvm.ClassFile.decode (pm_bytes 73) 228 = .ok (.iconst 1, 1) := by decide +kernel
theorem i_73_229 : Jvm.ClassFile.decode (pm_bytes 73) 229 = .ok (.goto (4), 3) := by decide +kernel
theorem i_73_232 : Jvm.ClassFile.decode (pm_bytes 73) 232 = .ok (.iconst 0, 1) := by decide +kernel
theorem i_73_233 : Jvm.ClassFile.decode (pm_bytes 73) 233 = .ok (.bastore, 1) := by decide +kernel
theorem i_73_234 : Jvm.ClassFile.decode (pm_bytes 73) 234 = .ok (.goto (48), 3) := by decide +kernel
theorem i_73_237 : Jvm.ClassFile.decode (pm_bytes 73) 237 = .ok (.aload_n 0, 1) := by decide +kernel
theorem i_73_238 : Jvm.ClassFile.decode (pm_bytes 73) 238 = .ok (.getfield 45, 3) := by decide +kernel
theorem i_73_241 : Jvm.ClassFile.decode (pm_bytes 73) 241 = .ok (.iload_n 1, 1) := by decide +kernel
theorem i_73_242 : Jvm.ClassFile.decode (pm_bytes 73) 242 = .ok (.aload_n 0, 1) := by decide +kernel
theorem i_73_243 : Jvm.ClassFile.decode (pm_bytes 73) 243 = .ok (.getfield 45, 3) := by decide +kernel
theorem i_73_246 : Jvm.ClassFile.decode (pm_bytes 73) 246 = .ok (.aload_n 0, 1) := by decide +kernel
theorem i_73_247 : Jvm.ClassFile.decode (pm_bytes 73) 247 = .ok (.getfield 26, 3) := by decide +kernel
theorem i_73_250 : Jvm.ClassFile.decode (pm_bytes 73) 250 = .ok (.iload_n 1, 1) := by decide +kernel
theorem i_73_251 : Jvm.ClassFile.decode (pm_bytes 73) 251 = .ok (.iaload, 1) := by decide +kernel
theorem i_73_252 : Jvm.ClassFile.decode (pm_bytes 73) 252 = .ok (.baload, 1) := by decide +kernel
theorem i_73_253 : Jvm.ClassFile.decode (pm_bytes 73) 253 = .ok (.ifCond .eq (17), 3) := by decide +kernel
theorem i_73_256 : Jvm.ClassFile.decode (pm_bytes 73) 256 = .ok (.aload_n 0, 1) := by decide +kernel
theorem i_73_257 : Jvm.ClassFile.decode (pm_bytes 73) 257 = .ok (.getfield 45, 3) := by decide +kernel
theorem i_73_260 : Jvm.ClassFile.decode (pm_bytes 73) 260 = .ok (.aload_n 0, 1) := by decide +kernel
theorem i_73_261 : Jvm.ClassFile.decode (pm_bytes 73) 261 = .ok (.getfield 29, 3) := by decide +kernel
theorem i_73_264 : Jvm.ClassFile.decode (pm_bytes 73) 264 = .ok (.iload_n 1, 1) := by decide +kernel
theorem i_73_265 : Jvm.ClassFile.decode (pm_bytes 73) 265 = .ok (.iaload, 1) := by decide +kernel
theorem i_73_266 : Jvm.ClassFile.decode (pm_bytes 73) 266 = .ok (.baload, 1) := by decide +kernel
theorem i_73_267 : Jvm.ClassFile.decode (pm_bytes 73) 267 = .ok (.goto (14), 3) := by decide +kernel
theorem i_73_270 : Jvm.ClassFile.decode (pm_bytes 73) 270 = .ok (.aload_n 0, 1) := by decide +kernel
theorem i_73_271 : Jvm.ClassFile.decode (pm_bytes 73) 271 = .ok (.getfield 45, 3) := by decide +kernel
theorem i_73_274 : Jvm.ClassFile.decode (pm_bytes 73) 274 = .ok (.aload_n 0, 1) := by decide +kernel
theorem i_73_275 : Jvm.ClassFile.decode (pm_bytes 73) 275 = .ok (.getfield 32, 3) := by decide +kernel
theorem i_73_278 : Jvm.ClassFile.decode (pm_bytes 73) 278 = .ok (.iload_n 1, 1) := by decide +kernel
theorem i_73_279 : Jvm.ClassFile.decode (pm_bytes 73) 279 = .ok (.iaload, 1) := by decide +kernel
theorem i_73_280 : Jvm.ClassFile.decode (pm_bytes 73) 280 = .ok (.baload, 1) := by decide +kernel
theorem i_73_281 : Jvm.ClassFile.decode (pm_bytes 73) 281 = .ok (.bastore, 1) := by decide +kernel
theorem i_73_282 : Jvm.ClassFile.decode (pm_bytes 73) 282 = .ok (.iinc 1 (1), 3) := by decide +kernel
theorem i_73_285 : Jvm.ClassFile.decode (pm_bytes 73) 285 = .ok (.goto (-283), 3) := by decide +kernel
theorem i_73_288 : Jvm.ClassFile.decode (pm_bytes 73) 288 = .ok (.return_, 1) := by decide +kernel
theorem f_74_16 : (pm_own 74, 16, 6, 2) ∈ pm_fld := f6_16
theorem f_74_38 : (pm_own 74, 38, 6, 9) ∈ pm_fld := f6_38
theorem m_74 : pm_mL 74 = 2 := rfl
theorem r_74 : pm_ret 74 = 2 := rfl
theorem i_74_0 : Jvm.ClassFile.decode (pm_bytes 74) 0 = .ok (.aload_n 0, 1) := by decide +kernel
theorem i_74_1 : Jvm.ClassFile.decode (pm_bytes 74) 1 = .ok (.getfield 16, 3) := by decide +kernel
theorem i_74_4 : Jvm.ClassFile.decode (pm_bytes 74) 4 = .ok (.iconst 1, 1) := by decide +kernel
theorem i_74_5 : Jvm.ClassFile.decode (pm_bytes 74) 5 = .ok (.isub, 1) := by decide +kernel
theorem i_74_6 : Jvm.ClassFile.decode (pm_bytes 74) 6 = .ok (.istore_n 1, 1) := by decide +kernel
theorem i_74_7 : Jvm.ClassFile.decode (pm_bytes 74) 7 = .ok (.iload_n 1, 1) := by decide +kernel
theorem i_74_8 : Jvm.ClassFile.decode (pm_bytes 74) 8 = .ok (.ifCond .lt (40), 3) := by decide +kernel
theorem i_74_11 : Jvm.ClassFile.decode (pm_bytes 74) 11 = .ok (.aload_n 0, 1) := by decide +kernel
theorem i_74_12 : Jvm.ClassFile.decode (pm_bytes 74) 12 = .ok (.getfield 38, 3) := by decide +kernel
theorem i_74_15 : Jvm.ClassFile.decode (pm_bytes 74) 15 = .ok (.iload_n 1, 1) := by decide +kernel
theorem i_74_16 : Jvm.ClassFile.decode (pm_bytes 74) 16 = .ok (.aload_n 0, 1) := by decide +kernel
theorem i_74_17 : Jvm.ClassFile.decode (pm_bytes 74) 17 = .ok (.getfield 38, 3) := by decide +kernel
theorem i_74_20 : Jvm.ClassFile.decode (pm_bytes 74) 20 = .ok (.iload_n 1, 1) := by decide +kernel
theorem i_74_21 : Jvm.ClassFile.decode (pm_bytes 74) 21 = .ok (.baload, 1) := by decide +kernel
theorem i_74_22 : Jvm.ClassFile.decode (pm_bytes 74) 22 = .ok (.ifCond .ne (7), 3) := by decide +kernel
theorem i_74_25 : Jvm.ClassFile.decode (pm_bytes 74) 25 = .ok (.iconst 1, 1) := by decide +kernel
theorem i_74_26 : Jvm.ClassFile.decode (pm_bytes 74) 26 = .ok (.goto (4), 3) := by decide +kernel
theorem i_74_29 : Jvm.ClassFile.decode (pm_bytes 74) 29 = .ok (.iconst 0, 1) := by decide +kernel
theorem i_74_30 : Jvm.ClassFile.decode (pm_bytes 74) 30 = .ok (.bastore, 1) := by decide +kernel
theorem i_74_31 : Jvm.ClassFile.decode (pm_bytes 74) 31 = .ok (.aload_n 0, 1) := by decide +kernel
theorem i_74_32 : Jvm.ClassFile.decode (pm_bytes 74) 32 = .ok (.getfield 38, 3) := by decide +kernel
theorem i_74_35 : Jvm.ClassFile.decode (pm_bytes 74) 35 = .ok (.iload_n 1, 1) := by decide +kernel
theorem i_74_36 : Jvm.ClassFile.decode (pm_bytes 74) 36 = .ok (.baload, 1) := by decide +kernel
theorem i_74_37 : Jvm.ClassFile.decode (pm_bytes 74) 37 = .ok (.ifCond .eq (5), 3) := by decide +kernel
theorem i_74_40 : Jvm.ClassFile.decode (pm_bytes 74) 40 = .ok (.iconst 1, 1) := by decide +kernel
theorem i_74_41 : Jvm.ClassFile.decode (pm_bytes 74) 41 = .ok (.ireturn, 1) := by decide +kernel
theorem i_74_42 : Jvm.ClassFile.decode (pm_bytes 74) 42 = .ok (.iinc 1 (-1), 3) := by decide +kernel
theorem i_74_45 : Jvm.ClassFile.decode (pm_bytes 74) 45 = .ok (.goto (-38), 3) := by decide +kernel
theorem i_74_48 : Jvm.ClassFile.decode (pm_bytes 74) 48 = .ok (.iconst 0, 1) := by decide +kernel
theorem i_74_49 : Jvm.ClassFile.decode (pm_bytes 74) 49 = .ok (.ireturn, 1) := by decide +kernel
theorem f_75_38 : (pm_own 75, 38, 6, 9) ∈ pm_fld := f6_38
theorem f_75_42 : (pm_own 75, 42, 6, 10) ∈ pm_fld := f6_42
theorem m_75 : pm_mL 75 = 2 := rfl
theorem r_75 : pm_ret 75 = 0 := rfl
theorem i_75_0 : Jvm.ClassFile.decode (pm_bytes 75) 0 = .ok (.iconst 0, 1) := by decide +kernel
theorem i_75_1 : Jvm.ClassFile.decode (pm_bytes 75) 1 = .ok (.istore_n 1, 1) := by decide +kernel
theorem i_75_2 : Jvm.ClassFile.decode (pm_bytes 75) 2 = .ok (.iload_n 1, 1) := by decide +kernel
theorem i_75_3 : Jvm.ClassFile.decode (pm_bytes 75) 3 = .ok (.bipush (12), 2) := by decide +kernel
theorem i_75_5 : Jvm.ClassFile.decode (pm_bytes 75) 5 = .ok (.if_icmp .ge (28), 3) := by decide +kernel
theorem i_75_8 : Jvm.ClassFile.decode (pm_bytes 75) 8 = .ok (.aload_n 0, 1) := by decide +kernel
theorem i_75_9 : Jvm.ClassFile.decode (pm_bytes 75) 9 = .ok (.getfield 42, 3) := by decide +kernel
theorem i_75_12 : Jvm.ClassFile.decode (pm_bytes 75) 12 = .ok (.iload_n 1, 1) := by decide +kernel
theorem i_75_13 : Jvm.ClassFile.decode (pm_bytes 75) 13 = .ok (.aload_n 0, 1) := by decide +kernel
theorem i_75_14 : Jvm.ClassFile.decode (pm_bytes 75) 14 = .ok (.getfield 38, 3) := by decide +kernel
theorem i_75_17 : Jvm.ClassFile.decode (pm_bytes 75) 17 = .ok (.iload_n 1, 1) := by decide +kernel
theorem i_75_18 : Jvm.ClassFile.decode (pm_bytes 75) 18 = .ok (.baload, 1) := by decide +kernel
theorem i_75_19 : Jvm.ClassFile.decode (pm_bytes 75) 19 = .ok (.bastore, 1) := by decide +kernel
theorem i_75_20 : Jvm.ClassFile.decode (pm_bytes 75) 20 = .ok (.aload_n 0, 1) := by decide +kernel
theorem i_75_21 : Jvm.ClassFile.decode (pm_bytes 75) 21 = .ok (.getfield 38, 3) := by decide +kernel
theorem i_75_24 : Jvm.ClassFile.decode (pm_bytes 75) 24 = .ok (.iload_n 1, 1) := by decide +kernel
theorem i_75_25 : Jvm.ClassFile.decode (pm_bytes 75) 25 = .ok (.iconst 0, 1) := by decide +kernel
theorem i_75_26 : Jvm.ClassFile.decode (pm_bytes 75) 26 = .ok (.bastore, 1) := by decide +kernel
theorem i_75_27 : Jvm.ClassFile.decode (pm_bytes 75) 27 = .ok (.iinc 1 (1), 3) := by decide +kernel
theorem i_75_30 : Jvm.ClassFile.decode (pm_bytes 75) 30 = .ok (.goto (-28), 3) := by decide +kernel
theorem i_75_33 : Jvm.ClassFile.decode (pm_bytes 75) 33 = .ok (.return_, 1) := by decide +kernel
theorem f_76_38 : (pm_own 76, 38, 6, 9) ∈ pm_fld := f6_38
theorem f_76_42 : (pm_own 76, 42, 6, 10) ∈ pm_fld := f6_42
theorem m_76 : pm_mL 76 = 2 := rfl
theorem r_76 : pm_ret 76 = 0 := rfl
theorem i_76_0 : Jvm.ClassFile.decode (pm_bytes 76) 0 = .ok (.iconst 0, 1) := by decide +kernel
theorem i_76_1 : Jvm.ClassFile.decode (pm_bytes 76) 1 = .ok (.istore_n 1, 1) := by decide +kernel
theorem i_76_2 : Jvm.ClassFile.decode (pm_bytes 76) 2 = .ok (.iload_n 1, 1) := by decide +kernel
theorem i_76_3 : Jvm.ClassFile.decode (pm_bytes 76) 3 = .ok (.bipush (12), 2) := by decide +kernel
theorem i_76_5 : Jvm.ClassFile.decode (pm_bytes 76) 5 = .ok (.if_icmp .ge (21), 3) := by decide +kernel
theorem i_76_8 : Jvm.ClassFile.decode (pm_bytes 76) 8 = .ok (.aload_n 0, 1) := by decide +kernel
theorem i_76_9 : Jvm.ClassFile.decode (pm_bytes 76) 9 = .ok (.getfield 38, 3) := by decide +kernel
theorem i_76_12 : Jvm.ClassFile.decode (pm_bytes 76) 12 = .ok (.iload_n 1, 1) := by decide +kernel
theorem i_76_13 : Jvm.ClassFile.decode (pm_bytes 76) 13 = .ok (.aload_n 0, 1) := by decide +kernel
theorem i_76_14 : Jvm.ClassFile.decode (pm_bytes 76) 14 = .ok (.getfield 42, 3) := by decide +kernel
theorem i_76_17 : Jvm.ClassFile.decode (pm_bytes 76) 17 = .ok (.iload_n 1, 1) := by decide +kernel
theorem i_76_18 : Jvm.ClassFile.decode (pm_bytes 76) 18 = .ok (.baload, 1) := by decide +kernel
theorem i_76_19 : Jvm.ClassFile.decode (pm_bytes 76) 19 = .ok (.bastore, 1) := by decide +kernel
theorem i_76_20 : Jvm.ClassFile.decode (pm_bytes 76) 20 = .ok (.iinc 1 (1), 3) := by decide +kernel
theorem i_76_23 : Jvm.ClassFile.decode (pm_bytes 76) 23 = .ok (.goto (-21), 3) := by decide +kernel
theorem i_76_26 : Jvm.ClassFile.decode (pm_bytes 76) 26 = .ok (.return_, 1) := by decide +kernel
theorem f_77_45 : (pm_own 77, 45, 6, 11) ∈ pm_fld := f6_45
theorem k_77_63 : (pm_own 77, 63, 75, 1, (some 6 : Option Nat)) ∈ pm_call ∧ pm_rank 75 < pm_rank 77 := ⟨k6_63, by decide⟩
theorem k_77_66 : (pm_own 77, 66, 73, 1, (some 6 : Option Nat)) ∈ pm_call ∧ pm_rank 73 < pm_rank 77 := ⟨k6_66, by decide⟩
theorem k_77_69 : (pm_own 77, 69, 74, 1, (some 6 : Option Nat)) ∈ pm_call ∧ pm_rank 74 < pm_rank 77 := ⟨k6_69, by decide⟩
theorem k_77_73 : (pm_own 77, 73, 76, 1, (some 6 : Option Nat)) ∈ pm_call ∧ pm_rank 76 < pm_rank 77 := ⟨k6_73, by decide⟩
theorem m_77 : pm_mL 77 = 6 := rfl
theorem r_77 : pm_ret 77 = 2 := rfl
theorem i_77_0 : Jvm.ClassFile.decode (pm_bytes 77) 0 = .ok (.aload_n 0, 1) := by decide +kernel
theorem i_77_1 : Jvm.ClassFile.decode (pm_bytes 77) 1 = .ok (.invokevirtual 63, 3) := by decide +kernel
theorem i_77_4 : Jvm.ClassFile.decode (pm_bytes 77) 4 = .ok (.iconst 1, 1) := by decide +kernel
theorem i_77_5 : Jvm.ClassFile.decode (pm_bytes 77) 5 = .ok (.istore_n 3, 1) := by decide +kernel
theorem i_77_6 : Jvm.ClassFile.decode (pm_bytes 77) 6 = .ok (.iload_n 3, 1) := by decide +kernel
theorem i_77_7 : Jvm.ClassFile.decode (pm_bytes 77) 7 = .ok (.ifCond .eq (64), 3) := by decide +kernel
theorem i_77_10 : Jvm.ClassFile.decode (pm_bytes 77) 10 = .ok (.aload_n 0, 1) := by decide +kernel
theorem i_77_11 : Jvm.ClassFile.decode (pm_bytes 77) 11 = .ok (.invokevirtual 66, 3) := by decide +kernel
theorem i_77_14 : Jvm.ClassFile.decode (pm_bytes 77) 14 = .ok (.iconst 1, 1) := by decide +kernel
theorem i_77_15 : Jvm.ClassFile.decode (pm_bytes 77) 15 = .ok (.istore 4, 2) := by decide +kernel
theorem i_77_17 : Jvm.ClassFile.decode (pm_bytes 77) 17 = .ok (.iconst 0, 1) := by decide +kernel
theorem i_77_18 : Jvm.ClassFile.decode (pm_bytes 77) 18 = .ok (.istore 5, 2) := by decide +kernel
theorem i_77_20 : Jvm.ClassFile.decode (pm_bytes 77) 20 = .ok (.iload 5, 2) := by decide +kernel
theorem i_77_22 : Jvm.ClassFile.decode (pm_bytes 77) 22 = .ok (.iload_n 2, 1) := by decide +kernel
theorem i_77_23 : Jvm.ClassFile.decode (pm_bytes 77) 23 = .ok (.if_icmp .ge (33), 3) := by decide +kernel
theorem i_77_26 : Jvm.ClassFile.decode (pm_bytes 77) 26 = .ok (.iload 4, 2) := by decide +kernel
theorem i_77_28 : Jvm.ClassFile.decode (pm_bytes 77) 28 = .ok (.ifCond .eq (19), 3) := by decide +kernel
theorem i_77_31 : Jvm.ClassFile.decode (pm_bytes 77) 31 = .ok (.aload_n 0, 1) := by decide +kernel
theorem i_77_32 : Jvm.ClassFile.decode (pm_bytes 77) 32 = .ok (.getfield 45, 3) := by decide +kernel
theorem i_77_35 : Jvm.ClassFile.decode (pm_bytes 77) 35 = .ok (.aload_n 1, 1) := by decide +kernel
theorem i_77_36 : Jvm.ClassFile.decode (pm_bytes 77) 36 = .ok (.iload 5, 2) := by decide +kernel
theorem i_77_38 : Jvm.ClassFile.decode (pm_bytes 77) 38 = .ok (.iaload, 1) := by decide +kernel
theorem i_77_39 : Jvm.ClassFile.decode (pm_bytes 77) 39 = .ok (.baload, 1) := by decide +kernel
theorem i_77_40 : Jvm.ClassFile.decode (pm_bytes 77) 40 = .ok (.ifCond .eq (7), 3) := by decide +kernel
theorem i_77_43 : Jvm.ClassFile.decode (pm_bytes 77) 43 = .ok (.iconst 1, 1) := by decide +kernel
theorem i_77_44 : Jvm.ClassFile.decode (pm_bytes 77) 44 = .ok (.goto (4), 3) := by decide +kernel
theorem i_77_47 : Jvm.ClassFile.decode (pm_bytes 77) 47 = .ok (.iconst 0, 1) := by decide +kernel
theorem i_77_48 : Jvm.ClassFile.decode (pm_bytes 77) 48 = .ok (.istore 4, 2) := by decide +kernel
theorem i_77_50 : Jvm.ClassFile.decode (pm_bytes 77) 50 = .ok (.iinc 5 (1), 3) := by decide +kernel
theorem i_77_53 : Jvm.ClassFile.decode (pm_bytes 77) 53 = .ok (.goto (-33), 3) := by decide +kernel
theorem i_77_56 : Jvm.ClassFile.decode (pm_bytes 77) 56 = .ok (.iload 4, 2) := by decide +kernel
theorem i_77_58 : Jvm.ClassFile.decode (pm_bytes 77) 58 = .ok (.ifCond .eq (5), 3) := by decide +kernel
theorem i_77_61 : Jvm.ClassFile.decode (pm_bytes 77) 61 = .ok (.iconst 1, 1) := by decide +kernel
theorem i_77_62 : Jvm.ClassFile.decode (pm_bytes 77) 62 = .ok (.ireturn, 1) := by decide +kernel
theorem i_77_63 : Jvm.ClassFile.decode (pm_bytes 77) 63 = .ok (.aload_n 0, 1) := by decide +kernel
theorem i_77_64 : Jvm.ClassFile.decode (pm_bytes 77) 64 = .ok (.invokevirtual 69, 3) := by decide +kernel
theorem i_77_67 : Jvm.ClassFile.decode (pm_bytes 77) 67 = .ok (.istore_n 3, 1) := by decide +kernel
theorem i_77_68 : Jvm.ClassFile.decode (pm_bytes 77) 68 = .ok (.goto (-62), 3) := by decide +kernel
theorem i_77_71 : Jvm.ClassFile.decode (pm_bytes 77) 71 = .ok (.aload_n 0, 1) := by decide +kernel
theorem i_77_72 : Jvm.ClassFile.decode (pm_bytes 77) 72 = .ok (.invokevirtual 73, 3) := by decide +kernel
theorem i_77_75 : Jvm.ClassFile.decode (pm_bytes 77) 75 = .ok (.iconst 0, 1) := by decide +kernel
theorem i_77_76 : Jvm.ClassFile.decode (pm_bytes 77) 76 = .ok (.ireturn, 1) := by decide +kernel
theorem f_78_7 : (pm_own 78, 7, 6, 0) ∈ pm_fld := f6_7
theorem f_78_19 : (pm_own 78, 19, 6, 3) ∈ pm_fld := f6_19
theorem f_78_35 : (pm_own 78, 35, 6, 8) ∈ pm_fld := f6_35
theorem k_78_76 : (pm_own 78, 76, 77, 3, (some 6 : Option Nat)) ∈ pm_call ∧ pm_rank 77 < pm_rank 78 := ⟨k6_76, by decide⟩
theorem m_78 : pm_mL 78 = 1 := rfl
theorem r_78 : pm_ret 78 = 2 := rfl
theorem i_78_0 : Jvm.ClassFile.decode (pm_bytes 78) 0 = .ok (.aload_n 0, 1) := by decide +kernel
theorem i_78_1 : Jvm.ClassFile.decode (pm_bytes 78) 1 = .ok (.iconst 0, 1) := by decide +kernel
theorem i_78_2 : Jvm.ClassFile.decode (pm_bytes 78) 2 = .ok (.putfield 7, 3) := by decide +kernel
theorem i_78_5 : Jvm.ClassFile.decode (pm_bytes 78) 5 = .ok (.aload_n 0, 1) := by decide +kernel
theorem i_78_6 : Jvm.ClassFile.decode (pm_bytes 78) 6 = .ok (.aload_n 0, 1) := by decide +kernel
theorem i_78_7 : Jvm.ClassFile.decode (pm_bytes 78) 7 = .ok (.getfield 35, 3) := by decide +kernel
theorem i_78_10 : Jvm.ClassFile.decode (pm_bytes 78) 10 = .ok (.aload_n 0, 1) := by decide +kernel
theorem i_78_11 : Jvm.ClassFile.decode (pm_bytes 78) 11 = .ok (.getfield 19, 3) := by decide +kernel
theorem i_78_14 : Jvm.ClassFile.decode (pm_bytes 78) 14 = .ok (.invokevirtual 76, 3) := by decide +kernel
theorem i_78_17 : Jvm.ClassFile.decode (pm_bytes 78) 17 = .ok (.ireturn, 1) := by decide +kernel
theorem f_79_7 : (pm_own 79, 7, 6, 0) ∈ pm_fld := f6_7
theorem f_79_19 : (pm_own 79, 19, 6, 3) ∈ pm_fld := f6_19
theorem f_79_35 : (pm_own 79, 35, 6, 8) ∈ pm_fld := f6_35
theorem f_79_48 : (pm_own 79, 48, 6, 12) ∈ pm_fld := f6_48
theorem k_79_73 : (pm_own 79, 73, 76, 1, (some 6 : Option Nat)) ∈ pm_call ∧ pm_rank 76 < pm_rank 79 := ⟨k6_73, by decide⟩
theorem k_79_76 : (pm_own 79, 76, 77, 3, (some 6 : Option Nat)) ∈ pm_call ∧ pm_rank 77 < pm_rank 79 := ⟨k6_76, by decide⟩
theorem m_79 : pm_mL 79 = 4 := rfl
theorem r_79 : pm_ret 79 = 1 := rfl
theorem i_79_0 : Jvm.ClassFile.decode (pm_bytes 79) 0 = .ok (.aload_n 0, 1) := by decide +kernel
theorem i_79_1 : Jvm.ClassFile.decode (pm_bytes 79) 1 = .ok (.iconst 0, 1) := by decide +kernel
theorem i_79_2 : Jvm.ClassFile.decode (pm_bytes 79) 2 = .ok (.putfield 7, 3) := by decide +kernel
theorem i_79_5 : Jvm.ClassFile.decode (pm_bytes 79) 5 = .ok (.aload_n 0, 1) := by decide +kernel
theorem i_79_6 : Jvm.ClassFile.decode (pm_bytes 79) 6 = .ok (.aload_n 0, 1) := by decide +kernel
theorem i_79_7 : Jvm.ClassFile.decode (pm_bytes 79) 7 = .ok (.getfield 35, 3) := by decide +kernel
theorem i_79_10 : Jvm.ClassFile.decode (pm_bytes 79) 10 = .ok (.aload_n 0, 1) := by decide +kernel
theorem i_79_11 : Jvm.ClassFile.decode (pm_bytes 79) 11 = .ok (.getfield 19, 3) := by decide +kernel
theorem i_79_14 : Jvm.ClassFile.decode (pm_bytes 79) 14 = .ok (.invokevirtual 76, 3) := by decide +kernel
theorem i_79_17 : Jvm.ClassFile.decode (pm_bytes 79) 17 = .ok (.ifCond .eq (9), 3) := by decide +kernel
theorem i_79_20 : Jvm.ClassFile.decode (pm_bytes 79) 20 = .ok (.aload_n 0, 1) := by decide +kernel
theorem i_79_21 : Jvm.ClassFile.decode (pm_bytes 79) 21 = .ok (.invokevirtual 73, 3) := by decide +kernel
theorem i_79_24 : Jvm.ClassFile.decode (pm_bytes 79) 24 = .ok (.iconst (-1), 1) := by decide +kernel
theorem i_79_25 : Jvm.ClassFile.decode (pm_bytes 79) 25 = .ok (.ireturn, 1) := by decide +kernel
theorem i_79_26 : Jvm.ClassFile.decode (pm_bytes 79) 26 = .ok (.iconst 0, 1) := by decide +kernel
theorem i_79_27 : Jvm.ClassFile.decode (pm_bytes 79) 27 = .ok (.istore_n 1, 1) := by decide +kernel
theorem i_79_28 : Jvm.ClassFile.decode (pm_bytes 79) 28 = .ok (.iload_n 1, 1) := by decide +kernel
theorem i_79_29 : Jvm.ClassFile.decode (pm_bytes 79) 29 = .ok (.aload_n 0, 1) := by decide +kernel
theorem i_79_30 : Jvm.ClassFile.decode (pm_bytes 79) 30 = .ok (.getfield 19, 3) := by decide +kernel
theorem i_79_33 : Jvm.ClassFile.decode (pm_bytes 79) 33 = .ok (.if_icmp .ge (96), 3) := by decide +kernel
theorem i_79_36 : Jvm.ClassFile.decode (pm_bytes 79) 36 = .ok (.iconst 0, 1) := by decide +kernel
theorem i_79_37 : Jvm.ClassFile.decode (pm_bytes 79) 37 = .ok (.istore_n 2, 1) := by decide +kernel
theorem i_79_38 : Jvm.ClassFile.decode (pm_bytes 79) 38 = .ok (.iconst 0, 1) := by decide +kernel
theorem i_79_39 : Jvm.ClassFile.decode (pm_bytes 79) 39 = .ok (.istore_n 3, 1) := by decide +kernel
theorem i_79_40 : Jvm.ClassFile.decode (pm_bytes 79) 40 = .ok (.iload_n 3, 1) := by decide +kernel
theorem i_79_41 : Jvm.ClassFile.decode (pm_bytes 79) 41 = .ok (.aload_n 0, 1) := by decide +kernel
theorem i_79_42 : Jvm.ClassFile.decode (pm_bytes 79) 42 = .ok (.getfield 19, 3) := by decide +kernel
theorem i_79_45 : Jvm.ClassFile.decode (pm_bytes 79) 45 = .ok (.if_icmp .ge (29), 3) := by decide +kernel
theorem i_79_48 : Jvm.ClassFile.decode (pm_bytes 79) 48 = .ok (.iload_n 3, 1) := by decide +kernel
theorem i_79_49 : Jvm.ClassFile.decode (pm_bytes 79) 49 = .ok (.iload_n 1, 1) := by decide +kernel
theorem i_79_50 : Jvm.ClassFile.decode (pm_bytes 79) 50 = .ok (.if_icmp .eq (18), 3) := by decide +kernel
theorem i_79_53 : Jvm.ClassFile.decode (pm_bytes 79) 53 = .ok (.aload_n 0, 1) := by decide +kernel
theorem i_79_54 : Jvm.ClassFile.decode (pm_bytes 79) 54 = .ok (.getfield 48, 3) := by decide +kernel
theorem i_79_57 : Jvm.ClassFile.decode (pm_bytes 79) 57 = .ok (.iload_n 2, 1) := by decide +kernel
theorem i_79_58 : Jvm.ClassFile.decode (pm_bytes 79) 58 = .ok (.iinc 2 (1), 3) := by decide +kernel
theorem i_79_61 : Jvm.ClassFile.decode (pm_bytes 79) 61 = .ok (.aload_n 0, 1) := by decide +kernel
theorem i_79_62 : Jvm.ClassFile.decode (pm_bytes 79) 62 = .ok (.getfield 35, 3) := by decide +kernel
theorem i_79_65 : Jvm.ClassFile.decode (pm_bytes 79) 65 = .ok (.iload_n 3, 1) := by decide +kernel
theorem i_79_66 : Jvm.ClassFile.decode (pm_bytes 79) 66 = .ok (.iaload, 1) := by decide +kernel
theorem i_79_67 : Jvm.ClassFile.decode (pm_bytes 79) 67 = .ok (.iastore, 1) := by decide +kernel
theorem i_79_68 : Jvm.ClassFile.decode (pm_bytes 79) 68 = .ok (.iinc 3 (1), 3) := by decide +kernel
theorem i_79_71 : Jvm.ClassFile.decode (pm_bytes 79) 71 = .ok (.goto (-31), 3) := by decide +kernel
theorem i_79_74 : Jvm.ClassFile.decode (pm_bytes 79) 74 = .ok (.aload_n 0, 1) := by decide +kernel
theorem i_79_75 : Jvm.ClassFile.decode (pm_bytes 79) 75 = .ok (.aload_n 0, 1) := by decide +kernel
theorem i_79_76 : Jvm.ClassFile.decode (pm_bytes 79) 76 = .ok (.getfield 48, 3) := by decide +kernel
theorem i_79_79 : Jvm.ClassFile.decode (pm_bytes 79) 79 = .ok (.iload_n 2, 1) := by decide +kernel
theorem i_79_80 : Jvm.ClassFile.decode (pm_bytes 79) 80 = .ok (.invokevirtual 76, 3) := by decide +kernel
theorem i_79_83 : Jvm.ClassFile.decode (pm_bytes 79) 83 = .ok (.ifCond .eq (13), 3) := by decide +kernel
theorem i_79_86 : Jvm.ClassFile.decode (pm_bytes 79) 86 = .ok (.aload_n 0, 1) := by decide +kernel
theorem i_79_87 : Jvm.ClassFile.decode (pm_bytes 79) 87 = .ok (.invokevirtual 73, 3) := by decide +kernel
theorem i_79_90 : Jvm.ClassFile.decode (pm_bytes 79) 90 = .ok (.iinc 1 (1), 3) := by decide +kernel
theorem i_79_93 : Jvm.ClassFile.decode (pm_bytes 79) 93 = .ok (.goto (33), 3) := by decide +kernel
theorem i_79_96 : Jvm.ClassFile.decode (pm_bytes 79) 96 = .ok (.aload_n 0, 1) := by decide +kernel
theorem i_79_97 : Jvm.ClassFile.decode (pm_bytes 79) 97 = .ok (.iload_n 2, 1) := by decide +kernel
theorem i_79_98 : Jvm.ClassFile.decode (pm_bytes 79) 98 = .ok (.putfield 19, 3) := by decide +kernel
theorem i_79_101 : Jvm.ClassFile.decode (pm_bytes 79) 101 = .ok (.iconst 0, 1) := by decide +kernel
theorem i_79_102 : Jvm.ClassFile.decode (pm_bytes 79) 102 = .ok (.istore_n 3, 1) := by decide +kernel
theorem i_79_103 : Jvm.ClassFile.decode (pm_bytes 79) 103 = .ok (.iload_n 3, 1) := by decide +kernel
theorem i_79_104 : Jvm.ClassFile.decode (pm_bytes 79) 104 = .ok (.iload_n 2, 1) := by decide +kernel
theorem i_79_105 : Jvm.ClassFile.decode (pm_bytes 79) 105 = .ok (.if_icmp .ge (21), 3) := by decide +kernel
theorem i_79_108 : Jvm.ClassFile.decode (pm_bytes 79) 108 = .ok (.aload_n 0, 1) := by decide +kernel
theorem i_79_109 : Jvm.ClassFile.decode (pm_bytes 79) 109 = .ok (.getfield 35, 3) := by decide +kernel
theorem i_79_112 : Jvm.ClassFile.decode (pm_bytes 79) 112 = .ok (.iload_n 3, 1) := by decide +kernel
theorem i_79_113 : Jvm.ClassFile.decode (pm_bytes 79) 113 = .ok (.aload_n 0, 1) := by decide +kernel
theorem i_79_114 : Jvm.ClassFile.decode (pm_bytes 79) 114 = .ok (.getfield 48, 3) := by decide +kernel
theorem i_79_117 : Jvm.ClassFile.decode (pm_bytes 79) 117 = .ok (.iload_n 3, 1) := by decide +kernel
theorem i_79_118 : Jvm.ClassFile.decode (pm_bytes 79) 118 = .ok (.iaload, 1) := by decide +kernel
theorem i_79_119 : Jvm.ClassFile.decode (pm_bytes 79) 119 = .ok (.iastore, 1) := by decide +kernel
theorem i_79_120 : Jvm.ClassFile.decode (pm_bytes 79) 120 = .ok (.iinc 3 (1), 3) := by decide +kernel
theorem i_79_123 : Jvm.ClassFile.decode (pm_bytes 79) 123 = .ok (.goto (-20), 3) := by decide +kernel
theorem i_79_126 : Jvm.ClassFile.decode (pm_bytes 79) 126 = .ok (.goto (-98), 3) := by decide +kernel
theorem i_79_129 : Jvm.ClassFile.decode (pm_bytes 79) 129 = .ok (.aload_n 0, 1) := by decide +kernel
theorem i_79_130 : Jvm.ClassFile.decode (pm_bytes 79) 130 = .ok (.getfield 19, 3) := by decide +kernel
theorem i_79_133 : Jvm.ClassFile.decode (pm_bytes 79) 133 = .ok (.ireturn, 1) := by decide +kernel
