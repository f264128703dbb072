/-! fetch rows of the methods 80 to 94, laid by wip/whole/gen/fetch.py -/
theorem f_80_7 : (pm_own 80, 7, 6, 0) ∈ pm_fld := f6_7
theorem f_80_19 : (pm_own 80, 19, 6, 3) ∈ pm_fld := f6_19
theorem f_80_35 : (pm_own 80, 35, 6, 8) ∈ pm_fld := f6_35
theorem k_80_51 : (pm_own 80, 51, 64, 3, (some 6 : Option Nat)) ∈ pm_call ∧ pm_rank 64 < pm_rank 80 := ⟨k6_51, by decide⟩
theorem m_80 : pm_mL 80 = 2 := rfl
theorem r_80 : pm_ret 80 = 1 := rfl
theorem i_80_0 : Jvm.ClassFile.decode (pm_bytes 80) 0 = .ok (.aload_n 0, 1) := by decide +kernel
theorem i_80_1 : Jvm.ClassFile.decode (pm_bytes 80) 1 = .ok (.iconst 0, 1) := by decide +kernel
theorem i_80_2 : Jvm.ClassFile.decode (pm_bytes 80) 2 = .ok (.putfield 7, 3) := by decide +kernel
theorem i_80_5 : Jvm.ClassFile.decode (pm_bytes 80) 5 = .ok (.aload_n 0, 1) := by decide +kernel
theorem i_80_6 : Jvm.ClassFile.decode (pm_bytes 80) 6 = .ok (.iconst 1, 1) := by decide +kernel
theorem i_80_7 : Jvm.ClassFile.decode (pm_bytes 80) 7 = .ok (.iload_n 1, 1) := by decide +kernel
theorem i_80_8 : Jvm.ClassFile.decode (pm_bytes 80) 8 = .ok (.ifCond .lt (11), 3) := by decide +kernel
theorem i_80_11 : Jvm.ClassFile.decode (pm_bytes 80) 11 = .ok (.iload_n 1, 1) := by decide +kernel
theorem i_80_12 : Jvm.ClassFile.decode (pm_bytes 80) 12 = .ok (.aload_n 0, 1) := by decide +kernel
theorem i_80_13 : Jvm.ClassFile.decode (pm_bytes 80) 13 = .ok (.getfield 19, 3) := by decide +kernel
theorem i_80_16 : Jvm.ClassFile.decode (pm_bytes 80) 16 = .ok (.if_icmp .lt (7), 3) := by decide +kernel
theorem i_80_19 : Jvm.ClassFile.decode (pm_bytes 80) 19 = .ok (.iconst 1, 1) := by decide +kernel
theorem i_80_20 : Jvm.ClassFile.decode (pm_bytes 80) 20 = .ok (.goto (4), 3) := by decide +kernel
theorem i_80_23 : Jvm.ClassFile.decode (pm_bytes 80) 23 = .ok (.iconst 0, 1) := by decide +kernel
theorem i_80_24 : Jvm.ClassFile.decode (pm_bytes 80) 24 = .ok (.invokevirtual 51, 3) := by decide +kernel
theorem i_80_27 : Jvm.ClassFile.decode (pm_bytes 80) 27 = .ok (.ifCond .eq (5), 3) := by decide +kernel
theorem i_80_30 : Jvm.ClassFile.decode (pm_bytes 80) 30 = .ok (.iconst 0, 1) := by decide +kernel
theorem i_80_31 : Jvm.ClassFile.decode (pm_bytes 80) 31 = .ok (.ireturn, 1) := by decide +kernel
theorem i_80_32 : Jvm.ClassFile.decode (pm_bytes 80) 32 = .ok (.aload_n 0, 1) := by decide +kernel
theorem i_80_33 : Jvm.ClassFile.decode (pm_bytes 80) 33 = .ok (.getfield 35, 3) := by decide +kernel
theorem i_80_36 : Jvm.ClassFile.decode (pm_bytes 80) 36 = .ok (.iload_n 1, 1) := by decide +kernel
theorem i_80_37 : Jvm.ClassFile.decode (pm_bytes 80) 37 = .ok (.iaload, 1) := by decide +kernel
theorem i_80_38 : Jvm.ClassFile.decode (pm_bytes 80) 38 = .ok (.ireturn, 1) := by decide +kernel
theorem f_81_7 : (pm_own 81, 7, 6, 0) ∈ pm_fld := f6_7
theorem f_81_45 : (pm_own 81, 45, 6, 11) ∈ pm_fld := f6_45
theorem k_81_51 : (pm_own 81, 51, 64, 3, (some 6 : Option Nat)) ∈ pm_call ∧ pm_rank 64 < pm_rank 81 := ⟨k6_51, by decide⟩
theorem k_81_59 : (pm_own 81, 59, 65, 2, (some 6 : Option Nat)) ∈ pm_call ∧ pm_rank 65 < pm_rank 81 := ⟨k6_59, by decide⟩
theorem k_81_63 : (pm_own 81, 63, 75, 1, (some 6 : Option Nat)) ∈ pm_call ∧ pm_rank 75 < pm_rank 81 := ⟨k6_63, by decide⟩
theorem k_81_66 : (pm_own 81, 66, 73, 1, (some 6 : Option Nat)) ∈ pm_call ∧ pm_rank 73 < pm_rank 81 := ⟨k6_66, by decide⟩
theorem k_81_69 : (pm_own 81, 69, 74, 1, (some 6 : Option Nat)) ∈ pm_call ∧ pm_rank 74 < pm_rank 81 := ⟨k6_69, by decide⟩
theorem k_81_73 : (pm_own 81, 73, 76, 1, (some 6 : Option Nat)) ∈ pm_call ∧ pm_rank 76 < pm_rank 81 := ⟨k6_73, by decide⟩
theorem m_81 : pm_mL 81 = 4 := rfl
theorem r_81 : pm_ret 81 = 2 := rfl
theorem i_81_0 : Jvm.ClassFile.decode (pm_bytes 81) 0 = .ok (.aload_n 0, 1) := by decide +kernel
theorem i_81_1 : Jvm.ClassFile.decode (pm_bytes 81) 1 = .ok (.iconst 0, 1) := by decide +kernel
theorem i_81_2 : Jvm.ClassFile.decode (pm_bytes 81) 2 = .ok (.putfield 7, 3) := by decide +kernel
theorem i_81_5 : Jvm.ClassFile.decode (pm_bytes 81) 5 = .ok (.aload_n 0, 1) := by decide +kernel
theorem i_81_6 : Jvm.ClassFile.decode (pm_bytes 81) 6 = .ok (.iconst 1, 1) := by decide +kernel
theorem i_81_7 : Jvm.ClassFile.decode (pm_bytes 81) 7 = .ok (.aload_n 0, 1) := by decide +kernel
theorem i_81_8 : Jvm.ClassFile.decode (pm_bytes 81) 8 = .ok (.iload_n 1, 1) := by decide +kernel
theorem i_81_9 : Jvm.ClassFile.decode (pm_bytes 81) 9 = .ok (.invokevirtual 59, 3) := by decide +kernel
theorem i_81_12 : Jvm.ClassFile.decode (pm_bytes 81) 12 = .ok (.ifCond .ne (11), 3) := by decide +kernel
theorem i_81_15 : Jvm.ClassFile.decode (pm_bytes 81) 15 = .ok (.aload_n 0, 1) := by decide +kernel
theorem i_81_16 : Jvm.ClassFile.decode (pm_bytes 81) 16 = .ok (.iload_n 2, 1) := by decide +kernel
theorem i_81_17 : Jvm.ClassFile.decode (pm_bytes 81) 17 = .ok (.invokevirtual 59, 3) := by decide +kernel
theorem i_81_20 : Jvm.ClassFile.decode (pm_bytes 81) 20 = .ok (.ifCond .eq (7), 3) := by decide +kernel
theorem i_81_23 : Jvm.ClassFile.decode (pm_bytes 81) 23 = .ok (.iconst 1, 1) := by decide +kernel
theorem i_81_24 : Jvm.ClassFile.decode (pm_bytes 81) 24 = .ok (.goto (4), 3) := by decide +kernel
theorem i_81_27 : Jvm.ClassFile.decode (pm_bytes 81) 27 = .ok (.iconst 0, 1) := by decide +kernel
theorem i_81_28 : Jvm.ClassFile.decode (pm_bytes 81) 28 = .ok (.invokevirtual 51, 3) := by decide +kernel
theorem i_81_31 : Jvm.ClassFile.decode (pm_bytes 81) 31 = .ok (.ifCond .eq (5), 3) := by decide +kernel
theorem i_81_34 : Jvm.ClassFile.decode (pm_bytes 81) 34 = .ok (.iconst 0, 1) := by decide +kernel
theorem i_81_35 : Jvm.ClassFile.decode (pm_bytes 81) 35 = .ok (.ireturn, 1) := by decide +kernel
theorem i_81_36 : Jvm.ClassFile.decode (pm_bytes 81) 36 = .ok (.aload_n 0, 1) := by decide +kernel
theorem i_81_37 : Jvm.ClassFile.decode (pm_bytes 81) 37 = .ok (.invokevirtual 63, 3) := by decide +kernel
theorem i_81_40 : Jvm.ClassFile.decode (pm_bytes 81) 40 = .ok (.iconst 1, 1) := by decide +kernel
theorem i_81_41 : Jvm.ClassFile.decode (pm_bytes 81) 41 = .ok (.istore_n 3, 1) := by decide +kernel
theorem i_81_42 : Jvm.ClassFile.decode (pm_bytes 81) 42 = .ok (.iload_n 3, 1) := by decide +kernel
theorem i_81_43 : Jvm.ClassFile.decode (pm_bytes 81) 43 = .ok (.ifCond .eq (32), 3) := by decide +kernel
theorem i_81_46 : Jvm.ClassFile.decode (pm_bytes 81) 46 = .ok (.aload_n 0, 1) := by decide +kernel
theorem i_81_47 : Jvm.ClassFile.decode (pm_bytes 81) 47 = .ok (.invokevirtual 66, 3) := by decide +kernel
theorem i_81_50 : Jvm.ClassFile.decode (pm_bytes 81) 50 = .ok (.aload_n 0, 1) := by decide +kernel
theorem i_81_51 : Jvm.ClassFile.decode (pm_bytes 81) 51 = .ok (.getfield 45, 3) := by decide +kernel
theorem i_81_54 : Jvm.ClassFile.decode (pm_bytes 81) 54 = .ok (.iload_n 1, 1) := by decide +kernel
theorem i_81_55 : Jvm.ClassFile.decode (pm_bytes 81) 55 = .ok (.baload, 1) := by decide +kernel
theorem i_81_56 : Jvm.ClassFile.decode (pm_bytes 81) 56 = .ok (.aload_n 0, 1) := by decide +kernel
theorem i_81_57 : Jvm.ClassFile.decode (pm_bytes 81) 57 = .ok (.getfield 45, 3) := by decide +kernel
theorem i_81_60 : Jvm.ClassFile.decode (pm_bytes 81) 60 = .ok (.iload_n 2, 1) := by decide +kernel
theorem i_81_61 : Jvm.ClassFile.decode (pm_bytes 81) 61 = .ok (.baload, 1) := by decide +kernel
theorem i_81_62 : Jvm.ClassFile.decode (pm_bytes 81) 62 = .ok (.if_icmp .eq (5), 3) := by decide +kernel
theorem i_81_65 : Jvm.ClassFile.decode (pm_bytes 81) 65 = .ok (.iconst 0, 1) := by decide +kernel
theorem i_81_66 : Jvm.ClassFile.decode (pm_bytes 81) 66 = .ok (.ireturn, 1) := by decide +kernel
theorem i_81_67 : Jvm.ClassFile.decode (pm_bytes 81) 67 = .ok (.aload_n 0, 1) := by decide +kernel
theorem i_81_68 : Jvm.ClassFile.decode (pm_bytes 81) 68 = .ok (.invokevirtual 69, 3) := by decide +kernel
theorem i_81_71 : Jvm.ClassFile.decode (pm_bytes 81) 71 = .ok (.istore_n 3, 1) := by decide +kernel
theorem i_81_72 : Jvm.ClassFile.decode (pm_bytes 81) 72 = .ok (.goto (-30), 3) := by decide +kernel
theorem i_81_75 : Jvm.ClassFile.decode (pm_bytes 81) 75 = .ok (.aload_n 0, 1) := by decide +kernel
theorem i_81_76 : Jvm.ClassFile.decode (pm_bytes 81) 76 = .ok (.invokevirtual 73, 3) := by decide +kernel
theorem i_81_79 : Jvm.ClassFile.decode (pm_bytes 81) 79 = .ok (.iconst 1, 1) := by decide +kernel
theorem i_81_80 : Jvm.ClassFile.decode (pm_bytes 81) 80 = .ok (.ireturn, 1) := by decide +kernel
theorem f_82_7 : (pm_own 82, 7, 6, 0) ∈ pm_fld := f6_7
theorem f_82_16 : (pm_own 82, 16, 6, 2) ∈ pm_fld := f6_16
theorem f_82_38 : (pm_own 82, 38, 6, 9) ∈ pm_fld := f6_38
theorem k_82_51 : (pm_own 82, 51, 64, 3, (some 6 : Option Nat)) ∈ pm_call ∧ pm_rank 64 < pm_rank 82 := ⟨k6_51, by decide⟩
theorem m_82 : pm_mL 82 = 4 := rfl
theorem r_82 : pm_ret 82 = 2 := rfl
theorem i_82_0 : Jvm.ClassFile.decode (pm_bytes 82) 0 = .ok (.aload_n 0, 1) := by decide +kernel
theorem i_82_1 : Jvm.ClassFile.decode (pm_bytes 82) 1 = .ok (.iconst 0, 1) := by decide +kernel
theorem i_82_2 : Jvm.ClassFile.decode (pm_bytes 82) 2 = .ok (.putfield 7, 3) := by decide +kernel
theorem i_82_5 : Jvm.ClassFile.decode (pm_bytes 82) 5 = .ok (.aload_n 0, 1) := by decide +kernel
theorem i_82_6 : Jvm.ClassFile.decode (pm_bytes 82) 6 = .ok (.iconst 1, 1) := by decide +kernel
theorem i_82_7 : Jvm.ClassFile.decode (pm_bytes 82) 7 = .ok (.iload_n 1, 1) := by decide +kernel
theorem i_82_8 : Jvm.ClassFile.decode (pm_bytes 82) 8 = .ok (.ifCond .lt (11), 3) := by decide +kernel
theorem i_82_11 : Jvm.ClassFile.decode (pm_bytes 82) 11 = .ok (.iload_n 1, 1) := by decide +kernel
theorem i_82_12 : Jvm.ClassFile.decode (pm_bytes 82) 12 = .ok (.aload_n 0, 1) := by decide +kernel
theorem i_82_13 : Jvm.ClassFile.decode (pm_bytes 82) 13 = .ok (.getfield 16, 3) := by decide +kernel
theorem i_82_16 : Jvm.ClassFile.decode (pm_bytes 82) 16 = .ok (.if_icmp .lt (7), 3) := by decide +kernel
theorem i_82_19 : Jvm.ClassFile.decode (pm_bytes 82) 19 = .ok (.iconst 1, 1) := by decide +kernel
theorem i_82_20 : Jvm.ClassFile.decode (pm_bytes 82) 20 = .ok (.goto (4), 3) := by decide +kernel
theorem i_82_23 : Jvm.ClassFile.decode (pm_bytes 82) 23 = .ok (.iconst 0, 1) := by decide +kernel
theorem i_82_24 : Jvm.ClassFile.decode (pm_bytes 82) 24 = .ok (.invokevirtual 51, 3) := by decide +kernel
theorem i_82_27 : Jvm.ClassFile.decode (pm_bytes 82) 27 = .ok (.ifCond .eq (5), 3) := by decide +kernel
theorem i_82_30 : Jvm.ClassFile.decode (pm_bytes 82) 30 = .ok (.iconst 0, 1) := by decide +kernel
theorem i_82_31 : Jvm.ClassFile.decode (pm_bytes 82) 31 = .ok (.ireturn, 1) := by decide +kernel
theorem i_82_32 : Jvm.ClassFile.decode (pm_bytes 82) 32 = .ok (.aload_n 0, 1) := by decide +kernel
theorem i_82_33 : Jvm.ClassFile.decode (pm_bytes 82) 33 = .ok (.getfield 38, 3) := by decide +kernel
theorem i_82_36 : Jvm.ClassFile.decode (pm_bytes 82) 36 = .ok (.iload_n 1, 1) := by decide +kernel
theorem i_82_37 : Jvm.ClassFile.decode (pm_bytes 82) 37 = .ok (.baload, 1) := by decide +kernel
theorem i_82_38 : Jvm.ClassFile.decode (pm_bytes 82) 38 = .ok (.istore_n 3, 1) := by decide +kernel
theorem i_82_39 : Jvm.ClassFile.decode (pm_bytes 82) 39 = .ok (.aload_n 0, 1) := by decide +kernel
theorem i_82_40 : Jvm.ClassFile.decode (pm_bytes 82) 40 = .ok (.getfield 38, 3) := by decide +kernel
theorem i_82_43 : Jvm.ClassFile.decode (pm_bytes 82) 43 = .ok (.iload_n 1, 1) := by decide +kernel
theorem i_82_44 : Jvm.ClassFile.decode (pm_bytes 82) 44 = .ok (.iload_n 2, 1) := by decide +kernel
theorem i_82_45 : Jvm.ClassFile.decode (pm_bytes 82) 45 = .ok (.bastore, 1) := by decide +kernel
theorem i_82_46 : Jvm.ClassFile.decode (pm_bytes 82) 46 = .ok (.iload_n 3, 1) := by decide +kernel
theorem i_82_47 : Jvm.ClassFile.decode (pm_bytes 82) 47 = .ok (.ireturn, 1) := by decide +kernel
theorem f_83_7 : (pm_own 83, 7, 6, 0) ∈ pm_fld := f6_7
theorem f_83_45 : (pm_own 83, 45, 6, 11) ∈ pm_fld := f6_45
theorem k_83_51 : (pm_own 83, 51, 64, 3, (some 6 : Option Nat)) ∈ pm_call ∧ pm_rank 64 < pm_rank 83 := ⟨k6_51, by decide⟩
theorem k_83_59 : (pm_own 83, 59, 65, 2, (some 6 : Option Nat)) ∈ pm_call ∧ pm_rank 65 < pm_rank 83 := ⟨k6_59, by decide⟩
theorem k_83_66 : (pm_own 83, 66, 73, 1, (some 6 : Option Nat)) ∈ pm_call ∧ pm_rank 73 < pm_rank 83 := ⟨k6_66, by decide⟩
theorem m_83 : pm_mL 83 = 2 := rfl
theorem r_83 : pm_ret 83 = 2 := rfl
theorem i_83_0 : Jvm.ClassFile.decode (pm_bytes 83) 0 = .ok (.aload_n 0, 1) := by decide +kernel
theorem i_83_1 : Jvm.ClassFile.decode (pm_bytes 83) 1 = .ok (.iconst 0, 1) := by decide +kernel
theorem i_83_2 : Jvm.ClassFile.decode (pm_bytes 83) 2 = .ok (.putfield 7, 3) := by decide +kernel
theorem i_83_5 : Jvm.ClassFile.decode (pm_bytes 83) 5 = .ok (.aload_n 0, 1) := by decide +kernel
theorem i_83_6 : Jvm.ClassFile.decode (pm_bytes 83) 6 = .ok (.iconst 1, 1) := by decide +kernel
theorem i_83_7 : Jvm.ClassFile.decode (pm_bytes 83) 7 = .ok (.aload_n 0, 1) := by decide +kernel
theorem i_83_8 : Jvm.ClassFile.decode (pm_bytes 83) 8 = .ok (.iload_n 1, 1) := by decide +kernel
theorem i_83_9 : Jvm.ClassFile.decode (pm_bytes 83) 9 = .ok (.invokevirtual 59, 3) := by decide +kernel
theorem i_83_12 : Jvm.ClassFile.decode (pm_bytes 83) 12 = .ok (.invokevirtual 51, 3) := by decide +kernel
theorem i_83_15 : Jvm.ClassFile.decode (pm_bytes 83) 15 = .ok (.ifCond .eq (5), 3) := by decide +kernel
theorem i_83_18 : Jvm.ClassFile.decode (pm_bytes 83) 18 = .ok (.iconst 0, 1) := by decide +kernel
theorem i_83_19 : Jvm.ClassFile.decode (pm_bytes 83) 19 = .ok (.ireturn, 1) := by decide +kernel
theorem i_83_20 : Jvm.ClassFile.decode (pm_bytes 83) 20 = .ok (.aload_n 0, 1) := by decide +kernel
theorem i_83_21 : Jvm.ClassFile.decode (pm_bytes 83) 21 = .ok (.invokevirtual 66, 3) := by decide +kernel
theorem i_83_24 : Jvm.ClassFile.decode (pm_bytes 83) 24 = .ok (.aload_n 0, 1) := by decide +kernel
theorem i_83_25 : Jvm.ClassFile.decode (pm_bytes 83) 25 = .ok (.getfield 45, 3) := by decide +kernel
theorem i_83_28 : Jvm.ClassFile.decode (pm_bytes 83) 28 = .ok (.iload_n 1, 1) := by decide +kernel
theorem i_83_29 : Jvm.ClassFile.decode (pm_bytes 83) 29 = .ok (.baload, 1) := by decide +kernel
theorem i_83_30 : Jvm.ClassFile.decode (pm_bytes 83) 30 = .ok (.ireturn, 1) := by decide +kernel
theorem f_84_7 : (pm_own 84, 7, 6, 0) ∈ pm_fld := f6_7
theorem m_84 : pm_mL 84 = 1 := rfl
theorem r_84 : pm_ret 84 = 1 := rfl
theorem i_84_0 : Jvm.ClassFile.decode (pm_bytes 84) 0 = .ok (.aload_n 0, 1) := by decide +kernel
theorem i_84_1 : Jvm.ClassFile.decode (pm_bytes 84) 1 = .ok (.iconst 0, 1) := by decide +kernel
theorem i_84_2 : Jvm.ClassFile.decode (pm_bytes 84) 2 = .ok (.putfield 7, 3) := by decide +kernel
theorem i_84_5 : Jvm.ClassFile.decode (pm_bytes 84) 5 = .ok (.iconst 0, 1) := by decide +kernel
theorem i_84_6 : Jvm.ClassFile.decode (pm_bytes 84) 6 = .ok (.ireturn, 1) := by decide +kernel
theorem f_85_7 : (pm_own 85, 7, 6, 0) ∈ pm_fld := f6_7
theorem f_85_13 : (pm_own 85, 13, 6, 1) ∈ pm_fld := f6_13
theorem f_85_16 : (pm_own 85, 16, 6, 2) ∈ pm_fld := f6_16
theorem f_85_19 : (pm_own 85, 19, 6, 3) ∈ pm_fld := f6_19
theorem m_85 : pm_mL 85 = 2 := rfl
theorem r_85 : pm_ret 85 = 1 := rfl
theorem i_85_0 : Jvm.ClassFile.decode (pm_bytes 85) 0 = .ok (.aload_n 0, 1) := by decide +kernel
theorem i_85_1 : Jvm.ClassFile.decode (pm_bytes 85) 1 = .ok (.iconst 0, 1) := by decide +kernel
theorem i_85_2 : Jvm.ClassFile.decode (pm_bytes 85) 2 = .ok (.putfield 7, 3) := by decide +kernel
theorem i_85_5 : Jvm.ClassFile.decode (pm_bytes 85) 5 = .ok (.iload_n 1, 1) := by decide +kernel
theorem i_85_6 : Jvm.ClassFile.decode (pm_bytes 85) 6 = .ok (.tableswitch (41) (0) (2) #[26, 31, 36], 26) := by decide +kernel
theorem i_85_32 : Jvm.ClassFile.decode (pm_bytes 85) 32 = .ok (.aload_n 0, 1) := by decide +kernel
theorem i_85_33 : Jvm.ClassFile.decode (pm_bytes 85) 33 = .ok (.getfield 13, 3) := by decide +kernel
theorem i_85_36 : Jvm.ClassFile.decode (pm_bytes 85) 36 = .ok (.ireturn, 1) := by decide +kernel
theorem i_85_37 : Jvm.ClassFile.decode (pm_bytes 85) 37 = .ok (.aload_n 0, 1) := by decide +kernel
theorem i_85_38 : Jvm.ClassFile.decode (pm_bytes 85) 38 = .ok (.getfield 16, 3) := by decide +kernel
theorem i_85_41 : Jvm.ClassFile.decode (pm_bytes 85) 41 = .ok (.ireturn, 1) := by decide +kernel
theorem i_85_42 : Jvm.ClassFile.decode (pm_bytes 85) 42 = .ok (.aload_n 0, 1) := by decide +kernel
theorem i_85_43 : Jvm.ClassFile.decode (pm_bytes 85) 43 = .ok (.getfield 19, 3) := by decide +kernel
theorem i_85_46 : Jvm.ClassFile.decode (pm_bytes 85) 46 = .ok (.ireturn, 1) := by decide +kernel
theorem i_85_47 : Jvm.ClassFile.decode (pm_bytes 85) 47 = .ok (.iconst (-1), 1) := by decide +kernel
theorem i_85_48 : Jvm.ClassFile.decode (pm_bytes 85) 48 = .ok (.ireturn, 1) := by decide +kernel
theorem k_86_7 : (pm_own 86, 7, 0, 1, (some 0 : Option Nat)) ∈ pm_call ∧ pm_rank 0 < pm_rank 86 := ⟨k7_7, by decide⟩
theorem m_86 : pm_mL 86 = 3 := rfl
theorem r_86 : pm_ret 86 = 1 := rfl
theorem i_86_0 : Jvm.ClassFile.decode (pm_bytes 86) 0 = .ok (.aload_n 1, 1) := by decide +kernel
theorem i_86_1 : Jvm.ClassFile.decode (pm_bytes 86) 1 = .ok (.iconst 0, 1) := by decide +kernel
theorem i_86_2 : Jvm.ClassFile.decode (pm_bytes 86) 2 = .ok (.aload_n 0, 1) := by decide +kernel
theorem i_86_3 : Jvm.ClassFile.decode (pm_bytes 86) 3 = .ok (.invokevirtual 7, 3) := by decide +kernel
theorem i_86_6 : Jvm.ClassFile.decode (pm_bytes 86) 6 = .ok (.i2l, 1) := by decide +kernel
theorem i_86_7 : Jvm.ClassFile.decode (pm_bytes 86) 7 = .ok (.lastore, 1) := by decide +kernel
theorem i_86_8 : Jvm.ClassFile.decode (pm_bytes 86) 8 = .ok (.goto (6), 3) := by decide +kernel
theorem i_86_12 : Jvm.ClassFile.decode (pm_bytes 86) 12 = .ok (.iconst 1, 1) := by decide +kernel
theorem i_86_13 : Jvm.ClassFile.decode (pm_bytes 86) 13 = .ok (.ireturn, 1) := by decide +kernel
theorem i_86_14 : Jvm.ClassFile.decode (pm_bytes 86) 14 = .ok (.iconst 0, 1) := by decide +kernel
theorem i_86_15 : Jvm.ClassFile.decode (pm_bytes 86) 15 = .ok (.ireturn, 1) := by decide +kernel
theorem k_87_15 : (pm_own 87, 15, 1, 2, (some 0 : Option Nat)) ∈ pm_call ∧ pm_rank 1 < pm_rank 87 := ⟨k7_15, by decide⟩
theorem m_87 : pm_mL 87 = 4 := rfl
theorem r_87 : pm_ret 87 = 1 := rfl
theorem i_87_0 : Jvm.ClassFile.decode (pm_bytes 87) 0 = .ok (.aload_n 2, 1) := by decide +kernel
theorem i_87_1 : Jvm.ClassFile.decode (pm_bytes 87) 1 = .ok (.iconst 0, 1) := by decide +kernel
theorem i_87_2 : Jvm.ClassFile.decode (pm_bytes 87) 2 = .ok (.aload_n 0, 1) := by decide +kernel
theorem i_87_3 : Jvm.ClassFile.decode (pm_bytes 87) 3 = .ok (.iload_n 1, 1) := by decide +kernel
theorem i_87_4 : Jvm.ClassFile.decode (pm_bytes 87) 4 = .ok (.invokevirtual 15, 3) := by decide +kernel
theorem i_87_7 : Jvm.ClassFile.decode (pm_bytes 87) 7 = .ok (.i2l, 1) := by decide +kernel
theorem i_87_8 : Jvm.ClassFile.decode (pm_bytes 87) 8 = .ok (.lastore, 1) := by decide +kernel
theorem i_87_9 : Jvm.ClassFile.decode (pm_bytes 87) 9 = .ok (.goto (9), 3) := by decide +kernel
theorem i_87_13 : Jvm.ClassFile.decode (pm_bytes 87) 13 = .ok (.iconst 1, 1) := by decide +kernel
theorem i_87_14 : Jvm.ClassFile.decode (pm_bytes 87) 14 = .ok (.ireturn, 1) := by decide +kernel
theorem i_87_16 : Jvm.ClassFile.decode (pm_bytes 87) 16 = .ok (.iconst 2, 1) := by decide +kernel
theorem i_87_17 : Jvm.ClassFile.decode (pm_bytes 87) 17 = .ok (.ireturn, 1) := by decide +kernel
theorem i_87_18 : Jvm.ClassFile.decode (pm_bytes 87) 18 = .ok (.iconst 0, 1) := by decide +kernel
theorem i_87_19 : Jvm.ClassFile.decode (pm_bytes 87) 19 = .ok (.ireturn, 1) := by decide +kernel
theorem k_88_21 : (pm_own 88, 21, 2, 4, (some 0 : Option Nat)) ∈ pm_call ∧ pm_rank 2 < pm_rank 88 := ⟨k7_21, by decide⟩
theorem m_88 : pm_mL 88 = 6 := rfl
theorem r_88 : pm_ret 88 = 1 := rfl
theorem i_88_0 : Jvm.ClassFile.decode (pm_bytes 88) 0 = .ok (.aload 4, 2) := by decide +kernel
theorem i_88_2 : Jvm.ClassFile.decode (pm_bytes 88) 2 = .ok (.iconst 0, 1) := by decide +kernel
theorem i_88_3 : Jvm.ClassFile.decode (pm_bytes 88) 3 = .ok (.aload_n 0, 1) := by decide +kernel
theorem i_88_4 : Jvm.ClassFile.decode (pm_bytes 88) 4 = .ok (.iload_n 1, 1) := by decide +kernel
theorem i_88_5 : Jvm.ClassFile.decode (pm_bytes 88) 5 = .ok (.iload_n 2, 1) := by decide +kernel
theorem i_88_6 : Jvm.ClassFile.decode (pm_bytes 88) 6 = .ok (.iload_n 3, 1) := by decide +kernel
theorem i_88_7 : Jvm.ClassFile.decode (pm_bytes 88) 7 = .ok (.invokevirtual 21, 3) := by decide +kernel
theorem i_88_10 : Jvm.ClassFile.decode (pm_bytes 88) 10 = .ok (.i2l, 1) := by decide +kernel
theorem i_88_11 : Jvm.ClassFile.decode (pm_bytes 88) 11 = .ok (.lastore, 1) := by decide +kernel
theorem i_88_12 : Jvm.ClassFile.decode (pm_bytes 88) 12 = .ok (.goto (15), 3) := by decide +kernel
theorem i_88_17 : Jvm.ClassFile.decode (pm_bytes 88) 17 = .ok (.iconst 1, 1) := by decide +kernel
theorem i_88_18 : Jvm.ClassFile.decode (pm_bytes 88) 18 = .ok (.ireturn, 1) := by decide +kernel
theorem i_88_21 : Jvm.ClassFile.decode (pm_bytes 88) 21 = .ok (.iconst 2, 1) := by decide +kernel
theorem i_88_22 : Jvm.ClassFile.decode (pm_bytes 88) 22 = .ok (.ireturn, 1) := by decide +kernel
theorem i_88_25 : Jvm.ClassFile.decode (pm_bytes 88) 25 = .ok (.iconst 3, 1) := by decide +kernel
theorem i_88_26 : Jvm.ClassFile.decode (pm_bytes 88) 26 = .ok (.ireturn, 1) := by decide +kernel
theorem i_88_27 : Jvm.ClassFile.decode (pm_bytes 88) 27 = .ok (.iconst 0, 1) := by decide +kernel
theorem i_88_28 : Jvm.ClassFile.decode (pm_bytes 88) 28 = .ok (.ireturn, 1) := by decide +kernel
theorem k_89_27 : (pm_own 89, 27, 3, 4, (some 0 : Option Nat)) ∈ pm_call ∧ pm_rank 3 < pm_rank 89 := ⟨k7_27, by decide⟩
theorem m_89 : pm_mL 89 = 6 := rfl
theorem r_89 : pm_ret 89 = 1 := rfl
theorem i_89_0 : Jvm.ClassFile.decode (pm_bytes 89) 0 = .ok (.aload 4, 2) := by decide +kernel
theorem i_89_2 : Jvm.ClassFile.decode (pm_bytes 89) 2 = .ok (.iconst 0, 1) := by decide +kernel
theorem i_89_3 : Jvm.ClassFile.decode (pm_bytes 89) 3 = .ok (.aload_n 0, 1) := by decide +kernel
theorem i_89_4 : Jvm.ClassFile.decode (pm_bytes 89) 4 = .ok (.iload_n 1, 1) := by decide +kernel
theorem i_89_5 : Jvm.ClassFile.decode (pm_bytes 89) 5 = .ok (.iload_n 2, 1) := by decide +kernel
theorem i_89_6 : Jvm.ClassFile.decode (pm_bytes 89) 6 = .ok (.iload_n 3, 1) := by decide +kernel
theorem i_89_7 : Jvm.ClassFile.decode (pm_bytes 89) 7 = .ok (.invokevirtual 27, 3) := by decide +kernel
theorem i_89_10 : Jvm.ClassFile.decode (pm_bytes 89) 10 = .ok (.i2l, 1) := by decide +kernel
theorem i_89_11 : Jvm.ClassFile.decode (pm_bytes 89) 11 = .ok (.lastore, 1) := by decide +kernel
theorem i_89_12 : Jvm.ClassFile.decode (pm_bytes 89) 12 = .ok (.goto (11), 3) := by decide +kernel
theorem i_89_17 : Jvm.ClassFile.decode (pm_bytes 89) 17 = .ok (.iconst 1, 1) := by decide +kernel
theorem i_89_18 : Jvm.ClassFile.decode (pm_bytes 89) 18 = .ok (.ireturn, 1) := by decide +kernel
theorem i_89_21 : Jvm.ClassFile.decode (pm_bytes 89) 21 = .ok (.iconst 2, 1) := by decide +kernel
theorem i_89_22 : Jvm.ClassFile.decode (pm_bytes 89) 22 = .ok (.ireturn, 1) := by decide +kernel
theorem i_89_23 : Jvm.ClassFile.decode (pm_bytes 89) 23 = .ok (.iconst 0, 1) := by decide +kernel
theorem i_89_24 : Jvm.ClassFile.decode (pm_bytes 89) 24 = .ok (.ireturn, 1) := by decide +kernel
theorem k_90_30 : (pm_own 90, 30, 4, 2, (some 0 : Option Nat)) ∈ pm_call ∧ pm_rank 4 < pm_rank 90 := ⟨k7_30, by decide⟩
theorem m_90 : pm_mL 90 = 4 := rfl
theorem r_90 : pm_ret 90 = 1 := rfl
theorem i_90_0 : Jvm.ClassFile.decode (pm_bytes 90) 0 = .ok (.aload_n 2, 1) := by decide +kernel
theorem i_90_1 : Jvm.ClassFile.decode (pm_bytes 90) 1 = .ok (.iconst 0, 1) := by decide +kernel
theorem i_90_2 : Jvm.ClassFile.decode (pm_bytes 90) 2 = .ok (.aload_n 0, 1) := by decide +kernel
theorem i_90_3 : Jvm.ClassFile.decode (pm_bytes 90) 3 = .ok (.iload_n 1, 1) := by decide +kernel
theorem i_90_4 : Jvm.ClassFile.decode (pm_bytes 90) 4 = .ok (.invokevirtual 30, 3) := by decide +kernel
theorem i_90_7 : Jvm.ClassFile.decode (pm_bytes 90) 7 = .ok (.i2l, 1) := by decide +kernel
theorem i_90_8 : Jvm.ClassFile.decode (pm_bytes 90) 8 = .ok (.lastore, 1) := by decide +kernel
theorem i_90_9 : Jvm.ClassFile.decode (pm_bytes 90) 9 = .ok (.goto (9), 3) := by decide +kernel
theorem i_90_13 : Jvm.ClassFile.decode (pm_bytes 90) 13 = .ok (.iconst 1, 1) := by decide +kernel
theorem i_90_14 : Jvm.ClassFile.decode (pm_bytes 90) 14 = .ok (.ireturn, 1) := by decide +kernel
theorem i_90_16 : Jvm.ClassFile.decode (pm_bytes 90) 16 = .ok (.iconst 2, 1) := by decide +kernel
theorem i_90_17 : Jvm.ClassFile.decode (pm_bytes 90) 17 = .ok (.ireturn, 1) := by decide +kernel
theorem i_90_18 : Jvm.ClassFile.decode (pm_bytes 90) 18 = .ok (.iconst 0, 1) := by decide +kernel
theorem i_90_19 : Jvm.ClassFile.decode (pm_bytes 90) 19 = .ok (.ireturn, 1) := by decide +kernel
theorem k_91_33 : (pm_own 91, 33, 8, 2, (some 0 : Option Nat)) ∈ pm_call ∧ pm_rank 8 < pm_rank 91 := ⟨k7_33, by decide⟩
theorem m_91 : pm_mL 91 = 4 := rfl
theorem r_91 : pm_ret 91 = 1 := rfl
theorem i_91_0 : Jvm.ClassFile.decode (pm_bytes 91) 0 = .ok (.aload_n 2, 1) := by decide +kernel
theorem i_91_1 : Jvm.ClassFile.decode (pm_bytes 91) 1 = .ok (.iconst 0, 1) := by decide +kernel
theorem i_91_2 : Jvm.ClassFile.decode (pm_bytes 91) 2 = .ok (.aload_n 0, 1) := by decide +kernel
theorem i_91_3 : Jvm.ClassFile.decode (pm_bytes 91) 3 = .ok (.iload_n 1, 1) := by decide +kernel
theorem i_91_4 : Jvm.ClassFile.decode (pm_bytes 91) 4 = .ok (.invokevirtual 33, 3) := by decide +kernel
theorem i_91_7 : Jvm.ClassFile.decode (pm_bytes 91) 7 = .ok (.i2l, 1) := by decide +kernel
theorem i_91_8 : Jvm.ClassFile.decode (pm_bytes 91) 8 = .ok (.lastore, 1) := by decide +kernel
theorem i_91_9 : Jvm.ClassFile.decode (pm_bytes 91) 9 = .ok (.goto (6), 3) := by decide +kernel
theorem i_91_13 : Jvm.ClassFile.decode (pm_bytes 91) 13 = .ok (.iconst 1, 1) := by decide +kernel
theorem i_91_14 : Jvm.ClassFile.decode (pm_bytes 91) 14 = .ok (.ireturn, 1) := by decide +kernel
theorem i_91_15 : Jvm.ClassFile.decode (pm_bytes 91) 15 = .ok (.iconst 0, 1) := by decide +kernel
theorem i_91_16 : Jvm.ClassFile.decode (pm_bytes 91) 16 = .ok (.ireturn, 1) := by decide +kernel
theorem k_92_36 : (pm_own 92, 36, 9, 3, (some 0 : Option Nat)) ∈ pm_call ∧ pm_rank 9 < pm_rank 92 := ⟨k7_36, by decide⟩
theorem m_92 : pm_mL 92 = 5 := rfl
theorem r_92 : pm_ret 92 = 1 := rfl
theorem i_92_0 : Jvm.ClassFile.decode (pm_bytes 92) 0 = .ok (.aload_n 3, 1) := by decide +kernel
theorem i_92_1 : Jvm.ClassFile.decode (pm_bytes 92) 1 = .ok (.iconst 0, 1) := by decide +kernel
theorem i_92_2 : Jvm.ClassFile.decode (pm_bytes 92) 2 = .ok (.aload_n 0, 1) := by decide +kernel
theorem i_92_3 : Jvm.ClassFile.decode (pm_bytes 92) 3 = .ok (.iload_n 1, 1) := by decide +kernel
theorem i_92_4 : Jvm.ClassFile.decode (pm_bytes 92) 4 = .ok (.iload_n 2, 1) := by decide +kernel
theorem i_92_5 : Jvm.ClassFile.decode (pm_bytes 92) 5 = .ok (.invokevirtual 36, 3) := by decide +kernel
theorem i_92_8 : Jvm.ClassFile.decode (pm_bytes 92) 8 = .ok (.ifCond .eq (7), 3) := by decide +kernel
theorem i_92_11 : Jvm.ClassFile.decode (pm_bytes 92) 11 = .ok (.lconst 1, 1) := by decide +kernel
theorem i_92_12 : Jvm.ClassFile.decode (pm_bytes 92) 12 = .ok (.goto (4), 3) := by decide +kernel
theorem i_92_15 : Jvm.ClassFile.decode (pm_bytes 92) 15 = .ok (.lconst 0, 1) := by decide +kernel
theorem i_92_16 : Jvm.ClassFile.decode (pm_bytes 92) 16 = .ok (.lastore, 1) := by decide +kernel
theorem i_92_17 : Jvm.ClassFile.decode (pm_bytes 92) 17 = .ok (.goto (7), 3) := by decide +kernel
theorem i_92_22 : Jvm.ClassFile.decode (pm_bytes 92) 22 = .ok (.iconst 1, 1) := by decide +kernel
theorem i_92_23 : Jvm.ClassFile.decode (pm_bytes 92) 23 = .ok (.ireturn, 1) := by decide +kernel
theorem i_92_24 : Jvm.ClassFile.decode (pm_bytes 92) 24 = .ok (.iconst 0, 1) := by decide +kernel
theorem i_92_25 : Jvm.ClassFile.decode (pm_bytes 92) 25 = .ok (.ireturn, 1) := by decide +kernel
theorem k_93_40 : (pm_own 93, 40, 10, 3, (some 0 : Option Nat)) ∈ pm_call ∧ pm_rank 10 < pm_rank 93 := ⟨k7_40, by decide⟩
theorem m_93 : pm_mL 93 = 5 := rfl
theorem r_93 : pm_ret 93 = 1 := rfl
theorem i_93_0 : Jvm.ClassFile.decode (pm_bytes 93) 0 = .ok (.aload_n 3, 1) := by decide +kernel
theorem i_93_1 : Jvm.ClassFile.decode (pm_bytes 93) 1 = .ok (.iconst 0, 1) := by decide +kernel
theorem i_93_2 : Jvm.ClassFile.decode (pm_bytes 93) 2 = .ok (.aload_n 0, 1) := by decide +kernel
theorem i_93_3 : Jvm.ClassFile.decode (pm_bytes 93) 3 = .ok (.iload_n 1, 1) := by decide +kernel
theorem i_93_4 : Jvm.ClassFile.decode (pm_bytes 93) 4 = .ok (.iload_n 2, 1) := by decide +kernel
theorem i_93_5 : Jvm.ClassFile.decode (pm_bytes 93) 5 = .ok (.invokevirtual 40, 3) := by decide +kernel
theorem i_93_8 : Jvm.ClassFile.decode (pm_bytes 93) 8 = .ok (.ifCond .eq (7), 3) := by decide +kernel
theorem i_93_11 : Jvm.ClassFile.decode (pm_bytes 93) 11 = .ok (.lconst 1, 1) := by decide +kernel
theorem i_93_12 : Jvm.ClassFile.decode (pm_bytes 93) 12 = .ok (.goto (4), 3) := by decide +kernel
theorem i_93_15 : Jvm.ClassFile.decode (pm_bytes 93) 15 = .ok (.lconst 0, 1) := by decide +kernel
theorem i_93_16 : Jvm.ClassFile.decode (pm_bytes 93) 16 = .ok (.lastore, 1) := by decide +kernel
theorem i_93_17 : Jvm.ClassFile.decode (pm_bytes 93) 17 = .ok (.goto (7), 3) := by decide +kernel
theorem i_93_22 : Jvm.ClassFile.decode (pm_bytes 93) 22 = .ok (.iconst 1, 1) := by decide +kernel
theorem i_93_23 : Jvm.ClassFile.decode (pm_bytes 93) 23 = .ok (.ireturn, 1) := by decide +kernel
theorem i_93_24 : Jvm.ClassFile.decode (pm_bytes 93) 24 = .ok (.iconst 0, 1) := by decide +kernel
theorem i_93_25 : Jvm.ClassFile.decode (pm_bytes 93) 25 = .ok (.ireturn, 1) := by decide +kernel
theorem k_94_44 : (pm_own 94, 44, 11, 2, (some 0 : Option Nat)) ∈ pm_call ∧ pm_rank 11 < pm_rank 94 := ⟨k7_44, by decide⟩
theorem m_94 : pm_mL 94 = 4 := rfl
theorem r_94 : pm_ret 94 = 1 := rfl
theorem i_94_0 : Jvm.ClassFile.decode (pm_bytes 94) 0 = .ok (.aload_n 2, 1) := by decide +kernel
theorem i_94_1 : Jvm.ClassFile.decode (pm_bytes 94) 1 = .ok (.iconst 0, 1) := by decide +kernel
theorem i_94_2 : Jvm.ClassFile.decode (pm_bytes 94) 2 = .ok (.aload_n 0, 1) := by decide +kernel
theorem i_94_3 : Jvm.ClassFile.decode (pm_bytes 94) 3 = .ok (.iload_n 1, 1) := by decide +kernel
theorem i_94_4 : Jvm.ClassFile.decode (pm_bytes 94) 4 = .ok (.invokevirtual 44, 3) := by decide +kernel
theorem i_94_7 : Jvm.ClassFile.decode (pm_bytes 94) 7 = .ok (.ifCond .eq (7), 3) := by decide +kernel
theorem i_94_10 : Jvm.ClassFile.decode (pm_bytes 94) 10 = .ok (.lconst 1, 1) := by decide +kernel
theorem i_94_11 : Jvm.ClassFile.decode (pm_bytes 94) 11 = .ok (.goto (4), 3) := by decide +kernel
theorem i_94_14 : Jvm.ClassFile.decode (pm_bytes 94) 14 = .ok (.lconst 0, 1) := by decide +kernel
theorem i_94_15 : Jvm.ClassFile.decode (pm_bytes 94) 15 = .ok (.lastore, 1) := by decide +kernel
theorem i_94_16 : Jvm.ClassFile.decode (pm_bytes 94) 16 = .ok (.goto (6), 3) := by decide +kernel
theorem i_94_20 : Jvm.ClassFile.decode (pm_bytes 94) 20 = .ok (.iconst 1, 1) := by decide +kernel
theorem i_94_21 : Jvm.ClassFile.decode (pm_bytes 94) 21 = .ok (.ireturn, 1) := by decide +kernel
theorem i_94_22 : Jvm.ClassFile.decode (pm_bytes 94) 22 = .ok (.iconst 0, 1) := by decide +kernel
theorem i_94_23 : Jvm.ClassFile.decode (pm_bytes 94) 23 = .ok (.ireturn, 1) := by decide +kernel
