/-! GateBenchLaw.input at 0 -/
theorem s_86_0 {L : Nat} {M : pm_M} {Q : pm_P}
    (h : ((¬ M 1 7 = 12 → ((¬ M 1 6 = 2000 → (0 ≤ M 1 7 ∧ M 1 7 < 12) ∧ (pm_R (M 1 7 + 1)) ∧ (0 ≤ M 1 6 ∧ M 1 6 < 2000) ∧ (pm_R (M 1 6 + 1)) ∧ Q (.inl (some (.inl 0))) (pm_set (pm_set (pm_set (pm_set (pm_set (pm_set (pm_set M 12 (M 1 7) (M 1 6)) 1 7 (M 1 7 + 1)) 7 (M 1 6) (-1)) 8 (M 1 6) 0) 9 (M 1 6) 0) 1 6 (M 1 6 + 1)) 34 0 (M 1 6))) ∧ (¬ (¬ M 1 6 = 2000) → (1 ≤ M 99 0) ∧ Q (.inl (some (.inl 1))) (pm_set M 99 0 (M 99 0 - 1))))) ∧ (¬ (¬ M 1 7 = 12) → (1 ≤ M 99 0) ∧ Q (.inl (some (.inl 1))) (pm_set M 99 0 (M 99 0 - 1))))) :
    pm_X L (86, 0, [some (.inr (.inl 0)), some (.inr (.inl 34)), none], [], M) Q := by
  refine x_aload_n i_86_0 rfl rfl ?_
  refine x_iconst i_86_1 (by decide) rfl ?_
  refine x_aload_n i_86_2 rfl rfl ?_
  refine x_callv (as := []) (rest := [.inl 0, .inr (.inl 34)]) i_86_3 k_86_7 rfl rfl rfl g_0 (Nat.le_of_ble_eq_true rfl) m_0 rfl ?_
  refine x_aload_n i_0_0 rfl rfl ?_
  refine x_getr i_0_1 f_0_12 g_0 rfl rfl ?_
  refine x_geti (v := M 1 7) i_0_4 f_0_45 g_1 rfl (rfl) rfl ?_
  refine x_bipush i_0_7 (by decide) rfl ?_
  refine x_icmp (C := ¬ M 1 7 = 12) i_0_9 rfl Iff.rfl rfl ⟨fun c1 => ?_, fun c1 => ?_⟩
  · replace h := h.1 c1
    refine x_aload_n i_0_22 rfl rfl ?_
    refine x_callv (as := []) (rest := []) i_0_23 k_0_56 rfl rfl rfl g_0 (Nat.le_of_ble_eq_true rfl) m_18 rfl ?_
    refine x_aload_n i_18_0 rfl rfl ?_
    refine x_getr i_18_1 f_18_12 g_0 rfl rfl ?_
    refine x_geti (v := M 1 6) i_18_4 f_18_126 g_1 rfl (rfl) rfl ?_
    refine x_sipush i_18_7 (by decide) rfl ?_
    refine x_icmp (C := ¬ M 1 6 = 2000) i_18_10 rfl Iff.rfl rfl ⟨fun c2 => ?_, fun c2 => ?_⟩
    · replace h := h.1 c2
      refine x_ret i_18_23 r_18 ?_
      refine x_bkv rfl ?_
      refine x_aload_n i_0_26 rfl rfl ?_
      refine x_getr i_0_27 f_0_12 g_0 rfl rfl ?_
      refine x_callv (as := []) (rest := []) i_0_30 k_0_59 rfl rfl rfl g_1 (Nat.le_of_ble_eq_true rfl) m_24 rfl ?_
      refine x_aload_n i_24_0 rfl rfl ?_
      refine x_getr i_24_1 f_24_28 g_1 rfl rfl ?_
      refine x_aload_n i_24_4 rfl rfl ?_
      refine x_geti (v := M 1 7) i_24_5 f_24_35 g_1 rfl (rfl) rfl ?_
      refine x_aload_n i_24_8 rfl rfl ?_
      refine x_geti (v := M 1 6) i_24_9 f_24_31 g_1 rfl (rfl) rfl ?_
      obtain ⟨q3, h⟩ := h
      refine x_iastore i_24_12 g_12 rfl q3 ?_
      refine x_aload_n i_24_13 rfl rfl ?_
      refine x_dup i_24_14 rfl rfl ?_
      refine x_geti (v := M 1 7) i_24_15 f_24_35 g_1 rfl (pm_get_c (by decide) rfl) rfl ?_
      refine x_iconst i_24_18 (by decide) rfl ?_
      obtain ⟨q4, h⟩ := h
      refine x_iadd i_24_19 rfl q4 ?_
      refine x_puti i_24_20 f_24_35 g_1 rfl rfl ?_
      refine x_aload_n i_24_23 rfl rfl ?_
      refine x_iconst i_24_24 (by decide) rfl ?_
      refine x_iconst i_24_25 (by decide) rfl ?_
      refine x_iconst i_24_26 (by decide) rfl ?_
      refine x_callv (as := [.inl (-1), .inl 0, .inl 0]) (rest := []) i_24_27 k_24_38 rfl rfl rfl g_1 (Nat.le_of_ble_eq_true rfl) m_25 rfl ?_
      refine x_aload_n i_25_0 rfl rfl ?_
      refine x_geti (v := M 1 6) i_25_1 f_25_31 g_1 rfl (pm_get_j (by decide) (pm_get_c (by decide) rfl)) rfl ?_
      refine x_istore i_25_4 (Nat.le_of_ble_eq_true rfl) rfl rfl ?_
      refine x_aload_n i_25_6 rfl rfl ?_
      refine x_getr i_25_7 f_25_9 g_1 rfl rfl ?_
      refine x_iload i_25_10 rfl rfl ?_
      refine x_iload_n i_25_12 rfl rfl ?_
      obtain ⟨q5, h⟩ := h
      refine x_iastore i_25_13 g_7 rfl q5 ?_
      refine x_aload_n i_25_14 rfl rfl ?_
      refine x_getr i_25_15 f_25_15 g_1 rfl rfl ?_
      refine x_iload i_25_18 rfl rfl ?_
      refine x_iload_n i_25_20 rfl rfl ?_
      refine x_iastore i_25_21 g_8 rfl q5 ?_
      refine x_aload_n i_25_22 rfl rfl ?_
      refine x_getr i_25_23 f_25_18 g_1 rfl rfl ?_
      refine x_iload i_25_26 rfl rfl ?_
      refine x_iload_n i_25_28 rfl rfl ?_
      refine x_iastore i_25_29 g_9 rfl q5 ?_
      refine x_aload_n i_25_30 rfl rfl ?_
      refine x_dup i_25_31 rfl rfl ?_
      refine x_geti (v := M 1 6) i_25_32 f_25_31 g_1 rfl (pm_get_c (by decide) (pm_get_c (by decide) (pm_get_c (by decide) (pm_get_j (by decide) (pm_get_c (by decide) rfl))))) rfl ?_
      refine x_iconst i_25_35 (by decide) rfl ?_
      obtain ⟨q6, h⟩ := h
      refine x_iadd i_25_36 rfl q6 ?_
      refine x_puti i_25_37 f_25_31 g_1 rfl rfl ?_
      refine x_iload i_25_40 rfl rfl ?_
      refine x_ireti i_25_42 r_25 ?_
      refine x_bki rfl ?_
      refine x_ireti i_24_30 r_24 ?_
      refine x_bki rfl ?_
      refine x_ireti i_0_33 r_0 ?_
      refine x_bki rfl ?_
      refine x_i2l i_86_6 rfl ?_
      refine x_lastore i_86_7 g_34 rfl (by decide) ?_
      refine x_goto i_86_8 rfl ?_
      refine x_iconst i_86_14 (by decide) rfl ?_
      exact x_ireti i_86_15 r_86 h
    · replace h := h.2 c2
      obtain ⟨q7, h⟩ := h
      refine x_throw i_18_13 t_18_13 q7 ?_
      refine x_bkt rfl (by decide) ?_
      refine x_bkc (h0 := 11) (nx := 12) (i := 2) rfl rfl ?_
      refine x_iconst i_86_12 (by decide) rfl ?_
      exact x_ireti i_86_13 r_86 h
  · replace h := h.2 c1
    obtain ⟨q8, h⟩ := h
    refine x_throw i_0_12 t_0_12 q8 ?_
    refine x_bkc (h0 := 11) (nx := 12) (i := 2) rfl rfl ?_
    refine x_iconst i_86_12 (by decide) rfl ?_
    exact x_ireti i_86_13 r_86 h
/-! GateBenchLaw.not at 0 -/
theorem s_87_0 {L : Nat} {M : pm_M} {Q : pm_P} {a1 : Int}
    (h : ((a1 < 0 → (1 ≤ M 99 0) ∧ Q (.inl (some (.inl 1))) (pm_set M 99 0 (M 99 0 - 1))) ∧ (¬ (a1 < 0) → ((a1 < M 1 6 → ((¬ M 1 6 = 2000 → (pm_R (2 * a1)) ∧ (0 ≤ M 1 6 ∧ M 1 6 < 2000) ∧ (pm_R (M 1 6 + 1)) ∧ Q (.inl (some (.inl 0))) (pm_set (pm_set (pm_set (pm_set (pm_set M 7 (M 1 6) (2 * a1)) 8 (M 1 6) 0) 9 (M 1 6) 1) 1 6 (M 1 6 + 1)) 34 0 (M 1 6))) ∧ (¬ (¬ M 1 6 = 2000) → (1 ≤ M 99 0) ∧ Q (.inl (some (.inl 2))) (pm_set M 99 0 (M 99 0 - 1))))) ∧ (¬ (a1 < M 1 6) → (1 ≤ M 99 0) ∧ Q (.inl (some (.inl 1))) (pm_set M 99 0 (M 99 0 - 1))))))) :
    pm_X L (87, 0, [some (.inr (.inl 0)), some (.inl a1), some (.inr (.inl 34)), none], [], M) Q := by
  refine x_aload_n i_87_0 rfl rfl ?_
  refine x_iconst i_87_1 (by decide) rfl ?_
  refine x_aload_n i_87_2 rfl rfl ?_
  refine x_iload_n i_87_3 rfl rfl ?_
  refine x_callv (as := [.inl a1]) (rest := [.inl 0, .inr (.inl 34)]) i_87_4 k_87_15 rfl rfl rfl g_0 (Nat.le_of_ble_eq_true rfl) m_1 rfl ?_
  refine x_aload_n i_1_0 rfl rfl ?_
  refine x_iload_n i_1_1 rfl rfl ?_
  refine x_callv (as := [.inl a1]) (rest := []) i_1_2 k_1_63 rfl rfl rfl g_0 (Nat.le_of_ble_eq_true rfl) m_17 rfl ?_
  refine x_iload_n i_17_0 rfl rfl ?_
  refine x_if (C := a1 < 0) i_17_1 rfl Iff.rfl rfl ⟨fun c1 => ?_, fun c1 => ?_⟩
  · replace h := h.1 c1
    obtain ⟨q2, h⟩ := h
    refine x_throw i_17_15 t_17_15 q2 ?_
    refine x_bkt rfl (by decide) ?_
    refine x_bkc (h0 := 12) (nx := 13) (i := 3) rfl rfl ?_
    refine x_iconst i_87_13 (by decide) rfl ?_
    exact x_ireti i_87_14 r_87 h
  · replace h := h.2 c1
    refine x_iload_n i_17_4 rfl rfl ?_
    refine x_aload_n i_17_5 rfl rfl ?_
    refine x_getr i_17_6 f_17_12 g_0 rfl rfl ?_
    refine x_geti (v := M 1 6) i_17_9 f_17_126 g_1 rfl (rfl) rfl ?_
    refine x_icmp (C := a1 < M 1 6) i_17_12 rfl Iff.rfl rfl ⟨fun c3 => ?_, fun c3 => ?_⟩
    · replace h := h.1 c3
      refine x_ret i_17_25 r_17 ?_
      refine x_bkv rfl ?_
      refine x_aload_n i_1_5 rfl rfl ?_
      refine x_callv (as := []) (rest := []) i_1_6 k_1_56 rfl rfl rfl g_0 (Nat.le_of_ble_eq_true rfl) m_18 rfl ?_
      refine x_aload_n i_18_0 rfl rfl ?_
      refine x_getr i_18_1 f_18_12 g_0 rfl rfl ?_
      refine x_geti (v := M 1 6) i_18_4 f_18_126 g_1 rfl (rfl) rfl ?_
      refine x_sipush i_18_7 (by decide) rfl ?_
      refine x_icmp (C := ¬ M 1 6 = 2000) i_18_10 rfl Iff.rfl rfl ⟨fun c4 => ?_, fun c4 => ?_⟩
      · replace h := h.1 c4
        refine x_ret i_18_23 r_18 ?_
        refine x_bkv rfl ?_
        refine x_aload_n i_1_9 rfl rfl ?_
        refine x_getr i_1_10 f_1_12 g_0 rfl rfl ?_
        refine x_iload_n i_1_13 rfl rfl ?_
        refine x_calls (as := [.inl a1]) (rest := [.inr (.inl 1)]) i_1_14 k_1_67 rfl rfl rfl (Nat.le_of_ble_eq_true rfl) m_14 rfl ?_
        refine x_iconst i_14_0 (by decide) rfl ?_
        refine x_iload_n i_14_1 rfl rfl ?_
        obtain ⟨q5, h⟩ := h
        refine x_imul i_14_2 rfl q5 ?_
        refine x_ireti i_14_3 r_14 ?_
        refine x_bki rfl ?_
        refine x_iconst i_1_17 (by decide) rfl ?_
        refine x_iconst i_1_18 (by decide) rfl ?_
        refine x_callv (as := [.inl (2 * a1), .inl 0, .inl 1]) (rest := []) i_1_19 k_1_71 rfl rfl rfl g_1 (Nat.le_of_ble_eq_true rfl) m_25 rfl ?_
        refine x_aload_n i_25_0 rfl rfl ?_
        refine x_geti (v := M 1 6) i_25_1 f_25_31 g_1 rfl (rfl) rfl ?_
        refine x_istore i_25_4 (Nat.le_of_ble_eq_true rfl) rfl rfl ?_
        refine x_aload_n i_25_6 rfl rfl ?_
        refine x_getr i_25_7 f_25_9 g_1 rfl rfl ?_
        refine x_iload i_25_10 rfl rfl ?_
        refine x_iload_n i_25_12 rfl rfl ?_
        obtain ⟨q6, h⟩ := h
        refine x_iastore i_25_13 g_7 rfl q6 ?_
        refine x_aload_n i_25_14 rfl rfl ?_
        refine x_getr i_25_15 f_25_15 g_1 rfl rfl ?_
        refine x_iload i_25_18 rfl rfl ?_
        refine x_iload_n i_25_20 rfl rfl ?_
        refine x_iastore i_25_21 g_8 rfl q6 ?_
        refine x_aload_n i_25_22 rfl rfl ?_
        refine x_getr i_25_23 f_25_18 g_1 rfl rfl ?_
        refine x_iload i_25_26 rfl rfl ?_
        refine x_iload_n i_25_28 rfl rfl ?_
        refine x_iastore i_25_29 g_9 rfl q6 ?_
        refine x_aload_n i_25_30 rfl rfl ?_
        refine x_dup i_25_31 rfl rfl ?_
        refine x_geti (v := M 1 6) i_25_32 f_25_31 g_1 rfl (pm_get_c (by decide) (pm_get_c (by decide) (pm_get_c (by decide) rfl))) rfl ?_
        refine x_iconst i_25_35 (by decide) rfl ?_
        obtain ⟨q7, h⟩ := h
        refine x_iadd i_25_36 rfl q7 ?_
        refine x_puti i_25_37 f_25_31 g_1 rfl rfl ?_
        refine x_iload i_25_40 rfl rfl ?_
        refine x_ireti i_25_42 r_25 ?_
        refine x_bki rfl ?_
        refine x_ireti i_1_22 r_1 ?_
        refine x_bki rfl ?_
        refine x_i2l i_87_7 rfl ?_
        refine x_lastore i_87_8 g_34 rfl (by decide) ?_
        refine x_goto i_87_9 rfl ?_
        refine x_iconst i_87_18 (by decide) rfl ?_
        exact x_ireti i_87_19 r_87 h
      · replace h := h.2 c4
        obtain ⟨q8, h⟩ := h
        refine x_throw i_18_13 t_18_13 q8 ?_
        refine x_bkt rfl (by decide) ?_
        refine x_bkc (h0 := 15) (nx := 16) (i := 3) rfl rfl ?_
        refine x_iconst i_87_16 (by decide) rfl ?_
        exact x_ireti i_87_17 r_87 h
    · replace h := h.2 c3
      obtain ⟨q9, h⟩ := h
      refine x_throw i_17_15 t_17_15 q9 ?_
      refine x_bkt rfl (by decide) ?_
      refine x_bkc (h0 := 12) (nx := 13) (i := 3) rfl rfl ?_
      refine x_iconst i_87_13 (by decide) rfl ?_
      exact x_ireti i_87_14 r_87 h
/-! GateBenchLaw.join at 0 -/
theorem s_88_0 {L : Nat} {M : pm_M} {Q : pm_P} {a1 a2 a3 : Int}
    (h : ((a2 < 0 → (1 ≤ M 99 0) ∧ Q (.inl (some (.inl 1))) (pm_set M 99 0 (M 99 0 - 1))) ∧ (¬ (a2 < 0) → ((a2 < M 1 6 → ((a3 < 0 → (1 ≤ M 99 0) ∧ Q (.inl (some (.inl 1))) (pm_set M 99 0 (M 99 0 - 1))) ∧ (¬ (a3 < 0) → ((a3 < M 1 6 → ((a1 = 0 → ((¬ M 1 6 = 2000 → ((¬ a1 = 0 → ((¬ a1 = 1 → (pm_R (2 * a2)) ∧ (pm_R (2 * a3)) ∧ (0 ≤ M 1 6 ∧ M 1 6 < 2000) ∧ (pm_R (M 1 6 + 1)) ∧ Q (.inl (some (.inl 0))) (pm_set (pm_set (pm_set (pm_set (pm_set M 7 (M 1 6) (2 * a2)) 8 (M 1 6) (pm_op (2 * a3))) 9 (M 1 6) (2 * a3)) 1 6 (M 1 6 + 1)) 34 0 (M 1 6))) ∧ (¬ (¬ a1 = 1) → (pm_R (2 * a2)) ∧ (pm_R (2 * a3)) ∧ (0 ≤ M 1 6 ∧ M 1 6 < 2000) ∧ (pm_R (M 1 6 + 1)) ∧ Q (.inl (some (.inl 0))) (pm_set (pm_set (pm_set (pm_set (pm_set M 7 (M 1 6) (2 * a2)) 8 (M 1 6) 1) 9 (M 1 6) (2 * a3)) 1 6 (M 1 6 + 1)) 34 0 (M 1 6))))) ∧ (¬ (¬ a1 = 0) → (pm_R (2 * a2)) ∧ (pm_R (2 * a3)) ∧ (0 ≤ M 1 6 ∧ M 1 6 < 2000) ∧ (pm_R (M 1 6 + 1)) ∧ Q (.inl (some (.inl 0))) (pm_set (pm_set (pm_set (pm_set (pm_set M 7 (M 1 6) (2 * a2)) 8 (M 1 6) (2 * a3)) 9 (M 1 6) 0) 1 6 (M 1 6 + 1)) 34 0 (M 1 6))))) ∧ (¬ (¬ M 1 6 = 2000) → (1 ≤ M 99 0) ∧ Q (.inl (some (.inl 3))) (pm_set M 99 0 (M 99 0 - 1))))) ∧ (¬ (a1 = 0) → ((a1 = 1 → ((¬ M 1 6 = 2000 → ((¬ a1 = 1 → (pm_R (2 * a2)) ∧ (pm_R (2 * a3)) ∧ (0 ≤ M 1 6 ∧ M 1 6 < 2000) ∧ (pm_R (M 1 6 + 1)) ∧ Q (.inl (some (.inl 0))) (pm_set (pm_set (pm_set (pm_set (pm_set M 7 (M 1 6) (2 * a2)) 8 (M 1 6) (pm_op (2 * a3))) 9 (M 1 6) (2 * a3)) 1 6 (M 1 6 + 1)) 34 0 (M 1 6))) ∧ (¬ (¬ a1 = 1) → (pm_R (2 * a2)) ∧ (pm_R (2 * a3)) ∧ (0 ≤ M 1 6 ∧ M 1 6 < 2000) ∧ (pm_R (M 1 6 + 1)) ∧ Q (.inl (some (.inl 0))) (pm_set (pm_set (pm_set (pm_set (pm_set M 7 (M 1 6) (2 * a2)) 8 (M 1 6) 1) 9 (M 1 6) (2 * a3)) 1 6 (M 1 6 + 1)) 34 0 (M 1 6))))) ∧ (¬ (¬ M 1 6 = 2000) → (1 ≤ M 99 0) ∧ Q (.inl (some (.inl 3))) (pm_set M 99 0 (M 99 0 - 1))))) ∧ (¬ (a1 = 1) → ((a1 = 2 → ((¬ M 1 6 = 2000 → (pm_R (2 * a2)) ∧ (pm_R (2 * a3)) ∧ (0 ≤ M 1 6 ∧ M 1 6 < 2000) ∧ (pm_R (M 1 6 + 1)) ∧ Q (.inl (some (.inl 0))) (pm_set (pm_set (pm_set (pm_set (pm_set M 7 (M 1 6) (2 * a2)) 8 (M 1 6) (pm_op (2 * a3))) 9 (M 1 6) (2 * a3)) 1 6 (M 1 6 + 1)) 34 0 (M 1 6))) ∧ (¬ (¬ M 1 6 = 2000) → (1 ≤ M 99 0) ∧ Q (.inl (some (.inl 3))) (pm_set M 99 0 (M 99 0 - 1))))) ∧ (¬ (a1 = 2) → (1 ≤ M 99 0) ∧ Q (.inl (some (.inl 2))) (pm_set M 99 0 (M 99 0 - 1))))))))) ∧ (¬ (a3 < M 1 6) → (1 ≤ M 99 0) ∧ Q (.inl (some (.inl 1))) (pm_set M 99 0 (M 99 0 - 1))))))) ∧ (¬ (a2 < M 1 6) → (1 ≤ M 99 0) ∧ Q (.inl (some (.inl 1))) (pm_set M 99 0 (M 99 0 - 1))))))) :
    pm_X L (88, 0, [some (.inr (.inl 0)), some (.inl a1), some (.inl a2), some (.inl a3), some (.inr (.inl 34)), none], [], M) Q := by
  refine x_aload i_88_0 rfl rfl ?_
  refine x_iconst i_88_2 (by decide) rfl ?_
  refine x_aload_n i_88_3 rfl rfl ?_
  refine x_iload_n i_88_4 rfl rfl ?_
  refine x_iload_n i_88_5 rfl rfl ?_
  refine x_iload_n i_88_6 rfl rfl ?_
  refine x_callv (as := [.inl a1, .inl a2, .inl a3]) (rest := [.inl 0, .inr (.inl 34)]) i_88_7 k_88_21 rfl rfl rfl g_0 (Nat.le_of_ble_eq_true rfl) m_2 rfl ?_
  refine x_aload_n i_2_0 rfl rfl ?_
  refine x_iload_n i_2_1 rfl rfl ?_
  refine x_callv (as := [.inl a2]) (rest := []) i_2_2 k_2_63 rfl rfl rfl g_0 (Nat.le_of_ble_eq_true rfl) m_17 rfl ?_
  refine x_iload_n i_17_0 rfl rfl ?_
  refine x_if (C := a2 < 0) i_17_1 rfl Iff.rfl rfl ⟨fun c1 => ?_, fun c1 => ?_⟩
  · replace h := h.1 c1
    obtain ⟨q2, h⟩ := h
    refine x_throw i_17_15 t_17_15 q2 ?_
    refine x_bkt rfl (by decide) ?_
    refine x_bkc (h0 := 15) (nx := 17) (i := 5) rfl rfl ?_
    refine x_iconst i_88_17 (by decide) rfl ?_
    exact x_ireti i_88_18 r_88 h
  · replace h := h.2 c1
    refine x_iload_n i_17_4 rfl rfl ?_
    refine x_aload_n i_17_5 rfl rfl ?_
    refine x_getr i_17_6 f_17_12 g_0 rfl rfl ?_
    refine x_geti (v := M 1 6) i_17_9 f_17_126 g_1 rfl (rfl) rfl ?_
    refine x_icmp (C := a2 < M 1 6) i_17_12 rfl Iff.rfl rfl ⟨fun c3 => ?_, fun c3 => ?_⟩
    · replace h := h.1 c3
      refine x_ret i_17_25 r_17 ?_
      refine x_bkv rfl ?_
      refine x_aload_n i_2_5 rfl rfl ?_
      refine x_iload_n i_2_6 rfl rfl ?_
      refine x_callv (as := [.inl a3]) (rest := []) i_2_7 k_2_63 rfl rfl rfl g_0 (Nat.le_of_ble_eq_true rfl) m_17 rfl ?_
      refine x_iload_n i_17_0 rfl rfl ?_
      refine x_if (C := a3 < 0) i_17_1 rfl Iff.rfl rfl ⟨fun c4 => ?_, fun c4 => ?_⟩
      · replace h := h.1 c4
        obtain ⟨q5, h⟩ := h
        refine x_throw i_17_15 t_17_15 q5 ?_
        refine x_bkt rfl (by decide) ?_
        refine x_bkc (h0 := 15) (nx := 17) (i := 5) rfl rfl ?_
        refine x_iconst i_88_17 (by decide) rfl ?_
        exact x_ireti i_88_18 r_88 h
      · replace h := h.2 c4
        refine x_iload_n i_17_4 rfl rfl ?_
        refine x_aload_n i_17_5 rfl rfl ?_
        refine x_getr i_17_6 f_17_12 g_0 rfl rfl ?_
        refine x_geti (v := M 1 6) i_17_9 f_17_126 g_1 rfl (rfl) rfl ?_
        refine x_icmp (C := a3 < M 1 6) i_17_12 rfl Iff.rfl rfl ⟨fun c6 => ?_, fun c6 => ?_⟩
        · replace h := h.1 c6
          refine x_ret i_17_25 r_17 ?_
          refine x_bkv rfl ?_
          refine x_iload_n i_2_10 rfl rfl ?_
          refine x_if (C := a1 = 0) i_2_11 rfl Iff.rfl rfl ⟨fun c7 => ?_, fun c7 => ?_⟩
          · replace h := h.1 c7
            refine x_aload_n i_2_34 rfl rfl ?_
            refine x_callv (as := []) (rest := []) i_2_35 k_2_56 rfl rfl rfl g_0 (Nat.le_of_ble_eq_true rfl) m_18 rfl ?_
            refine x_aload_n i_18_0 rfl rfl ?_
            refine x_getr i_18_1 f_18_12 g_0 rfl rfl ?_
            refine x_geti (v := M 1 6) i_18_4 f_18_126 g_1 rfl (rfl) rfl ?_
            refine x_sipush i_18_7 (by decide) rfl ?_
            refine x_icmp (C := ¬ M 1 6 = 2000) i_18_10 rfl Iff.rfl rfl ⟨fun c8 => ?_, fun c8 => ?_⟩
            · replace h := h.1 c8
              refine x_ret i_18_23 r_18 ?_
              refine x_bkv rfl ?_
              refine x_iload_n i_2_38 rfl rfl ?_
              refine x_if (C := ¬ a1 = 0) i_2_39 rfl Iff.rfl rfl ⟨fun c9 => ?_, fun c9 => ?_⟩
              · replace h := h.1 c9
                refine x_iload_n i_2_59 rfl rfl ?_
                refine x_iconst i_2_60 (by decide) rfl ?_
                refine x_icmp (C := ¬ a1 = 1) i_2_61 rfl Iff.rfl rfl ⟨fun c10 => ?_, fun c10 => ?_⟩
                · replace h := h.1 c10
                  refine x_aload_n i_2_81 rfl rfl ?_
                  refine x_getr i_2_82 f_2_12 g_0 rfl rfl ?_
                  refine x_iload_n i_2_85 rfl rfl ?_
                  refine x_calls (as := [.inl a2]) (rest := [.inr (.inl 1)]) i_2_86 k_2_67 rfl rfl rfl (Nat.le_of_ble_eq_true rfl) m_14 rfl ?_
                  refine x_iconst i_14_0 (by decide) rfl ?_
                  refine x_iload_n i_14_1 rfl rfl ?_
                  obtain ⟨q11, h⟩ := h
                  refine x_imul i_14_2 rfl q11 ?_
                  refine x_ireti i_14_3 r_14 ?_
                  refine x_bki rfl ?_
                  refine x_iload_n i_2_89 rfl rfl ?_
                  refine x_calls (as := [.inl a3]) (rest := [.inl (2 * a2), .inr (.inl 1)]) i_2_90 k_2_67 rfl rfl rfl (Nat.le_of_ble_eq_true rfl) m_14 rfl ?_
                  refine x_iconst i_14_0 (by decide) rfl ?_
                  refine x_iload_n i_14_1 rfl rfl ?_
                  obtain ⟨q12, h⟩ := h
                  refine x_imul i_14_2 rfl q12 ?_
                  refine x_ireti i_14_3 r_14 ?_
                  refine x_bki rfl ?_
                  refine x_calls (as := [.inl (2 * a3)]) (rest := [.inl (2 * a2), .inr (.inl 1)]) i_2_93 k_2_80 rfl rfl rfl (Nat.le_of_ble_eq_true rfl) m_15 rfl ?_
                  refine x_iload_n i_15_0 rfl rfl ?_
                  refine x_iconst i_15_1 (by decide) rfl ?_
                  refine x_ixor i_15_2 rfl ?_
                  refine x_ireti i_15_3 r_15 ?_
                  refine x_bki rfl ?_
                  refine x_iload_n i_2_96 rfl rfl ?_
                  refine x_calls (as := [.inl a3]) (rest := [.inl (pm_op (2 * a3)), .inl (2 * a2), .inr (.inl 1)]) i_2_97 k_2_67 rfl rfl rfl (Nat.le_of_ble_eq_true rfl) m_14 rfl ?_
                  refine x_iconst i_14_0 (by decide) rfl ?_
                  refine x_iload_n i_14_1 rfl rfl ?_
                  refine x_imul i_14_2 rfl q12 ?_
                  refine x_ireti i_14_3 r_14 ?_
                  refine x_bki rfl ?_
                  refine x_callv (as := [.inl (2 * a2), .inl (pm_op (2 * a3)), .inl (2 * a3)]) (rest := []) i_2_100 k_2_71 rfl rfl rfl g_1 (Nat.le_of_ble_eq_true rfl) m_25 rfl ?_
                  refine x_aload_n i_25_0 rfl rfl ?_
                  refine x_geti (v := M 1 6) i_25_1 f_25_31 g_1 rfl (rfl) rfl ?_
                  refine x_istore i_25_4 (Nat.le_of_ble_eq_true rfl) rfl rfl ?_
                  refine x_aload_n i_25_6 rfl rfl ?_
                  refine x_getr i_25_7 f_25_9 g_1 rfl rfl ?_
                  refine x_iload i_25_10 rfl rfl ?_
                  refine x_iload_n i_25_12 rfl rfl ?_
                  obtain ⟨q13, h⟩ := h
                  refine x_iastore i_25_13 g_7 rfl q13 ?_
                  refine x_aload_n i_25_14 rfl rfl ?_
                  refine x_getr i_25_15 f_25_15 g_1 rfl rfl ?_
                  refine x_iload i_25_18 rfl rfl ?_
                  refine x_iload_n i_25_20 rfl rfl ?_
                  refine x_iastore i_25_21 g_8 rfl q13 ?_
                  refine x_aload_n i_25_22 rfl rfl ?_
                  refine x_getr i_25_23 f_25_18 g_1 rfl rfl ?_
                  refine x_iload i_25_26 rfl rfl ?_
                  refine x_iload_n i_25_28 rfl rfl ?_
                  refine x_iastore i_25_29 g_9 rfl q13 ?_
                  refine x_aload_n i_25_30 rfl rfl ?_
                  refine x_dup i_25_31 rfl rfl ?_
                  refine x_geti (v := M 1 6) i_25_32 f_25_31 g_1 rfl (pm_get_c (by decide) (pm_get_c (by decide) (pm_get_c (by decide) rfl))) rfl ?_
                  refine x_iconst i_25_35 (by decide) rfl ?_
                  obtain ⟨q14, h⟩ := h
                  refine x_iadd i_25_36 rfl q14 ?_
                  refine x_puti i_25_37 f_25_31 g_1 rfl rfl ?_
                  refine x_iload i_25_40 rfl rfl ?_
                  refine x_ireti i_25_42 r_25 ?_
                  refine x_bki rfl ?_
                  refine x_ireti i_2_103 r_2 ?_
                  refine x_bki rfl ?_
                  refine x_i2l i_88_10 rfl ?_
                  refine x_lastore i_88_11 g_34 rfl (by decide) ?_
                  refine x_goto i_88_12 rfl ?_
                  refine x_iconst i_88_27 (by decide) rfl ?_
                  exact x_ireti i_88_28 r_88 h
                · replace h := h.2 c10
                  refine x_aload_n i_2_64 rfl rfl ?_
                  refine x_getr i_2_65 f_2_12 g_0 rfl rfl ?_
                  refine x_iload_n i_2_68 rfl rfl ?_
                  refine x_calls (as := [.inl a2]) (rest := [.inr (.inl 1)]) i_2_69 k_2_67 rfl rfl rfl (Nat.le_of_ble_eq_true rfl) m_14 rfl ?_
                  refine x_iconst i_14_0 (by decide) rfl ?_
                  refine x_iload_n i_14_1 rfl rfl ?_
                  obtain ⟨q15, h⟩ := h
                  refine x_imul i_14_2 rfl q15 ?_
                  refine x_ireti i_14_3 r_14 ?_
                  refine x_bki rfl ?_
                  refine x_iconst i_2_72 (by decide) rfl ?_
                  refine x_iload_n i_2_73 rfl rfl ?_
                  refine x_calls (as := [.inl a3]) (rest := [.inl 1, .inl (2 * a2), .inr (.inl 1)]) i_2_74 k_2_67 rfl rfl rfl (Nat.le_of_ble_eq_true rfl) m_14 rfl ?_
                  refine x_iconst i_14_0 (by decide) rfl ?_
                  refine x_iload_n i_14_1 rfl rfl ?_
                  obtain ⟨q16, h⟩ := h
                  refine x_imul i_14_2 rfl q16 ?_
                  refine x_ireti i_14_3 r_14 ?_
                  refine x_bki rfl ?_
                  refine x_callv (as := [.inl (2 * a2), .inl 1, .inl (2 * a3)]) (rest := []) i_2_77 k_2_71 rfl rfl rfl g_1 (Nat.le_of_ble_eq_true rfl) m_25 rfl ?_
                  refine x_aload_n i_25_0 rfl rfl ?_
                  refine x_geti (v := M 1 6) i_25_1 f_25_31 g_1 rfl (rfl) rfl ?_
                  refine x_istore i_25_4 (Nat.le_of_ble_eq_true rfl) rfl rfl ?_
                  refine x_aload_n i_25_6 rfl rfl ?_
                  refine x_getr i_25_7 f_25_9 g_1 rfl rfl ?_
                  refine x_iload i_25_10 rfl rfl ?_
                  refine x_iload_n i_25_12 rfl rfl ?_
                  obtain ⟨q17, h⟩ := h
                  refine x_iastore i_25_13 g_7 rfl q17 ?_
                  refine x_aload_n i_25_14 rfl rfl ?_
                  refine x_getr i_25_15 f_25_15 g_1 rfl rfl ?_
                  refine x_iload i_25_18 rfl rfl ?_
                  refine x_iload_n i_25_20 rfl rfl ?_
                  refine x_iastore i_25_21 g_8 rfl q17 ?_
                  refine x_aload_n i_25_22 rfl rfl ?_
                  refine x_getr i_25_23 f_25_18 g_1 rfl rfl ?_
                  refine x_iload i_25_26 rfl rfl ?_
                  refine x_iload_n i_25_28 rfl rfl ?_
                  refine x_iastore i_25_29 g_9 rfl q17 ?_
                  refine x_aload_n i_25_30 rfl rfl ?_
                  refine x_dup i_25_31 rfl rfl ?_
                  refine x_geti (v := M 1 6) i_25_32 f_25_31 g_1 rfl (pm_get_c (by decide) (pm_get_c (by decide) (pm_get_c (by decide) rfl))) rfl ?_
                  refine x_iconst i_25_35 (by decide) rfl ?_
                  obtain ⟨q18, h⟩ := h
                  refine x_iadd i_25_36 rfl q18 ?_
                  refine x_puti i_25_37 f_25_31 g_1 rfl rfl ?_
                  refine x_iload i_25_40 rfl rfl ?_
                  refine x_ireti i_25_42 r_25 ?_
                  refine x_bki rfl ?_
                  refine x_ireti i_2_80 r_2 ?_
                  refine x_bki rfl ?_
                  refine x_i2l i_88_10 rfl ?_
                  refine x_lastore i_88_11 g_34 rfl (by decide) ?_
                  refine x_goto i_88_12 rfl ?_
                  refine x_iconst i_88_27 (by decide) rfl ?_
                  exact x_ireti i_88_28 r_88 h
              · replace h := h.2 c9
                refine x_aload_n i_2_42 rfl rfl ?_
                refine x_getr i_2_43 f_2_12 g_0 rfl rfl ?_
                refine x_iload_n i_2_46 rfl rfl ?_
                refine x_calls (as := [.inl a2]) (rest := [.inr (.inl 1)]) i_2_47 k_2_67 rfl rfl rfl (Nat.le_of_ble_eq_true rfl) m_14 rfl ?_
                refine x_iconst i_14_0 (by decide) rfl ?_
                refine x_iload_n i_14_1 rfl rfl ?_
                obtain ⟨q19, h⟩ := h
                refine x_imul i_14_2 rfl q19 ?_
                refine x_ireti i_14_3 r_14 ?_
                refine x_bki rfl ?_
                refine x_iload_n i_2_50 rfl rfl ?_
                refine x_calls (as := [.inl a3]) (rest := [.inl (2 * a2), .inr (.inl 1)]) i_2_51 k_2_67 rfl rfl rfl (Nat.le_of_ble_eq_true rfl) m_14 rfl ?_
                refine x_iconst i_14_0 (by decide) rfl ?_
                refine x_iload_n i_14_1 rfl rfl ?_
                obtain ⟨q20, h⟩ := h
                refine x_imul i_14_2 rfl q20 ?_
                refine x_ireti i_14_3 r_14 ?_
                refine x_bki rfl ?_
                refine x_iconst i_2_54 (by decide) rfl ?_
                refine x_callv (as := [.inl (2 * a2), .inl (2 * a3), .inl 0]) (rest := []) i_2_55 k_2_71 rfl rfl rfl g_1 (Nat.le_of_ble_eq_true rfl) m_25 rfl ?_
                refine x_aload_n i_25_0 rfl rfl ?_
                refine x_geti (v := M 1 6) i_25_1 f_25_31 g_1 rfl (rfl) rfl ?_
                refine x_istore i_25_4 (Nat.le_of_ble_eq_true rfl) rfl rfl ?_
                refine x_aload_n i_25_6 rfl rfl ?_
                refine x_getr i_25_7 f_25_9 g_1 rfl rfl ?_
                refine x_iload i_25_10 rfl rfl ?_
                refine x_iload_n i_25_12 rfl rfl ?_
                obtain ⟨q21, h⟩ := h
                refine x_iastore i_25_13 g_7 rfl q21 ?_
                refine x_aload_n i_25_14 rfl rfl ?_
                refine x_getr i_25_15 f_25_15 g_1 rfl rfl ?_
                refine x_iload i_25_18 rfl rfl ?_
                refine x_iload_n i_25_20 rfl rfl ?_
                refine x_iastore i_25_21 g_8 rfl q21 ?_
                refine x_aload_n i_25_22 rfl rfl ?_
                refine x_getr i_25_23 f_25_18 g_1 rfl rfl ?_
                refine x_iload i_25_26 rfl rfl ?_
                refine x_iload_n i_25_28 rfl rfl ?_
                refine x_iastore i_25_29 g_9 rfl q21 ?_
                refine x_aload_n i_25_30 rfl rfl ?_
                refine x_dup i_25_31 rfl rfl ?_
                refine x_geti (v := M 1 6) i_25_32 f_25_31 g_1 rfl (pm_get_c (by decide) (pm_get_c (by decide) (pm_get_c (by decide) rfl))) rfl ?_
                refine x_iconst i_25_35 (by decide) rfl ?_
                obtain ⟨q22, h⟩ := h
                refine x_iadd i_25_36 rfl q22 ?_
                refine x_puti i_25_37 f_25_31 g_1 rfl rfl ?_
                refine x_iload i_25_40 rfl rfl ?_
                refine x_ireti i_25_42 r_25 ?_
                refine x_bki rfl ?_
                refine x_ireti i_2_58 r_2 ?_
                refine x_bki rfl ?_
                refine x_i2l i_88_10 rfl ?_
                refine x_lastore i_88_11 g_34 rfl (by decide) ?_
                refine x_goto i_88_12 rfl ?_
                refine x_iconst i_88_27 (by decide) rfl ?_
                exact x_ireti i_88_28 r_88 h
            · replace h := h.2 c8
              obtain ⟨q23, h⟩ := h
              refine x_throw i_18_13 t_18_13 q23 ?_
              refine x_bkt rfl (by decide) ?_
              refine x_bkc (h0 := 23) (nx := 25) (i := 5) rfl rfl ?_
              refine x_iconst i_88_25 (by decide) rfl ?_
              exact x_ireti i_88_26 r_88 h
          · replace h := h.2 c7
            refine x_iload_n i_2_14 rfl rfl ?_
            refine x_iconst i_2_15 (by decide) rfl ?_
            refine x_icmp (C := a1 = 1) i_2_16 rfl Iff.rfl rfl ⟨fun c24 => ?_, fun c24 => ?_⟩
            · replace h := h.1 c24
              refine x_aload_n i_2_34 rfl rfl ?_
              refine x_callv (as := []) (rest := []) i_2_35 k_2_56 rfl rfl rfl g_0 (Nat.le_of_ble_eq_true rfl) m_18 rfl ?_
              refine x_aload_n i_18_0 rfl rfl ?_
              refine x_getr i_18_1 f_18_12 g_0 rfl rfl ?_
              refine x_geti (v := M 1 6) i_18_4 f_18_126 g_1 rfl (rfl) rfl ?_
              refine x_sipush i_18_7 (by decide) rfl ?_
              refine x_icmp (C := ¬ M 1 6 = 2000) i_18_10 rfl Iff.rfl rfl ⟨fun c25 => ?_, fun c25 => ?_⟩
              · replace h := h.1 c25
                refine x_ret i_18_23 r_18 ?_
                refine x_bkv rfl ?_
                refine x_iload_n i_2_38 rfl rfl ?_
                refine x_ifT i_2_39 rfl c7 ?_
                refine x_iload_n i_2_59 rfl rfl ?_
                refine x_iconst i_2_60 (by decide) rfl ?_
                refine x_icmp (C := ¬ a1 = 1) i_2_61 rfl Iff.rfl rfl ⟨fun c26 => ?_, fun c26 => ?_⟩
                · replace h := h.1 c26
                  refine x_aload_n i_2_81 rfl rfl ?_
                  refine x_getr i_2_82 f_2_12 g_0 rfl rfl ?_
                  refine x_iload_n i_2_85 rfl rfl ?_
                  refine x_calls (as := [.inl a2]) (rest := [.inr (.inl 1)]) i_2_86 k_2_67 rfl rfl rfl (Nat.le_of_ble_eq_true rfl) m_14 rfl ?_
                  refine x_iconst i_14_0 (by decide) rfl ?_
                  refine x_iload_n i_14_1 rfl rfl ?_
                  obtain ⟨q27, h⟩ := h
                  refine x_imul i_14_2 rfl q27 ?_
                  refine x_ireti i_14_3 r_14 ?_
                  refine x_bki rfl ?_
                  refine x_iload_n i_2_89 rfl rfl ?_
                  refine x_calls (as := [.inl a3]) (rest := [.inl (2 * a2), .inr (.inl 1)]) i_2_90 k_2_67 rfl rfl rfl (Nat.le_of_ble_eq_true rfl) m_14 rfl ?_
                  refine x_iconst i_14_0 (by decide) rfl ?_
                  refine x_iload_n i_14_1 rfl rfl ?_
                  obtain ⟨q28, h⟩ := h
                  refine x_imul i_14_2 rfl q28 ?_
                  refine x_ireti i_14_3 r_14 ?_
                  refine x_bki rfl ?_
                  refine x_calls (as := [.inl (2 * a3)]) (rest := [.inl (2 * a2), .inr (.inl 1)]) i_2_93 k_2_80 rfl rfl rfl (Nat.le_of_ble_eq_true rfl) m_15 rfl ?_
                  refine x_iload_n i_15_0 rfl rfl ?_
                  refine x_iconst i_15_1 (by decide) rfl ?_
                  refine x_ixor i_15_2 rfl ?_
                  refine x_ireti i_15_3 r_15 ?_
                  refine x_bki rfl ?_
                  refine x_iload_n i_2_96 rfl rfl ?_
                  refine x_calls (as := [.inl a3]) (rest := [.inl (pm_op (2 * a3)), .inl (2 * a2), .inr (.inl 1)]) i_2_97 k_2_67 rfl rfl rfl (Nat.le_of_ble_eq_true rfl) m_14 rfl ?_
                  refine x_iconst i_14_0 (by decide) rfl ?_
                  refine x_iload_n i_14_1 rfl rfl ?_
                  refine x_imul i_14_2 rfl q28 ?_
                  refine x_ireti i_14_3 r_14 ?_
                  refine x_bki rfl ?_
                  refine x_callv (as := [.inl (2 * a2), .inl (pm_op (2 * a3)), .inl (2 * a3)]) (rest := []) i_2_100 k_2_71 rfl rfl rfl g_1 (Nat.le_of_ble_eq_true rfl) m_25 rfl ?_
                  refine x_aload_n i_25_0 rfl rfl ?_
                  refine x_geti (v := M 1 6) i_25_1 f_25_31 g_1 rfl (rfl) rfl ?_
                  refine x_istore i_25_4 (Nat.le_of_ble_eq_true rfl) rfl rfl ?_
                  refine x_aload_n i_25_6 rfl rfl ?_
                  refine x_getr i_25_7 f_25_9 g_1 rfl rfl ?_
                  refine x_iload i_25_10 rfl rfl ?_
                  refine x_iload_n i_25_12 rfl rfl ?_
                  obtain ⟨q29, h⟩ := h
                  refine x_iastore i_25_13 g_7 rfl q29 ?_
                  refine x_aload_n i_25_14 rfl rfl ?_
                  refine x_getr i_25_15 f_25_15 g_1 rfl rfl ?_
                  refine x_iload i_25_18 rfl rfl ?_
                  refine x_iload_n i_25_20 rfl rfl ?_
                  refine x_iastore i_25_21 g_8 rfl q29 ?_
                  refine x_aload_n i_25_22 rfl rfl ?_
                  refine x_getr i_25_23 f_25_18 g_1 rfl rfl ?_
                  refine x_iload i_25_26 rfl rfl ?_
                  refine x_iload_n i_25_28 rfl rfl ?_
                  refine x_iastore i_25_29 g_9 rfl q29 ?_
                  refine x_aload_n i_25_30 rfl rfl ?_
                  refine x_dup i_25_31 rfl rfl ?_
                  refine x_geti (v := M 1 6) i_25_32 f_25_31 g_1 rfl (pm_get_c (by decide) (pm_get_c (by decide) (pm_get_c (by decide) rfl))) rfl ?_
                  refine x_iconst i_25_35 (by decide) rfl ?_
                  obtain ⟨q30, h⟩ := h
                  refine x_iadd i_25_36 rfl q30 ?_
                  refine x_puti i_25_37 f_25_31 g_1 rfl rfl ?_
                  refine x_iload i_25_40 rfl rfl ?_
                  refine x_ireti i_25_42 r_25 ?_
                  refine x_bki rfl ?_
                  refine x_ireti i_2_103 r_2 ?_
                  refine x_bki rfl ?_
                  refine x_i2l i_88_10 rfl ?_
                  refine x_lastore i_88_11 g_34 rfl (by decide) ?_
                  refine x_goto i_88_12 rfl ?_
                  refine x_iconst i_88_27 (by decide) rfl ?_
                  exact x_ireti i_88_28 r_88 h
                · replace h := h.2 c26
                  refine x_aload_n i_2_64 rfl rfl ?_
                  refine x_getr i_2_65 f_2_12 g_0 rfl rfl ?_
                  refine x_iload_n i_2_68 rfl rfl ?_
                  refine x_calls (as := [.inl a2]) (rest := [.inr (.inl 1)]) i_2_69 k_2_67 rfl rfl rfl (Nat.le_of_ble_eq_true rfl) m_14 rfl ?_
                  refine x_iconst i_14_0 (by decide) rfl ?_
                  refine x_iload_n i_14_1 rfl rfl ?_
                  obtain ⟨q31, h⟩ := h
                  refine x_imul i_14_2 rfl q31 ?_
                  refine x_ireti i_14_3 r_14 ?_
                  refine x_bki rfl ?_
                  refine x_iconst i_2_72 (by decide) rfl ?_
                  refine x_iload_n i_2_73 rfl rfl ?_
                  refine x_calls (as := [.inl a3]) (rest := [.inl 1, .inl (2 * a2), .inr (.inl 1)]) i_2_74 k_2_67 rfl rfl rfl (Nat.le_of_ble_eq_true rfl) m_14 rfl ?_
                  refine x_iconst i_14_0 (by decide) rfl ?_
                  refine x_iload_n i_14_1 rfl rfl ?_
                  obtain ⟨q32, h⟩ := h
                  refine x_imul i_14_2 rfl q32 ?_
                  refine x_ireti i_14_3 r_14 ?_
                  refine x_bki rfl ?_
                  refine x_callv (as := [.inl (2 * a2), .inl 1, .inl (2 * a3)]) (rest := []) i_2_77 k_2_71 rfl rfl rfl g_1 (Nat.le_of_ble_eq_true rfl) m_25 rfl ?_
                  refine x_aload_n i_25_0 rfl rfl ?_
                  refine x_geti (v := M 1 6) i_25_1 f_25_31 g_1 rfl (rfl) rfl ?_
                  refine x_istore i_25_4 (Nat.le_of_ble_eq_true rfl) rfl rfl ?_
                  refine x_aload_n i_25_6 rfl rfl ?_
                  refine x_getr i_25_7 f_25_9 g_1 rfl rfl ?_
                  refine x_iload i_25_10 rfl rfl ?_
                  refine x_iload_n i_25_12 rfl rfl ?_
                  obtain ⟨q33, h⟩ := h
                  refine x_iastore i_25_13 g_7 rfl q33 ?_
                  refine x_aload_n i_25_14 rfl rfl ?_
                  refine x_getr i_25_15 f_25_15 g_1 rfl rfl ?_
                  refine x_iload i_25_18 rfl rfl ?_
                  refine x_iload_n i_25_20 rfl rfl ?_
                  refine x_iastore i_25_21 g_8 rfl q33 ?_
                  refine x_aload_n i_25_22 rfl rfl ?_
                  refine x_getr i_25_23 f_25_18 g_1 rfl rfl ?_
                  refine x_iload i_25_26 rfl rfl ?_
                  refine x_iload_n i_25_28 rfl rfl ?_
                  refine x_iastore i_25_29 g_9 rfl q33 ?_
                  refine x_aload_n i_25_30 rfl rfl ?_
                  refine x_dup i_25_31 rfl rfl ?_
                  refine x_geti (v := M 1 6) i_25_32 f_25_31 g_1 rfl (pm_get_c (by decide) (pm_get_c (by decide) (pm_get_c (by decide) rfl))) rfl ?_
                  refine x_iconst i_25_35 (by decide) rfl ?_
                  obtain ⟨q34, h⟩ := h
                  refine x_iadd i_25_36 rfl q34 ?_
                  refine x_puti i_25_37 f_25_31 g_1 rfl rfl ?_
                  refine x_iload i_25_40 rfl rfl ?_
                  refine x_ireti i_25_42 r_25 ?_
                  refine x_bki rfl ?_
                  refine x_ireti i_2_80 r_2 ?_
                  refine x_bki rfl ?_
                  refine x_i2l i_88_10 rfl ?_
                  refine x_lastore i_88_11 g_34 rfl (by decide) ?_
                  refine x_goto i_88_12 rfl ?_
                  refine x_iconst i_88_27 (by decide) rfl ?_
                  exact x_ireti i_88_28 r_88 h
              · replace h := h.2 c25
                obtain ⟨q35, h⟩ := h
                refine x_throw i_18_13 t_18_13 q35 ?_
                refine x_bkt rfl (by decide) ?_
                refine x_bkc (h0 := 23) (nx := 25) (i := 5) rfl rfl ?_
                refine x_iconst i_88_25 (by decide) rfl ?_
                exact x_ireti i_88_26 r_88 h
            · replace h := h.2 c24
              refine x_iload_n i_2_19 rfl rfl ?_
              refine x_iconst i_2_20 (by decide) rfl ?_
              refine x_icmp (C := a1 = 2) i_2_21 rfl Iff.rfl rfl ⟨fun c36 => ?_, fun c36 => ?_⟩
              · replace h := h.1 c36
                refine x_aload_n i_2_34 rfl rfl ?_
                refine x_callv (as := []) (rest := []) i_2_35 k_2_56 rfl rfl rfl g_0 (Nat.le_of_ble_eq_true rfl) m_18 rfl ?_
                refine x_aload_n i_18_0 rfl rfl ?_
                refine x_getr i_18_1 f_18_12 g_0 rfl rfl ?_
                refine x_geti (v := M 1 6) i_18_4 f_18_126 g_1 rfl (rfl) rfl ?_
                refine x_sipush i_18_7 (by decide) rfl ?_
                refine x_icmp (C := ¬ M 1 6 = 2000) i_18_10 rfl Iff.rfl rfl ⟨fun c37 => ?_, fun c37 => ?_⟩
                · replace h := h.1 c37
                  refine x_ret i_18_23 r_18 ?_
                  refine x_bkv rfl ?_
                  refine x_iload_n i_2_38 rfl rfl ?_
                  refine x_ifT i_2_39 rfl c7 ?_
                  refine x_iload_n i_2_59 rfl rfl ?_
                  refine x_iconst i_2_60 (by decide) rfl ?_
                  refine x_icmpT i_2_61 rfl c24 ?_
                  refine x_aload_n i_2_81 rfl rfl ?_
                  refine x_getr i_2_82 f_2_12 g_0 rfl rfl ?_
                  refine x_iload_n i_2_85 rfl rfl ?_
                  refine x_calls (as := [.inl a2]) (rest := [.inr (.inl 1)]) i_2_86 k_2_67 rfl rfl rfl (Nat.le_of_ble_eq_true rfl) m_14 rfl ?_
                  refine x_iconst i_14_0 (by decide) rfl ?_
                  refine x_iload_n i_14_1 rfl rfl ?_
                  obtain ⟨q38, h⟩ := h
                  refine x_imul i_14_2 rfl q38 ?_
                  refine x_ireti i_14_3 r_14 ?_
                  refine x_bki rfl ?_
                  refine x_iload_n i_2_89 rfl rfl ?_
                  refine x_calls (as := [.inl a3]) (rest := [.inl (2 * a2), .inr (.inl 1)]) i_2_90 k_2_67 rfl rfl rfl (Nat.le_of_ble_eq_true rfl) m_14 rfl ?_
                  refine x_iconst i_14_0 (by decide) rfl ?_
                  refine x_iload_n i_14_1 rfl rfl ?_
                  obtain ⟨q39, h⟩ := h
                  refine x_imul i_14_2 rfl q39 ?_
                  refine x_ireti i_14_3 r_14 ?_
                  refine x_bki rfl ?_
                  refine x_calls (as := [.inl (2 * a3)]) (rest := [.inl (2 * a2), .inr (.inl 1)]) i_2_93 k_2_80 rfl rfl rfl (Nat.le_of_ble_eq_true rfl) m_15 rfl ?_
                  refine x_iload_n i_15_0 rfl rfl ?_
                  refine x_iconst i_15_1 (by decide) rfl ?_
                  refine x_ixor i_15_2 rfl ?_
                  refine x_ireti i_15_3 r_15 ?_
                  refine x_bki rfl ?_
                  refine x_iload_n i_2_96 rfl rfl ?_
                  refine x_calls (as := [.inl a3]) (rest := [.inl (pm_op (2 * a3)), .inl (2 * a2), .inr (.inl 1)]) i_2_97 k_2_67 rfl rfl rfl (Nat.le_of_ble_eq_true rfl) m_14 rfl ?_
                  refine x_iconst i_14_0 (by decide) rfl ?_
                  refine x_iload_n i_14_1 rfl rfl ?_
                  refine x_imul i_14_2 rfl q39 ?_
                  refine x_ireti i_14_3 r_14 ?_
                  refine x_bki rfl ?_
                  refine x_callv (as := [.inl (2 * a2), .inl (pm_op (2 * a3)), .inl (2 * a3)]) (rest := []) i_2_100 k_2_71 rfl rfl rfl g_1 (Nat.le_of_ble_eq_true rfl) m_25 rfl ?_
                  refine x_aload_n i_25_0 rfl rfl ?_
                  refine x_geti (v := M 1 6) i_25_1 f_25_31 g_1 rfl (rfl) rfl ?_
                  refine x_istore i_25_4 (Nat.le_of_ble_eq_true rfl) rfl rfl ?_
                  refine x_aload_n i_25_6 rfl rfl ?_
                  refine x_getr i_25_7 f_25_9 g_1 rfl rfl ?_
                  refine x_iload i_25_10 rfl rfl ?_
                  refine x_iload_n i_25_12 rfl rfl ?_
                  obtain ⟨q40, h⟩ := h
                  refine x_iastore i_25_13 g_7 rfl q40 ?_
                  refine x_aload_n i_25_14 rfl rfl ?_
                  refine x_getr i_25_15 f_25_15 g_1 rfl rfl ?_
                  refine x_iload i_25_18 rfl rfl ?_
                  refine x_iload_n i_25_20 rfl rfl ?_
                  refine x_iastore i_25_21 g_8 rfl q40 ?_
                  refine x_aload_n i_25_22 rfl rfl ?_
                  refine x_getr i_25_23 f_25_18 g_1 rfl rfl ?_
                  refine x_iload i_25_26 rfl rfl ?_
                  refine x_iload_n i_25_28 rfl rfl ?_
                  refine x_iastore i_25_29 g_9 rfl q40 ?_
                  refine x_aload_n i_25_30 rfl rfl ?_
                  refine x_dup i_25_31 rfl rfl ?_
                  refine x_geti (v := M 1 6) i_25_32 f_25_31 g_1 rfl (pm_get_c (by decide) (pm_get_c (by decide) (pm_get_c (by decide) rfl))) rfl ?_
                  refine x_iconst i_25_35 (by decide) rfl ?_
                  obtain ⟨q41, h⟩ := h
                  refine x_iadd i_25_36 rfl q41 ?_
                  refine x_puti i_25_37 f_25_31 g_1 rfl rfl ?_
                  refine x_iload i_25_40 rfl rfl ?_
                  refine x_ireti i_25_42 r_25 ?_
                  refine x_bki rfl ?_
                  refine x_ireti i_2_103 r_2 ?_
                  refine x_bki rfl ?_
                  refine x_i2l i_88_10 rfl ?_
                  refine x_lastore i_88_11 g_34 rfl (by decide) ?_
                  refine x_goto i_88_12 rfl ?_
                  refine x_iconst i_88_27 (by decide) rfl ?_
                  exact x_ireti i_88_28 r_88 h
                · replace h := h.2 c37
                  obtain ⟨q42, h⟩ := h
                  refine x_throw i_18_13 t_18_13 q42 ?_
                  refine x_bkt rfl (by decide) ?_
                  refine x_bkc (h0 := 23) (nx := 25) (i := 5) rfl rfl ?_
                  refine x_iconst i_88_25 (by decide) rfl ?_
                  exact x_ireti i_88_26 r_88 h
              · replace h := h.2 c36
                obtain ⟨q43, h⟩ := h
                refine x_throw i_2_24 t_2_24 q43 ?_
                refine x_bkc (h0 := 19) (nx := 21) (i := 5) rfl rfl ?_
                refine x_iconst i_88_21 (by decide) rfl ?_
                exact x_ireti i_88_22 r_88 h
        · replace h := h.2 c6
          obtain ⟨q44, h⟩ := h
          refine x_throw i_17_15 t_17_15 q44 ?_
          refine x_bkt rfl (by decide) ?_
          refine x_bkc (h0 := 15) (nx := 17) (i := 5) rfl rfl ?_
          refine x_iconst i_88_17 (by decide) rfl ?_
          exact x_ireti i_88_18 r_88 h
    · replace h := h.2 c3
      obtain ⟨q45, h⟩ := h
      refine x_throw i_17_15 t_17_15 q45 ?_
      refine x_bkt rfl (by decide) ?_
      refine x_bkc (h0 := 15) (nx := 17) (i := 5) rfl rfl ?_
      refine x_iconst i_88_17 (by decide) rfl ?_
      exact x_ireti i_88_18 r_88 h
/-! GateBenchLaw.choose at 0 -/
theorem s_89_0 {L : Nat} {M : pm_M} {Q : pm_P} {a1 a2 a3 : Int}
    (h : ((a1 < 0 → (1 ≤ M 99 0) ∧ Q (.inl (some (.inl 1))) (pm_set M 99 0 (M 99 0 - 1))) ∧ (¬ (a1 < 0) → ((a1 < M 1 6 → ((a2 < 0 → (1 ≤ M 99 0) ∧ Q (.inl (some (.inl 1))) (pm_set M 99 0 (M 99 0 - 1))) ∧ (¬ (a2 < 0) → ((a2 < M 1 6 → ((a3 < 0 → (1 ≤ M 99 0) ∧ Q (.inl (some (.inl 1))) (pm_set M 99 0 (M 99 0 - 1))) ∧ (¬ (a3 < 0) → ((a3 < M 1 6 → ((¬ M 1 6 = 2000 → (pm_R (2 * a1)) ∧ (pm_R (2 * a2)) ∧ (pm_R (2 * a3)) ∧ (0 ≤ M 1 6 ∧ M 1 6 < 2000) ∧ (pm_R (M 1 6 + 1)) ∧ Q (.inl (some (.inl 0))) (pm_set (pm_set (pm_set (pm_set (pm_set M 7 (M 1 6) (2 * a1)) 8 (M 1 6) (2 * a2)) 9 (M 1 6) (2 * a3)) 1 6 (M 1 6 + 1)) 34 0 (M 1 6))) ∧ (¬ (¬ M 1 6 = 2000) → (1 ≤ M 99 0) ∧ Q (.inl (some (.inl 2))) (pm_set M 99 0 (M 99 0 - 1))))) ∧ (¬ (a3 < M 1 6) → (1 ≤ M 99 0) ∧ Q (.inl (some (.inl 1))) (pm_set M 99 0 (M 99 0 - 1))))))) ∧ (¬ (a2 < M 1 6) → (1 ≤ M 99 0) ∧ Q (.inl (some (.inl 1))) (pm_set M 99 0 (M 99 0 - 1))))))) ∧ (¬ (a1 < M 1 6) → (1 ≤ M 99 0) ∧ Q (.inl (some (.inl 1))) (pm_set M 99 0 (M 99 0 - 1))))))) :
    pm_X L (89, 0, [some (.inr (.inl 0)), some (.inl a1), some (.inl a2), some (.inl a3), some (.inr (.inl 34)), none], [], M) Q := by
  refine x_aload i_89_0 rfl rfl ?_
  refine x_iconst i_89_2 (by decide) rfl ?_
  refine x_aload_n i_89_3 rfl rfl ?_
  refine x_iload_n i_89_4 rfl rfl ?_
  refine x_iload_n i_89_5 rfl rfl ?_
  refine x_iload_n i_89_6 rfl rfl ?_
  refine x_callv (as := [.inl a1, .inl a2, .inl a3]) (rest := [.inl 0, .inr (.inl 34)]) i_89_7 k_89_27 rfl rfl rfl g_0 (Nat.le_of_ble_eq_true rfl) m_3 rfl ?_
  refine x_aload_n i_3_0 rfl rfl ?_
  refine x_iload_n i_3_1 rfl rfl ?_
  refine x_callv (as := [.inl a1]) (rest := []) i_3_2 k_3_63 rfl rfl rfl g_0 (Nat.le_of_ble_eq_true rfl) m_17 rfl ?_
  refine x_iload_n i_17_0 rfl rfl ?_
  refine x_if (C := a1 < 0) i_17_1 rfl Iff.rfl rfl ⟨fun c1 => ?_, fun c1 => ?_⟩
  · replace h := h.1 c1
    obtain ⟨q2, h⟩ := h
    refine x_throw i_17_15 t_17_15 q2 ?_
    refine x_bkt rfl (by decide) ?_
    refine x_bkc (h0 := 15) (nx := 17) (i := 5) rfl rfl ?_
    refine x_iconst i_89_17 (by decide) rfl ?_
    exact x_ireti i_89_18 r_89 h
  · replace h := h.2 c1
    refine x_iload_n i_17_4 rfl rfl ?_
    refine x_aload_n i_17_5 rfl rfl ?_
    refine x_getr i_17_6 f_17_12 g_0 rfl rfl ?_
    refine x_geti (v := M 1 6) i_17_9 f_17_126 g_1 rfl (rfl) rfl ?_
    refine x_icmp (C := a1 < M 1 6) i_17_12 rfl Iff.rfl rfl ⟨fun c3 => ?_, fun c3 => ?_⟩
    · replace h := h.1 c3
      refine x_ret i_17_25 r_17 ?_
      refine x_bkv rfl ?_
      refine x_aload_n i_3_5 rfl rfl ?_
      refine x_iload_n i_3_6 rfl rfl ?_
      refine x_callv (as := [.inl a2]) (rest := []) i_3_7 k_3_63 rfl rfl rfl g_0 (Nat.le_of_ble_eq_true rfl) m_17 rfl ?_
      refine x_iload_n i_17_0 rfl rfl ?_
      refine x_if (C := a2 < 0) i_17_1 rfl Iff.rfl rfl ⟨fun c4 => ?_, fun c4 => ?_⟩
      · replace h := h.1 c4
        obtain ⟨q5, h⟩ := h
        refine x_throw i_17_15 t_17_15 q5 ?_
        refine x_bkt rfl (by decide) ?_
        refine x_bkc (h0 := 15) (nx := 17) (i := 5) rfl rfl ?_
        refine x_iconst i_89_17 (by decide) rfl ?_
        exact x_ireti i_89_18 r_89 h
      · replace h := h.2 c4
        refine x_iload_n i_17_4 rfl rfl ?_
        refine x_aload_n i_17_5 rfl rfl ?_
        refine x_getr i_17_6 f_17_12 g_0 rfl rfl ?_
        refine x_geti (v := M 1 6) i_17_9 f_17_126 g_1 rfl (rfl) rfl ?_
        refine x_icmp (C := a2 < M 1 6) i_17_12 rfl Iff.rfl rfl ⟨fun c6 => ?_, fun c6 => ?_⟩
        · replace h := h.1 c6
          refine x_ret i_17_25 r_17 ?_
          refine x_bkv rfl ?_
          refine x_aload_n i_3_10 rfl rfl ?_
          refine x_iload_n i_3_11 rfl rfl ?_
          refine x_callv (as := [.inl a3]) (rest := []) i_3_12 k_3_63 rfl rfl rfl g_0 (Nat.le_of_ble_eq_true rfl) m_17 rfl ?_
          refine x_iload_n i_17_0 rfl rfl ?_
          refine x_if (C := a3 < 0) i_17_1 rfl Iff.rfl rfl ⟨fun c7 => ?_, fun c7 => ?_⟩
          · replace h := h.1 c7
            obtain ⟨q8, h⟩ := h
            refine x_throw i_17_15 t_17_15 q8 ?_
            refine x_bkt rfl (by decide) ?_
            refine x_bkc (h0 := 15) (nx := 17) (i := 5) rfl rfl ?_
            refine x_iconst i_89_17 (by decide) rfl ?_
            exact x_ireti i_89_18 r_89 h
          · replace h := h.2 c7
            refine x_iload_n i_17_4 rfl rfl ?_
            refine x_aload_n i_17_5 rfl rfl ?_
            refine x_getr i_17_6 f_17_12 g_0 rfl rfl ?_
            refine x_geti (v := M 1 6) i_17_9 f_17_126 g_1 rfl (rfl) rfl ?_
            refine x_icmp (C := a3 < M 1 6) i_17_12 rfl Iff.rfl rfl ⟨fun c9 => ?_, fun c9 => ?_⟩
            · replace h := h.1 c9
              refine x_ret i_17_25 r_17 ?_
              refine x_bkv rfl ?_
              refine x_aload_n i_3_15 rfl rfl ?_
              refine x_callv (as := []) (rest := []) i_3_16 k_3_56 rfl rfl rfl g_0 (Nat.le_of_ble_eq_true rfl) m_18 rfl ?_
              refine x_aload_n i_18_0 rfl rfl ?_
              refine x_getr i_18_1 f_18_12 g_0 rfl rfl ?_
              refine x_geti (v := M 1 6) i_18_4 f_18_126 g_1 rfl (rfl) rfl ?_
              refine x_sipush i_18_7 (by decide) rfl ?_
              refine x_icmp (C := ¬ M 1 6 = 2000) i_18_10 rfl Iff.rfl rfl ⟨fun c10 => ?_, fun c10 => ?_⟩
              · replace h := h.1 c10
                refine x_ret i_18_23 r_18 ?_
                refine x_bkv rfl ?_
                refine x_aload_n i_3_19 rfl rfl ?_
                refine x_getr i_3_20 f_3_12 g_0 rfl rfl ?_
                refine x_iload_n i_3_23 rfl rfl ?_
                refine x_calls (as := [.inl a1]) (rest := [.inr (.inl 1)]) i_3_24 k_3_67 rfl rfl rfl (Nat.le_of_ble_eq_true rfl) m_14 rfl ?_
                refine x_iconst i_14_0 (by decide) rfl ?_
                refine x_iload_n i_14_1 rfl rfl ?_
                obtain ⟨q11, h⟩ := h
                refine x_imul i_14_2 rfl q11 ?_
                refine x_ireti i_14_3 r_14 ?_
                refine x_bki rfl ?_
                refine x_iload_n i_3_27 rfl rfl ?_
                refine x_calls (as := [.inl a2]) (rest := [.inl (2 * a1), .inr (.inl 1)]) i_3_28 k_3_67 rfl rfl rfl (Nat.le_of_ble_eq_true rfl) m_14 rfl ?_
                refine x_iconst i_14_0 (by decide) rfl ?_
                refine x_iload_n i_14_1 rfl rfl ?_
                obtain ⟨q12, h⟩ := h
                refine x_imul i_14_2 rfl q12 ?_
                refine x_ireti i_14_3 r_14 ?_
                refine x_bki rfl ?_
                refine x_iload_n i_3_31 rfl rfl ?_
                refine x_calls (as := [.inl a3]) (rest := [.inl (2 * a2), .inl (2 * a1), .inr (.inl 1)]) i_3_32 k_3_67 rfl rfl rfl (Nat.le_of_ble_eq_true rfl) m_14 rfl ?_
                refine x_iconst i_14_0 (by decide) rfl ?_
                refine x_iload_n i_14_1 rfl rfl ?_
                obtain ⟨q13, h⟩ := h
                refine x_imul i_14_2 rfl q13 ?_
                refine x_ireti i_14_3 r_14 ?_
                refine x_bki rfl ?_
                refine x_callv (as := [.inl (2 * a1), .inl (2 * a2), .inl (2 * a3)]) (rest := []) i_3_35 k_3_71 rfl rfl rfl g_1 (Nat.le_of_ble_eq_true rfl) m_25 rfl ?_
                refine x_aload_n i_25_0 rfl rfl ?_
                refine x_geti (v := M 1 6) i_25_1 f_25_31 g_1 rfl (rfl) rfl ?_
                refine x_istore i_25_4 (Nat.le_of_ble_eq_true rfl) rfl rfl ?_
                refine x_aload_n i_25_6 rfl rfl ?_
                refine x_getr i_25_7 f_25_9 g_1 rfl rfl ?_
                refine x_iload i_25_10 rfl rfl ?_
                refine x_iload_n i_25_12 rfl rfl ?_
                obtain ⟨q14, h⟩ := h
                refine x_iastore i_25_13 g_7 rfl q14 ?_
                refine x_aload_n i_25_14 rfl rfl ?_
                refine x_getr i_25_15 f_25_15 g_1 rfl rfl ?_
                refine x_iload i_25_18 rfl rfl ?_
                refine x_iload_n i_25_20 rfl rfl ?_
                refine x_iastore i_25_21 g_8 rfl q14 ?_
                refine x_aload_n i_25_22 rfl rfl ?_
                refine x_getr i_25_23 f_25_18 g_1 rfl rfl ?_
                refine x_iload i_25_26 rfl rfl ?_
                refine x_iload_n i_25_28 rfl rfl ?_
                refine x_iastore i_25_29 g_9 rfl q14 ?_
                refine x_aload_n i_25_30 rfl rfl ?_
                refine x_dup i_25_31 rfl rfl ?_
                refine x_geti (v := M 1 6) i_25_32 f_25_31 g_1 rfl (pm_get_c (by decide) (pm_get_c (by decide) (pm_get_c (by decide) rfl))) rfl ?_
                refine x_iconst i_25_35 (by decide) rfl ?_
                obtain ⟨q15, h⟩ := h
                refine x_iadd i_25_36 rfl q15 ?_
                refine x_puti i_25_37 f_25_31 g_1 rfl rfl ?_
                refine x_iload i_25_40 rfl rfl ?_
                refine x_ireti i_25_42 r_25 ?_
                refine x_bki rfl ?_
                refine x_ireti i_3_38 r_3 ?_
                refine x_bki rfl ?_
                refine x_i2l i_89_10 rfl ?_
                refine x_lastore i_89_11 g_34 rfl (by decide) ?_
                refine x_goto i_89_12 rfl ?_
                refine x_iconst i_89_23 (by decide) rfl ?_
                exact x_ireti i_89_24 r_89 h
              · replace h := h.2 c10
                obtain ⟨q16, h⟩ := h
                refine x_throw i_18_13 t_18_13 q16 ?_
                refine x_bkt rfl (by decide) ?_
                refine x_bkc (h0 := 19) (nx := 21) (i := 5) rfl rfl ?_
                refine x_iconst i_89_21 (by decide) rfl ?_
                exact x_ireti i_89_22 r_89 h
            · replace h := h.2 c9
              obtain ⟨q17, h⟩ := h
              refine x_throw i_17_15 t_17_15 q17 ?_
              refine x_bkt rfl (by decide) ?_
              refine x_bkc (h0 := 15) (nx := 17) (i := 5) rfl rfl ?_
              refine x_iconst i_89_17 (by decide) rfl ?_
              exact x_ireti i_89_18 r_89 h
        · replace h := h.2 c6
          obtain ⟨q18, h⟩ := h
          refine x_throw i_17_15 t_17_15 q18 ?_
          refine x_bkt rfl (by decide) ?_
          refine x_bkc (h0 := 15) (nx := 17) (i := 5) rfl rfl ?_
          refine x_iconst i_89_17 (by decide) rfl ?_
          exact x_ireti i_89_18 r_89 h
    · replace h := h.2 c3
      obtain ⟨q19, h⟩ := h
      refine x_throw i_17_15 t_17_15 q19 ?_
      refine x_bkt rfl (by decide) ?_
      refine x_bkc (h0 := 15) (nx := 17) (i := 5) rfl rfl ?_
      refine x_iconst i_89_17 (by decide) rfl ?_
      exact x_ireti i_89_18 r_89 h
/-! GateBenchLaw.want at 0 -/
theorem s_90_0 {L : Nat} {M : pm_M} {Q : pm_P} {a1 : Int}
    (h : ((a1 < 0 → (1 ≤ M 99 0) ∧ Q (.inl (some (.inl 1))) (pm_set M 99 0 (M 99 0 - 1))) ∧ (¬ (a1 < 0) → ((a1 < M 1 6 → ((¬ M 0 5 = 20 → (0 ≤ M 0 5 ∧ M 0 5 < 20) ∧ (pm_R (M 0 5 + 1)) ∧ Q (.inl (some (.inl 0))) (pm_set (pm_set (pm_set M 6 (M 0 5) a1) 0 5 (M 0 5 + 1)) 34 0 (M 0 5 + 1))) ∧ (¬ (¬ M 0 5 = 20) → (1 ≤ M 99 0) ∧ Q (.inl (some (.inl 2))) (pm_set M 99 0 (M 99 0 - 1))))) ∧ (¬ (a1 < M 1 6) → (1 ≤ M 99 0) ∧ Q (.inl (some (.inl 1))) (pm_set M 99 0 (M 99 0 - 1))))))) :
    pm_X L (90, 0, [some (.inr (.inl 0)), some (.inl a1), some (.inr (.inl 34)), none], [], M) Q := by
  refine x_aload_n i_90_0 rfl rfl ?_
  refine x_iconst i_90_1 (by decide) rfl ?_
  refine x_aload_n i_90_2 rfl rfl ?_
  refine x_iload_n i_90_3 rfl rfl ?_
  refine x_callv (as := [.inl a1]) (rest := [.inl 0, .inr (.inl 34)]) i_90_4 k_90_30 rfl rfl rfl g_0 (Nat.le_of_ble_eq_true rfl) m_4 rfl ?_
  refine x_aload_n i_4_0 rfl rfl ?_
  refine x_iload_n i_4_1 rfl rfl ?_
  refine x_callv (as := [.inl a1]) (rest := []) i_4_2 k_4_63 rfl rfl rfl g_0 (Nat.le_of_ble_eq_true rfl) m_17 rfl ?_
  refine x_iload_n i_17_0 rfl rfl ?_
  refine x_if (C := a1 < 0) i_17_1 rfl Iff.rfl rfl ⟨fun c1 => ?_, fun c1 => ?_⟩
  · replace h := h.1 c1
    obtain ⟨q2, h⟩ := h
    refine x_throw i_17_15 t_17_15 q2 ?_
    refine x_bkt rfl (by decide) ?_
    refine x_bkc (h0 := 12) (nx := 13) (i := 3) rfl rfl ?_
    refine x_iconst i_90_13 (by decide) rfl ?_
    exact x_ireti i_90_14 r_90 h
  · replace h := h.2 c1
    refine x_iload_n i_17_4 rfl rfl ?_
    refine x_aload_n i_17_5 rfl rfl ?_
    refine x_getr i_17_6 f_17_12 g_0 rfl rfl ?_
    refine x_geti (v := M 1 6) i_17_9 f_17_126 g_1 rfl (rfl) rfl ?_
    refine x_icmp (C := a1 < M 1 6) i_17_12 rfl Iff.rfl rfl ⟨fun c3 => ?_, fun c3 => ?_⟩
    · replace h := h.1 c3
      refine x_ret i_17_25 r_17 ?_
      refine x_bkv rfl ?_
      refine x_aload_n i_4_5 rfl rfl ?_
      refine x_geti (v := M 0 5) i_4_6 f_4_83 g_0 rfl (rfl) rfl ?_
      refine x_bipush i_4_9 (by decide) rfl ?_
      refine x_icmp (C := ¬ M 0 5 = 20) i_4_11 rfl Iff.rfl rfl ⟨fun c4 => ?_, fun c4 => ?_⟩
      · replace h := h.1 c4
        refine x_aload_n i_4_24 rfl rfl ?_
        refine x_getr i_4_25 f_4_41 g_0 rfl rfl ?_
        refine x_aload_n i_4_28 rfl rfl ?_
        refine x_geti (v := M 0 5) i_4_29 f_4_83 g_0 rfl (rfl) rfl ?_
        refine x_iload_n i_4_32 rfl rfl ?_
        obtain ⟨q5, h⟩ := h
        refine x_iastore i_4_33 g_6 rfl q5 ?_
        refine x_aload_n i_4_34 rfl rfl ?_
        refine x_dup i_4_35 rfl rfl ?_
        refine x_geti (v := M 0 5) i_4_36 f_4_83 g_0 rfl (pm_get_c (by decide) rfl) rfl ?_
        refine x_iconst i_4_39 (by decide) rfl ?_
        obtain ⟨q6, h⟩ := h
        refine x_iadd i_4_40 rfl q6 ?_
        refine x_puti i_4_41 f_4_83 g_0 rfl rfl ?_
        refine x_aload_n i_4_44 rfl rfl ?_
        refine x_geti (v := M 0 5 + 1) i_4_45 f_4_83 g_0 rfl (pm_get_e) rfl ?_
        refine x_ireti i_4_48 r_4 ?_
        refine x_bki rfl ?_
        refine x_i2l i_90_7 rfl ?_
        refine x_lastore i_90_8 g_34 rfl (by decide) ?_
        refine x_goto i_90_9 rfl ?_
        refine x_iconst i_90_18 (by decide) rfl ?_
        exact x_ireti i_90_19 r_90 h
      · replace h := h.2 c4
        obtain ⟨q7, h⟩ := h
        refine x_throw i_4_14 t_4_14 q7 ?_
        refine x_bkc (h0 := 15) (nx := 16) (i := 3) rfl rfl ?_
        refine x_iconst i_90_16 (by decide) rfl ?_
        exact x_ireti i_90_17 r_90 h
    · replace h := h.2 c3
      obtain ⟨q8, h⟩ := h
      refine x_throw i_17_15 t_17_15 q8 ?_
      refine x_bkt rfl (by decide) ?_
      refine x_bkc (h0 := 12) (nx := 13) (i := 3) rfl rfl ?_
      refine x_iconst i_90_13 (by decide) rfl ?_
      exact x_ireti i_90_14 r_90 h
/-! GateBenchLaw.wanted at 0 -/
theorem s_91_0 {L : Nat} {M : pm_M} {Q : pm_P} {a1 : Int}
    (h : ((a1 < 0 → (1 ≤ M 99 0) ∧ Q (.inl (some (.inl 1))) (pm_set M 99 0 (M 99 0 - 1))) ∧ (¬ (a1 < 0) → ((a1 < M 0 5 → (0 ≤ a1 ∧ a1 < 20) ∧ Q (.inl (some (.inl 0))) (pm_set M 34 0 (M 6 a1))) ∧ (¬ (a1 < M 0 5) → (1 ≤ M 99 0) ∧ Q (.inl (some (.inl 1))) (pm_set M 99 0 (M 99 0 - 1))))))) :
    pm_X L (91, 0, [some (.inr (.inl 0)), some (.inl a1), some (.inr (.inl 34)), none], [], M) Q := by
  refine x_aload_n i_91_0 rfl rfl ?_
  refine x_iconst i_91_1 (by decide) rfl ?_
  refine x_aload_n i_91_2 rfl rfl ?_
  refine x_iload_n i_91_3 rfl rfl ?_
  refine x_callv (as := [.inl a1]) (rest := [.inl 0, .inr (.inl 34)]) i_91_4 k_91_33 rfl rfl rfl g_0 (Nat.le_of_ble_eq_true rfl) m_8 rfl ?_
  refine x_iload_n i_8_0 rfl rfl ?_
  refine x_if (C := a1 < 0) i_8_1 rfl Iff.rfl rfl ⟨fun c1 => ?_, fun c1 => ?_⟩
  · replace h := h.1 c1
    obtain ⟨q2, h⟩ := h
    refine x_throw i_8_12 t_8_12 q2 ?_
    refine x_bkc (h0 := 12) (nx := 13) (i := 3) rfl rfl ?_
    refine x_iconst i_91_13 (by decide) rfl ?_
    exact x_ireti i_91_14 r_91 h
  · replace h := h.2 c1
    refine x_iload_n i_8_4 rfl rfl ?_
    refine x_aload_n i_8_5 rfl rfl ?_
    refine x_geti (v := M 0 5) i_8_6 f_8_83 g_0 rfl (rfl) rfl ?_
    refine x_icmp (C := a1 < M 0 5) i_8_9 rfl Iff.rfl rfl ⟨fun c3 => ?_, fun c3 => ?_⟩
    · replace h := h.1 c3
      refine x_aload_n i_8_22 rfl rfl ?_
      refine x_getr i_8_23 f_8_41 g_0 rfl rfl ?_
      refine x_iload_n i_8_26 rfl rfl ?_
      obtain ⟨q4, h⟩ := h
      refine x_iaload (v := M 6 a1) i_8_27 g_6 (rfl) rfl q4 ?_
      refine x_ireti i_8_28 r_8 ?_
      refine x_bki rfl ?_
      refine x_i2l i_91_7 rfl ?_
      refine x_lastore i_91_8 g_34 rfl (by decide) ?_
      refine x_goto i_91_9 rfl ?_
      refine x_iconst i_91_15 (by decide) rfl ?_
      exact x_ireti i_91_16 r_91 h
    · replace h := h.2 c3
      obtain ⟨q5, h⟩ := h
      refine x_throw i_8_12 t_8_12 q5 ?_
      refine x_bkc (h0 := 12) (nx := 13) (i := 3) rfl rfl ?_
      refine x_iconst i_91_13 (by decide) rfl ?_
      exact x_ireti i_91_14 r_91 h
/-! GateBenchLaw.same at 0 -/
theorem s_92_0 {L : Nat} {M : pm_M} {Q : pm_P} {a1 a2 : Int}
    (h : pm_X L (9, 0, [some (.inr (.inl 0)), some (.inl a1), some (.inl a2), none], [], M) (pm_back (pm_X L) 92 5 [some (.inr (.inl 0)), some (.inl a1), some (.inl a2), some (.inr (.inl 34)), none] [.inl 0, .inr (.inl 34)] Q)) :
    pm_X L (92, 0, [some (.inr (.inl 0)), some (.inl a1), some (.inl a2), some (.inr (.inl 34)), none], [], M) Q := by
  refine x_aload_n i_92_0 rfl rfl ?_
  refine x_iconst i_92_1 (by decide) rfl ?_
  refine x_aload_n i_92_2 rfl rfl ?_
  refine x_iload_n i_92_3 rfl rfl ?_
  refine x_iload_n i_92_4 rfl rfl ?_
  refine x_callv (as := [.inl a1, .inl a2]) (rest := [.inl 0, .inr (.inl 34)]) i_92_5 k_92_36 rfl rfl rfl g_0 (Nat.le_of_ble_eq_true rfl) m_9 rfl h
/-! GateBenchLaw.same at 8 -/
theorem s_92_8 {L : Nat} {M : pm_M} {Q : pm_P} {a1 a2 r t1 : Int}
    (h : ((r = 0 → (0 ≤ t1 ∧ t1 < 1) ∧ Q (.inl (some (.inl 0))) (pm_set M 34 t1 0)) ∧ (¬ (r = 0) → (0 ≤ t1 ∧ t1 < 1) ∧ Q (.inl (some (.inl 0))) (pm_set M 34 t1 1)))) :
    pm_X L (92, 8, [some (.inr (.inl 0)), some (.inl a1), some (.inl a2), some (.inr (.inl 34)), none], [.inl r, .inl t1, .inr (.inl 34)], M) Q := by
  refine x_if (C := r = 0) i_92_8 rfl Iff.rfl rfl ⟨fun c1 => ?_, fun c1 => ?_⟩
  · replace h := h.1 c1
    refine x_lconst (y := 0) i_92_15 rfl rfl ?_
    obtain ⟨q2, h⟩ := h
    refine x_lastore i_92_16 g_34 rfl q2 ?_
    refine x_goto i_92_17 rfl ?_
    refine x_iconst i_92_24 (by decide) rfl ?_
    exact x_ireti i_92_25 r_92 h
  · replace h := h.2 c1
    refine x_lconst (y := 1) i_92_11 rfl rfl ?_
    refine x_goto i_92_12 rfl ?_
    obtain ⟨q3, h⟩ := h
    refine x_lastore i_92_16 g_34 rfl q3 ?_
    refine x_goto i_92_17 rfl ?_
    refine x_iconst i_92_24 (by decide) rfl ?_
    exact x_ireti i_92_25 r_92 h
/-! GateBenchLaw.put at 0 -/
theorem s_93_0 {L : Nat} {M : pm_M} {Q : pm_P} {a1 a2 : Int}
    (h : ((a1 < 0 → (1 ≤ M 99 0) ∧ Q (.inl (some (.inl 1))) (pm_set M 99 0 (M 99 0 - 1))) ∧ (¬ (a1 < 0) → ((a1 < M 1 7 → (0 ≤ a1 ∧ a1 < 12) ∧ (0 ≤ M 12 a1 ∧ M 12 a1 < 2000) ∧ ((0 ≤ M 12 a1 ∧ M 12 a1 < 2000) ∧ pm_bit a2) ∧ (pm_bit (M 10 (M 12 a1))) ∧ ((M 10 (M 12 a1) = 0 → Q (.inl (some (.inl 0))) (pm_set (pm_set M 10 (M 12 a1) a2) 34 0 0)) ∧ (¬ (M 10 (M 12 a1) = 0) → Q (.inl (some (.inl 0))) (pm_set (pm_set M 10 (M 12 a1) a2) 34 0 1)))) ∧ (¬ (a1 < M 1 7) → (1 ≤ M 99 0) ∧ Q (.inl (some (.inl 1))) (pm_set M 99 0 (M 99 0 - 1))))))) :
    pm_X L (93, 0, [some (.inr (.inl 0)), some (.inl a1), some (.inl a2), some (.inr (.inl 34)), none], [], M) Q := by
  refine x_aload_n i_93_0 rfl rfl ?_
  refine x_iconst i_93_1 (by decide) rfl ?_
  refine x_aload_n i_93_2 rfl rfl ?_
  refine x_iload_n i_93_3 rfl rfl ?_
  refine x_iload_n i_93_4 rfl rfl ?_
  refine x_callv (as := [.inl a1, .inl a2]) (rest := [.inl 0, .inr (.inl 34)]) i_93_5 k_93_40 rfl rfl rfl g_0 (Nat.le_of_ble_eq_true rfl) m_10 rfl ?_
  refine x_iload_n i_10_0 rfl rfl ?_
  refine x_if (C := a1 < 0) i_10_1 rfl Iff.rfl rfl ⟨fun c1 => ?_, fun c1 => ?_⟩
  · replace h := h.1 c1
    obtain ⟨q2, h⟩ := h
    refine x_throw i_10_15 t_10_15 q2 ?_
    refine x_bkc (h0 := 20) (nx := 22) (i := 4) rfl rfl ?_
    refine x_iconst i_93_22 (by decide) rfl ?_
    exact x_ireti i_93_23 r_93 h
  · replace h := h.2 c1
    refine x_iload_n i_10_4 rfl rfl ?_
    refine x_aload_n i_10_5 rfl rfl ?_
    refine x_getr i_10_6 f_10_12 g_0 rfl rfl ?_
    refine x_geti (v := M 1 7) i_10_9 f_10_45 g_1 rfl (rfl) rfl ?_
    refine x_icmp (C := a1 < M 1 7) i_10_12 rfl Iff.rfl rfl ⟨fun c3 => ?_, fun c3 => ?_⟩
    · replace h := h.1 c3
      refine x_aload_n i_10_25 rfl rfl ?_
      refine x_getr i_10_26 f_10_12 g_0 rfl rfl ?_
      refine x_getr i_10_29 f_10_112 g_1 rfl rfl ?_
      refine x_iload_n i_10_32 rfl rfl ?_
      obtain ⟨q4, h⟩ := h
      refine x_iaload (v := M 12 a1) i_10_33 g_12 (rfl) rfl q4 ?_
      refine x_istore_n i_10_34 (Nat.le_of_ble_eq_true rfl) rfl rfl ?_
      refine x_aload_n i_10_35 rfl rfl ?_
      refine x_getr i_10_36 f_10_12 g_0 rfl rfl ?_
      refine x_getr i_10_39 f_10_115 g_1 rfl rfl ?_
      refine x_iload_n i_10_42 rfl rfl ?_
      obtain ⟨q5, h⟩ := h
      refine x_baload (v := M 10 (M 12 a1)) i_10_43 g_10 (rfl) rfl q5 ?_
      refine x_istore i_10_44 (Nat.le_of_ble_eq_true rfl) rfl rfl ?_
      refine x_aload_n i_10_46 rfl rfl ?_
      refine x_getr i_10_47 f_10_12 g_0 rfl rfl ?_
      refine x_getr i_10_50 f_10_115 g_1 rfl rfl ?_
      refine x_iload_n i_10_53 rfl rfl ?_
      refine x_iload_n i_10_54 rfl rfl ?_
      obtain ⟨q6, h⟩ := h
      refine x_bastore i_10_55 g_10 rfl q6 ?_
      refine x_iload i_10_56 rfl rfl ?_
      obtain ⟨q7, h⟩ := h
      refine x_iretz i_10_58 r_10 q7 ?_
      refine x_bki rfl ?_
      refine x_if (C := M 10 (M 12 a1) = 0) i_93_8 rfl Iff.rfl rfl ⟨fun c8 => ?_, fun c8 => ?_⟩
      · replace h := h.1 c8
        refine x_lconst (y := 0) i_93_15 rfl rfl ?_
        refine x_lastore i_93_16 g_34 rfl (by decide) ?_
        refine x_goto i_93_17 rfl ?_
        refine x_iconst i_93_24 (by decide) rfl ?_
        exact x_ireti i_93_25 r_93 h
      · replace h := h.2 c8
        refine x_lconst (y := 1) i_93_11 rfl rfl ?_
        refine x_goto i_93_12 rfl ?_
        refine x_lastore i_93_16 g_34 rfl (by decide) ?_
        refine x_goto i_93_17 rfl ?_
        refine x_iconst i_93_24 (by decide) rfl ?_
        exact x_ireti i_93_25 r_93 h
    · replace h := h.2 c3
      obtain ⟨q9, h⟩ := h
      refine x_throw i_10_15 t_10_15 q9 ?_
      refine x_bkc (h0 := 20) (nx := 22) (i := 4) rfl rfl ?_
      refine x_iconst i_93_22 (by decide) rfl ?_
      exact x_ireti i_93_23 r_93 h
/-! GateBenchLaw.value at 0 -/
theorem s_94_0 {L : Nat} {M : pm_M} {Q : pm_P} {a1 : Int}
    (h : pm_X L (11, 0, [some (.inr (.inl 0)), some (.inl a1)], [], M) (pm_back (pm_X L) 94 4 [some (.inr (.inl 0)), some (.inl a1), some (.inr (.inl 34)), none] [.inl 0, .inr (.inl 34)] Q)) :
    pm_X L (94, 0, [some (.inr (.inl 0)), some (.inl a1), some (.inr (.inl 34)), none], [], M) Q := by
  refine x_aload_n i_94_0 rfl rfl ?_
  refine x_iconst i_94_1 (by decide) rfl ?_
  refine x_aload_n i_94_2 rfl rfl ?_
  refine x_iload_n i_94_3 rfl rfl ?_
  refine x_callv (as := [.inl a1]) (rest := [.inl 0, .inr (.inl 34)]) i_94_4 k_94_44 rfl rfl rfl g_0 (Nat.le_of_ble_eq_true rfl) m_11 rfl h
/-! GateBenchLaw.value at 7 -/
theorem s_94_7 {L : Nat} {M : pm_M} {Q : pm_P} {a1 r t1 : Int}
    (h : ((r = 0 → (0 ≤ t1 ∧ t1 < 1) ∧ Q (.inl (some (.inl 0))) (pm_set M 34 t1 0)) ∧ (¬ (r = 0) → (0 ≤ t1 ∧ t1 < 1) ∧ Q (.inl (some (.inl 0))) (pm_set M 34 t1 1)))) :
    pm_X L (94, 7, [some (.inr (.inl 0)), some (.inl a1), some (.inr (.inl 34)), none], [.inl r, .inl t1, .inr (.inl 34)], M) Q := by
  refine x_if (C := r = 0) i_94_7 rfl Iff.rfl rfl ⟨fun c1 => ?_, fun c1 => ?_⟩
  · replace h := h.1 c1
    refine x_lconst (y := 0) i_94_14 rfl rfl ?_
    obtain ⟨q2, h⟩ := h
    refine x_lastore i_94_15 g_34 rfl q2 ?_
    refine x_goto i_94_16 rfl ?_
    refine x_iconst i_94_22 (by decide) rfl ?_
    exact x_ireti i_94_23 r_94 h
  · replace h := h.2 c1
    refine x_lconst (y := 1) i_94_10 rfl rfl ?_
    refine x_goto i_94_11 rfl ?_
    obtain ⟨q3, h⟩ := h
    refine x_lastore i_94_15 g_34 rfl q3 ?_
    refine x_goto i_94_16 rfl ?_
    refine x_iconst i_94_22 (by decide) rfl ?_
    exact x_ireti i_94_23 r_94 h
/-! GateBenchLaw.law at 20 -/
theorem s_95_20 {L : Nat} {M : pm_M} {Q : pm_P}
    (h : pm_X L (95, 23, [some (.inr (.inl 35)), some (.inr (.inl 0)), some (.inr (.inl 24)), some (.inr (.inl 34)), some (.inl 0), none, none], [], M) Q) :
    pm_X L (95, 20, [some (.inr (.inl 35)), some (.inr (.inl 0)), some (.inr (.inl 24)), some (.inr (.inl 34)), none, none, none], [], M) Q := by
  refine x_iconst i_95_20 (by decide) rfl ?_
  refine x_istore i_95_21 (Nat.le_of_ble_eq_true rfl) rfl rfl ?_
  exact h
/-! GateBenchLaw.law at 23 -/
theorem s_95_23 {L : Nat} {M : pm_M} {Q : pm_P} {a4 : Int} {o5 o6 : Option pm_V}
    (h : (L ≤ 100000) ∧ (pm_R (((L : Int)) - 4)) ∧ ((((L : Int)) - 4 < a4 → Q (.inl (some (.inl 1))) M) ∧ (¬ (((L : Int)) - 4 < a4) → (0 ≤ a4 ∧ a4 < L) ∧ (((M 35 a4) % 16 = 0 → pm_X L (86, 0, [some (.inr (.inl 0)), some (.inr (.inl 34)), none], [], M) (pm_back (pm_X L) 95 110 [some (.inr (.inl 35)), some (.inr (.inl 0)), some (.inr (.inl 24)), some (.inr (.inl 34)), some (.inl a4), o5, o6] [] Q)) ∧ ((M 35 a4) % 16 = 1 → (pm_R (a4 + 1)) ∧ (0 ≤ a4 + 1 ∧ a4 + 1 < L) ∧ pm_X L (87, 0, [some (.inr (.inl 0)), some (.inl (M 35 (a4 + 1))), some (.inr (.inl 34)), none], [], M) (pm_back (pm_X L) 95 160 [some (.inr (.inl 35)), some (.inr (.inl 0)), some (.inr (.inl 24)), some (.inr (.inl 34)), some (.inl a4), o5, o6] [] Q)) ∧ ((M 35 a4) % 16 = 2 → (pm_R (a4 + 1)) ∧ (0 ≤ a4 + 1 ∧ a4 + 1 < L) ∧ (pm_R (a4 + 2)) ∧ (0 ≤ a4 + 2 ∧ a4 + 2 < L) ∧ (pm_R (a4 + 3)) ∧ (0 ≤ a4 + 3 ∧ a4 + 3 < L) ∧ pm_X L (88, 0, [some (.inr (.inl 0)), some (.inl (M 35 (a4 + 1))), some (.inl (M 35 (a4 + 2))), some (.inl (M 35 (a4 + 3))), some (.inr (.inl 34)), none], [], M) (pm_back (pm_X L) 95 228 [some (.inr (.inl 35)), some (.inr (.inl 0)), some (.inr (.inl 24)), some (.inr (.inl 34)), some (.inl a4), o5, o6] [] Q)) ∧ ((M 35 a4) % 16 = 3 → (pm_R (a4 + 1)) ∧ (0 ≤ a4 + 1 ∧ a4 + 1 < L) ∧ (pm_R (a4 + 2)) ∧ (0 ≤ a4 + 2 ∧ a4 + 2 < L) ∧ (pm_R (a4 + 3)) ∧ (0 ≤ a4 + 3 ∧ a4 + 3 < L) ∧ pm_X L (89, 0, [some (.inr (.inl 0)), some (.inl (M 35 (a4 + 1))), some (.inl (M 35 (a4 + 2))), some (.inl (M 35 (a4 + 3))), some (.inr (.inl 34)), none], [], M) (pm_back (pm_X L) 95 308 [some (.inr (.inl 35)), some (.inr (.inl 0)), some (.inr (.inl 24)), some (.inr (.inl 34)), some (.inl a4), o5, o6] [] Q)) ∧ ((M 35 a4) % 16 = 4 → (pm_R (a4 + 1)) ∧ (0 ≤ a4 + 1 ∧ a4 + 1 < L) ∧ pm_X L (90, 0, [some (.inr (.inl 0)), some (.inl (M 35 (a4 + 1))), some (.inr (.inl 34)), none], [], M) (pm_back (pm_X L) 95 376 [some (.inr (.inl 35)), some (.inr (.inl 0)), some (.inr (.inl 24)), some (.inr (.inl 34)), some (.inl a4), o5, o6] [] Q)) ∧ ((M 35 a4) % 16 = 5 → pm_X L (5, 0, [some (.inr (.inl 0)), none], [], M) (pm_back (pm_X L) 95 425 [some (.inr (.inl 35)), some (.inr (.inl 0)), some (.inr (.inl 24)), some (.inr (.inl 34)), some (.inl a4), o5, o6] [] Q)) ∧ ((M 35 a4) % 16 = 6 → pm_X L (6, 0, [some (.inr (.inl 0)), none], [], M) (pm_back (pm_X L) 95 438 [some (.inr (.inl 35)), some (.inr (.inl 0)), some (.inr (.inl 24)), some (.inr (.inl 34)), some (.inl a4), o5, o6] [] Q)) ∧ ((M 35 a4) % 16 = 7 → pm_X L (7, 0, [some (.inr (.inl 0)), none, none], [], M) (pm_back (pm_X L) 95 451 [some (.inr (.inl 35)), some (.inr (.inl 0)), some (.inr (.inl 24)), some (.inr (.inl 34)), some (.inl a4), o5, o6] [] Q)) ∧ ((M 35 a4) % 16 = 8 → (pm_R (a4 + 1)) ∧ (0 ≤ a4 + 1 ∧ a4 + 1 < L) ∧ pm_X L (91, 0, [some (.inr (.inl 0)), some (.inl (M 35 (a4 + 1))), some (.inr (.inl 34)), none], [], M) (pm_back (pm_X L) 95 471 [some (.inr (.inl 35)), some (.inr (.inl 0)), some (.inr (.inl 24)), some (.inr (.inl 34)), some (.inl a4), o5, o6] [] Q)) ∧ ((M 35 a4) % 16 = 9 → (pm_R (a4 + 1)) ∧ (0 ≤ a4 + 1 ∧ a4 + 1 < L) ∧ (pm_R (a4 + 2)) ∧ (0 ≤ a4 + 2 ∧ a4 + 2 < L) ∧ pm_X L (92, 0, [some (.inr (.inl 0)), some (.inl (M 35 (a4 + 1))), some (.inl (M 35 (a4 + 2))), some (.inr (.inl 34)), none], [], M) (pm_back (pm_X L) 95 533 [some (.inr (.inl 35)), some (.inr (.inl 0)), some (.inr (.inl 24)), some (.inr (.inl 34)), some (.inl a4), o5, o6] [] Q)) ∧ ((M 35 a4) % 16 = 10 → (pm_R (a4 + 1)) ∧ (0 ≤ a4 + 1 ∧ a4 + 1 < L) ∧ (pm_R (a4 + 2)) ∧ (0 ≤ a4 + 2 ∧ a4 + 2 < L) ∧ ((M 35 (a4 + 2) = 0 → pm_X L (93, 0, [some (.inr (.inl 0)), some (.inl (M 35 (a4 + 1))), some (.inl 0), some (.inr (.inl 34)), none], [], M) (pm_back (pm_X L) 95 616 [some (.inr (.inl 35)), some (.inr (.inl 0)), some (.inr (.inl 24)), some (.inr (.inl 34)), some (.inl a4), o5, o6] [] Q)) ∧ (¬ (M 35 (a4 + 2) = 0) → pm_X L (93, 0, [some (.inr (.inl 0)), some (.inl (M 35 (a4 + 1))), some (.inl 1), some (.inr (.inl 34)), none], [], M) (pm_back (pm_X L) 95 616 [some (.inr (.inl 35)), some (.inr (.inl 0)), some (.inr (.inl 24)), some (.inr (.inl 34)), some (.inl a4), o5, o6] [] Q)))) ∧ ((M 35 a4) % 16 = 11 → (pm_R (a4 + 1)) ∧ (0 ≤ a4 + 1 ∧ a4 + 1 < L) ∧ pm_X L (94, 0, [some (.inr (.inl 0)), some (.inl (M 35 (a4 + 1))), some (.inr (.inl 34)), none], [], M) (pm_back (pm_X L) 95 693 [some (.inr (.inl 35)), some (.inr (.inl 0)), some (.inr (.inl 24)), some (.inr (.inl 34)), some (.inl a4), o5, o6] [] Q)) ∧ ((M 35 a4) % 16 = 12 → pm_X L (12, 0, [some (.inr (.inl 0))], [], M) (pm_back (pm_X L) 95 749 [some (.inr (.inl 35)), some (.inr (.inl 0)), some (.inr (.inl 24)), some (.inr (.inl 34)), some (.inl a4), o5, o6] [] Q)) ∧ ((M 35 a4) % 16 = 13 → (pm_R (a4 + 1)) ∧ (0 ≤ a4 + 1 ∧ a4 + 1 < L) ∧ pm_X L (13, 0, [some (.inr (.inl 0)), some (.inl (M 35 (a4 + 1)))], [], M) (pm_back (pm_X L) 95 768 [some (.inr (.inl 35)), some (.inr (.inl 0)), some (.inr (.inl 24)), some (.inr (.inl 34)), some (.inl a4), o5, o6] [] Q)) ∧ (((M 35 a4) % 16 < 0 ∨ 13 < (M 35 a4) % 16) → (pm_R (a4 + 4)) ∧ pm_X L (95, 23, [some (.inr (.inl 35)), some (.inr (.inl 0)), some (.inr (.inl 24)), some (.inr (.inl 34)), some (.inl (a4 + 4)), o5, o6], [], M) Q))))) :
    pm_X L (95, 23, [some (.inr (.inl 35)), some (.inr (.inl 0)), some (.inr (.inl 24)), some (.inr (.inl 34)), some (.inl a4), o5, o6], [], M) Q := by
  refine x_iload i_95_23 rfl rfl ?_
  refine x_aload_n i_95_25 rfl rfl ?_
  obtain ⟨q1, h⟩ := h
  refine x_alen i_95_26 g_35 rfl q1 ?_
  refine x_iconst i_95_27 (by decide) rfl ?_
  obtain ⟨q2, h⟩ := h
  refine x_isub i_95_28 rfl q2 ?_
  refine x_icmp (C := ((L : Int)) - 4 < a4) i_95_29 rfl Iff.rfl rfl ⟨fun c3 => ?_, fun c3 => ?_⟩
  · replace h := h.1 c3
    refine x_iconst i_95_792 (by decide) rfl ?_
    exact x_iretz i_95_793 r_95 (by unfold pm_bit; decide) h
  · replace h := h.2 c3
    refine x_aload_n i_95_32 rfl rfl ?_
    refine x_iload i_95_33 rfl rfl ?_
    obtain ⟨q4, h⟩ := h
    refine x_iaload (v := M 35 a4) i_95_35 g_35 (rfl) rfl q4 ?_
    refine x_bipush i_95_36 (by decide) rfl ?_
    refine x_iand15 i_95_38 rfl ?_
    rcases (by omega : (M 35 a4) % 16 = 0 ∨ (M 35 a4) % 16 = 1 ∨ (M 35 a4) % 16 = 2 ∨ (M 35 a4) % 16 = 3 ∨ (M 35 a4) % 16 = 4 ∨ (M 35 a4) % 16 = 5 ∨ (M 35 a4) % 16 = 6 ∨ (M 35 a4) % 16 = 7 ∨ (M 35 a4) % 16 = 8 ∨ (M 35 a4) % 16 = 9 ∨ (M 35 a4) % 16 = 10 ∨ (M 35 a4) % 16 = 11 ∨ (M 35 a4) % 16 = 12 ∨ (M 35 a4) % 16 = 13 ∨ ((M 35 a4) % 16 < 0 ∨ 13 < (M 35 a4) % 16)) with c5 | c5 | c5 | c5 | c5 | c5 | c5 | c5 | c5 | c5 | c5 | c5 | c5 | c5 | c5
    · replace h := h.1 c5
      refine x_swV i_95_39 c5 (by decide) rfl rfl ?_
      refine x_aload_n i_95_108 rfl rfl ?_
      refine x_aload_n i_95_109 rfl rfl ?_
      refine x_calls (as := [.inr (.inl 0), .inr (.inl 34)]) (rest := []) i_95_110 k_95_52 rfl rfl rfl (Nat.le_of_ble_eq_true rfl) m_86 rfl h
    · replace h := h.2.1 c5
      refine x_swV i_95_39 c5 (by decide) rfl rfl ?_
      refine x_aload_n i_95_152 rfl rfl ?_
      refine x_aload_n i_95_153 rfl rfl ?_
      refine x_iload i_95_154 rfl rfl ?_
      refine x_iconst i_95_156 (by decide) rfl ?_
      obtain ⟨q6, h⟩ := h
      refine x_iadd i_95_157 rfl q6 ?_
      obtain ⟨q7, h⟩ := h
      refine x_iaload (v := M 35 (a4 + 1)) i_95_158 g_35 (rfl) rfl q7 ?_
      refine x_aload_n i_95_159 rfl rfl ?_
      refine x_calls (as := [.inr (.inl 0), .inl (M 35 (a4 + 1)), .inr (.inl 34)]) (rest := []) i_95_160 k_95_61 rfl rfl rfl (Nat.le_of_ble_eq_true rfl) m_87 rfl h
    · replace h := h.2.2.1 c5
      refine x_swV i_95_39 c5 (by decide) rfl rfl ?_
      refine x_aload_n i_95_208 rfl rfl ?_
      refine x_aload_n i_95_209 rfl rfl ?_
      refine x_iload i_95_210 rfl rfl ?_
      refine x_iconst i_95_212 (by decide) rfl ?_
      obtain ⟨q8, h⟩ := h
      refine x_iadd i_95_213 rfl q8 ?_
      obtain ⟨q9, h⟩ := h
      refine x_iaload (v := M 35 (a4 + 1)) i_95_214 g_35 (rfl) rfl q9 ?_
      refine x_aload_n i_95_215 rfl rfl ?_
      refine x_iload i_95_216 rfl rfl ?_
      refine x_iconst i_95_218 (by decide) rfl ?_
      obtain ⟨q10, h⟩ := h
      refine x_iadd i_95_219 rfl q10 ?_
      obtain ⟨q11, h⟩ := h
      refine x_iaload (v := M 35 (a4 + 2)) i_95_220 g_35 (rfl) rfl q11 ?_
      refine x_aload_n i_95_221 rfl rfl ?_
      refine x_iload i_95_222 rfl rfl ?_
      refine x_iconst i_95_224 (by decide) rfl ?_
      obtain ⟨q12, h⟩ := h
      refine x_iadd i_95_225 rfl q12 ?_
      obtain ⟨q13, h⟩ := h
      refine x_iaload (v := M 35 (a4 + 3)) i_95_226 g_35 (rfl) rfl q13 ?_
      refine x_aload_n i_95_227 rfl rfl ?_
      refine x_calls (as := [.inr (.inl 0), .inl (M 35 (a4 + 1)), .inl (M 35 (a4 + 2)), .inl (M 35 (a4 + 3)), .inr (.inl 34)]) (rest := []) i_95_228 k_95_65 rfl rfl rfl (Nat.le_of_ble_eq_true rfl) m_88 rfl h
    · replace h := h.2.2.2.1 c5
      refine x_swV i_95_39 c5 (by decide) rfl rfl ?_
      refine x_aload_n i_95_288 rfl rfl ?_
      refine x_aload_n i_95_289 rfl rfl ?_
      refine x_iload i_95_290 rfl rfl ?_
      refine x_iconst i_95_292 (by decide) rfl ?_
      obtain ⟨q14, h⟩ := h
      refine x_iadd i_95_293 rfl q14 ?_
      obtain ⟨q15, h⟩ := h
      refine x_iaload (v := M 35 (a4 + 1)) i_95_294 g_35 (rfl) rfl q15 ?_
      refine x_aload_n i_95_295 rfl rfl ?_
      refine x_iload i_95_296 rfl rfl ?_
      refine x_iconst i_95_298 (by decide) rfl ?_
      obtain ⟨q16, h⟩ := h
      refine x_iadd i_95_299 rfl q16 ?_
      obtain ⟨q17, h⟩ := h
      refine x_iaload (v := M 35 (a4 + 2)) i_95_300 g_35 (rfl) rfl q17 ?_
      refine x_aload_n i_95_301 rfl rfl ?_
      refine x_iload i_95_302 rfl rfl ?_
      refine x_iconst i_95_304 (by decide) rfl ?_
      obtain ⟨q18, h⟩ := h
      refine x_iadd i_95_305 rfl q18 ?_
      obtain ⟨q19, h⟩ := h
      refine x_iaload (v := M 35 (a4 + 3)) i_95_306 g_35 (rfl) rfl q19 ?_
      refine x_aload_n i_95_307 rfl rfl ?_
      refine x_calls (as := [.inr (.inl 0), .inl (M 35 (a4 + 1)), .inl (M 35 (a4 + 2)), .inl (M 35 (a4 + 3)), .inr (.inl 34)]) (rest := []) i_95_308 k_95_69 rfl rfl rfl (Nat.le_of_ble_eq_true rfl) m_89 rfl h
    · replace h := h.2.2.2.2.1 c5
      refine x_swV i_95_39 c5 (by decide) rfl rfl ?_
      refine x_aload_n i_95_368 rfl rfl ?_
      refine x_aload_n i_95_369 rfl rfl ?_
      refine x_iload i_95_370 rfl rfl ?_
      refine x_iconst i_95_372 (by decide) rfl ?_
      obtain ⟨q20, h⟩ := h
      refine x_iadd i_95_373 rfl q20 ?_
      obtain ⟨q21, h⟩ := h
      refine x_iaload (v := M 35 (a4 + 1)) i_95_374 g_35 (rfl) rfl q21 ?_
      refine x_aload_n i_95_375 rfl rfl ?_
      refine x_calls (as := [.inr (.inl 0), .inl (M 35 (a4 + 1)), .inr (.inl 34)]) (rest := []) i_95_376 k_95_72 rfl rfl rfl (Nat.le_of_ble_eq_true rfl) m_90 rfl h
    · replace h := h.2.2.2.2.2.1 c5
      refine x_swV i_95_39 c5 (by decide) rfl rfl ?_
      refine x_aload_n i_95_424 rfl rfl ?_
      refine x_callv (as := []) (rest := []) i_95_425 k_95_75 rfl rfl rfl g_0 (Nat.le_of_ble_eq_true rfl) m_5 rfl h
    · replace h := h.2.2.2.2.2.2.1 c5
      refine x_swV i_95_39 c5 (by decide) rfl rfl ?_
      refine x_aload_n i_95_437 rfl rfl ?_
      refine x_callv (as := []) (rest := []) i_95_438 k_95_79 rfl rfl rfl g_0 (Nat.le_of_ble_eq_true rfl) m_6 rfl h
    · replace h := h.2.2.2.2.2.2.2.1 c5
      refine x_swV i_95_39 c5 (by decide) rfl rfl ?_
      refine x_aload_n i_95_450 rfl rfl ?_
      refine x_callv (as := []) (rest := []) i_95_451 k_95_84 rfl rfl rfl g_0 (Nat.le_of_ble_eq_true rfl) m_7 rfl h
    · replace h := h.2.2.2.2.2.2.2.2.1 c5
      refine x_swV i_95_39 c5 (by decide) rfl rfl ?_
      refine x_aload_n i_95_463 rfl rfl ?_
      refine x_aload_n i_95_464 rfl rfl ?_
      refine x_iload i_95_465 rfl rfl ?_
      refine x_iconst i_95_467 (by decide) rfl ?_
      obtain ⟨q22, h⟩ := h
      refine x_iadd i_95_468 rfl q22 ?_
      obtain ⟨q23, h⟩ := h
      refine x_iaload (v := M 35 (a4 + 1)) i_95_469 g_35 (rfl) rfl q23 ?_
      refine x_aload_n i_95_470 rfl rfl ?_
      refine x_calls (as := [.inr (.inl 0), .inl (M 35 (a4 + 1)), .inr (.inl 34)]) (rest := []) i_95_471 k_95_88 rfl rfl rfl (Nat.le_of_ble_eq_true rfl) m_91 rfl h
    · replace h := h.2.2.2.2.2.2.2.2.2.1 c5
      refine x_swV i_95_39 c5 (by decide) rfl rfl ?_
      refine x_aload_n i_95_519 rfl rfl ?_
      refine x_aload_n i_95_520 rfl rfl ?_
      refine x_iload i_95_521 rfl rfl ?_
      refine x_iconst i_95_523 (by decide) rfl ?_
      obtain ⟨q24, h⟩ := h
      refine x_iadd i_95_524 rfl q24 ?_
      obtain ⟨q25, h⟩ := h
      refine x_iaload (v := M 35 (a4 + 1)) i_95_525 g_35 (rfl) rfl q25 ?_
      refine x_aload_n i_95_526 rfl rfl ?_
      refine x_iload i_95_527 rfl rfl ?_
      refine x_iconst i_95_529 (by decide) rfl ?_
      obtain ⟨q26, h⟩ := h
      refine x_iadd i_95_530 rfl q26 ?_
      obtain ⟨q27, h⟩ := h
      refine x_iaload (v := M 35 (a4 + 2)) i_95_531 g_35 (rfl) rfl q27 ?_
      refine x_aload_n i_95_532 rfl rfl ?_
      refine x_calls (as := [.inr (.inl 0), .inl (M 35 (a4 + 1)), .inl (M 35 (a4 + 2)), .inr (.inl 34)]) (rest := []) i_95_533 k_95_91 rfl rfl rfl (Nat.le_of_ble_eq_true rfl) m_92 rfl h
    · replace h := h.2.2.2.2.2.2.2.2.2.2.1 c5
      refine x_swV i_95_39 c5 (by decide) rfl rfl ?_
      refine x_aload_n i_95_594 rfl rfl ?_
      refine x_aload_n i_95_595 rfl rfl ?_
      refine x_iload i_95_596 rfl rfl ?_
      refine x_iconst i_95_598 (by decide) rfl ?_
      obtain ⟨q28, h⟩ := h
      refine x_iadd i_95_599 rfl q28 ?_
      obtain ⟨q29, h⟩ := h
      refine x_iaload (v := M 35 (a4 + 1)) i_95_600 g_35 (rfl) rfl q29 ?_
      refine x_aload_n i_95_601 rfl rfl ?_
      refine x_iload i_95_602 rfl rfl ?_
      refine x_iconst i_95_604 (by decide) rfl ?_
      obtain ⟨q30, h⟩ := h
      refine x_iadd i_95_605 rfl q30 ?_
      obtain ⟨q31, h⟩ := h
      refine x_iaload (v := M 35 (a4 + 2)) i_95_606 g_35 (rfl) rfl q31 ?_
      refine x_if (C := M 35 (a4 + 2) = 0) i_95_607 rfl Iff.rfl rfl ⟨fun c32 => ?_, fun c32 => ?_⟩
      · replace h := h.1 c32
        refine x_iconst i_95_614 (by decide) rfl ?_
        refine x_aload_n i_95_615 rfl rfl ?_
        refine x_calls (as := [.inr (.inl 0), .inl (M 35 (a4 + 1)), .inl 0, .inr (.inl 34)]) (rest := []) i_95_616 k_95_95 rfl rfl rfl (Nat.le_of_ble_eq_true rfl) m_93 rfl h
      · replace h := h.2 c32
        refine x_iconst i_95_610 (by decide) rfl ?_
        refine x_goto i_95_611 rfl ?_
        refine x_aload_n i_95_615 rfl rfl ?_
        refine x_calls (as := [.inr (.inl 0), .inl (M 35 (a4 + 1)), .inl 1, .inr (.inl 34)]) (rest := []) i_95_616 k_95_95 rfl rfl rfl (Nat.le_of_ble_eq_true rfl) m_93 rfl h
    · replace h := h.2.2.2.2.2.2.2.2.2.2.2.1 c5
      refine x_swV i_95_39 c5 (by decide) rfl rfl ?_
      refine x_aload_n i_95_685 rfl rfl ?_
      refine x_aload_n i_95_686 rfl rfl ?_
      refine x_iload i_95_687 rfl rfl ?_
      refine x_iconst i_95_689 (by decide) rfl ?_
      obtain ⟨q33, h⟩ := h
      refine x_iadd i_95_690 rfl q33 ?_
      obtain ⟨q34, h⟩ := h
      refine x_iaload (v := M 35 (a4 + 1)) i_95_691 g_35 (rfl) rfl q34 ?_
      refine x_aload_n i_95_692 rfl rfl ?_
      refine x_calls (as := [.inr (.inl 0), .inl (M 35 (a4 + 1)), .inr (.inl 34)]) (rest := []) i_95_693 k_95_99 rfl rfl rfl (Nat.le_of_ble_eq_true rfl) m_94 rfl h
    · replace h := h.2.2.2.2.2.2.2.2.2.2.2.2.1 c5
      refine x_swV i_95_39 c5 (by decide) rfl rfl ?_
      refine x_aload_n i_95_748 rfl rfl ?_
      refine x_callv (as := []) (rest := []) i_95_749 k_95_102 rfl rfl rfl g_0 (Nat.le_of_ble_eq_true rfl) m_12 rfl h
    · replace h := h.2.2.2.2.2.2.2.2.2.2.2.2.2.1 c5
      refine x_swV i_95_39 c5 (by decide) rfl rfl ?_
      refine x_aload_n i_95_761 rfl rfl ?_
      refine x_aload_n i_95_762 rfl rfl ?_
      refine x_iload i_95_763 rfl rfl ?_
      refine x_iconst i_95_765 (by decide) rfl ?_
      obtain ⟨q35, h⟩ := h
      refine x_iadd i_95_766 rfl q35 ?_
      obtain ⟨q36, h⟩ := h
      refine x_iaload (v := M 35 (a4 + 1)) i_95_767 g_35 (rfl) rfl q36 ?_
      refine x_callv (as := [.inl (M 35 (a4 + 1))]) (rest := []) i_95_768 k_95_106 rfl rfl rfl g_0 (Nat.le_of_ble_eq_true rfl) m_13 rfl h
    · replace h := h.2.2.2.2.2.2.2.2.2.2.2.2.2.2 c5
      refine x_swO i_95_39 rfl c5 ?_
      obtain ⟨q37, h⟩ := h
      refine x_iinc i_95_786 rfl (by decide) rfl rfl q37 ?_
      refine x_goto i_95_789 rfl ?_
      exact h
/-! GateBenchLaw.law at 113 -/
theorem s_95_113 {L : Nat} {M : pm_M} {Q : pm_P} {a4 r : Int} {o5 o6 : Option pm_V}
    (h : pm_X L (67, 0, [some (.inr (.inl 24))], [], M) (pm_back (pm_X L) 95 116 [some (.inr (.inl 35)), some (.inr (.inl 0)), some (.inr (.inl 24)), some (.inr (.inl 34)), some (.inl a4), some (.inl r), o6] [] Q)) :
    pm_X L (95, 113, [some (.inr (.inl 35)), some (.inr (.inl 0)), some (.inr (.inl 24)), some (.inr (.inl 34)), some (.inl a4), o5, o6], [.inl r], M) Q := by
  refine x_istore i_95_113 (Nat.le_of_ble_eq_true rfl) rfl rfl ?_
  refine x_aload_n i_95_115 rfl rfl ?_
  refine x_callv (as := []) (rest := []) i_95_116 k_95_57 rfl rfl rfl g_24 (Nat.le_of_ble_eq_true rfl) m_67 rfl h
/-! GateBenchLaw.law at 119 -/
theorem s_95_119 {L : Nat} {M : pm_M} {Q : pm_P} {a4 a5 r : Int} {o6 : Option pm_V}
    (h : ((M 24 0 = a5 → ((¬ a5 = 0 → (pm_R (a4 + 4)) ∧ pm_X L (95, 23, [some (.inr (.inl 35)), some (.inr (.inl 0)), some (.inr (.inl 24)), some (.inr (.inl 34)), some (.inl (a4 + 4)), some (.inl a5), some (.inl r)], [], M) Q) ∧ (¬ (¬ a5 = 0) → (((if M 34 0 < r then -1 else if M 34 0 = r then 0 else 1) = 0 → (pm_R (a4 + 4)) ∧ pm_X L (95, 23, [some (.inr (.inl 35)), some (.inr (.inl 0)), some (.inr (.inl 24)), some (.inr (.inl 34)), some (.inl (a4 + 4)), some (.inl a5), some (.inl r)], [], M) Q) ∧ (¬ ((if M 34 0 < r then -1 else if M 34 0 = r then 0 else 1) = 0) → Q (.inl (some (.inl 0))) M))))) ∧ (¬ (M 24 0 = a5) → Q (.inl (some (.inl 0))) M))) :
    pm_X L (95, 119, [some (.inr (.inl 35)), some (.inr (.inl 0)), some (.inr (.inl 24)), some (.inr (.inl 34)), some (.inl a4), some (.inl a5), o6], [.inl r], M) Q := by
  refine x_istore i_95_119 (Nat.le_of_ble_eq_true rfl) rfl rfl ?_
  refine x_aload_n i_95_121 rfl rfl ?_
  refine x_callv (as := []) (rest := []) i_95_122 k_95_58 rfl rfl rfl g_24 (Nat.le_of_ble_eq_true rfl) m_63 rfl ?_
  refine x_aload_n i_63_0 rfl rfl ?_
  refine x_geti (v := M 24 0) i_63_1 f_63_7 g_24 rfl (rfl) rfl ?_
  refine x_ireti i_63_4 r_63 ?_
  refine x_bki rfl ?_
  refine x_iload i_95_125 rfl rfl ?_
  refine x_icmp (C := M 24 0 = a5) i_95_127 rfl Iff.rfl rfl ⟨fun c1 => ?_, fun c1 => ?_⟩
  · replace h := h.1 c1
    refine x_iload i_95_132 rfl rfl ?_
    refine x_if (C := ¬ a5 = 0) i_95_134 rfl Iff.rfl rfl ⟨fun c2 => ?_, fun c2 => ?_⟩
    · replace h := h.1 c2
      refine x_goto i_95_149 rfl ?_
      obtain ⟨q3, h⟩ := h
      refine x_iinc i_95_786 rfl (by decide) rfl rfl q3 ?_
      refine x_goto i_95_789 rfl ?_
      exact h
    · replace h := h.2 c2
      refine x_aload_n i_95_137 rfl rfl ?_
      refine x_iconst i_95_138 (by decide) rfl ?_
      refine x_laload (v := M 34 0) i_95_139 g_34 (rfl) rfl (by decide) ?_
      refine x_iload i_95_140 rfl rfl ?_
      refine x_i2l i_95_142 rfl ?_
      refine x_lcmp i_95_143 rfl ?_
      refine x_if (C := (if M 34 0 < r then -1 else if M 34 0 = r then 0 else 1) = 0) i_95_144 rfl Iff.rfl rfl ⟨fun c4 => ?_, fun c4 => ?_⟩
      · replace h := h.1 c4
        refine x_goto i_95_149 rfl ?_
        obtain ⟨q5, h⟩ := h
        refine x_iinc i_95_786 rfl (by decide) rfl rfl q5 ?_
        refine x_goto i_95_789 rfl ?_
        exact h
      · replace h := h.2 c4
        refine x_iconst i_95_147 (by decide) rfl ?_
        exact x_iretz i_95_148 r_95 (by unfold pm_bit; decide) h
  · replace h := h.2 c1
    refine x_iconst i_95_130 (by decide) rfl ?_
    exact x_iretz i_95_131 r_95 (by unfold pm_bit; decide) h
/-! GateBenchLaw.law at 163 -/
theorem s_95_163 {L : Nat} {M : pm_M} {Q : pm_P} {a4 r : Int} {o5 o6 : Option pm_V}
    (h : (pm_R (a4 + 1)) ∧ (0 ≤ a4 + 1 ∧ a4 + 1 < L) ∧ pm_X L (68, 0, [some (.inr (.inl 24)), some (.inl (M 35 (a4 + 1)))], [], M) (pm_back (pm_X L) 95 172 [some (.inr (.inl 35)), some (.inr (.inl 0)), some (.inr (.inl 24)), some (.inr (.inl 34)), some (.inl a4), some (.inl r), o6] [] Q)) :
    pm_X L (95, 163, [some (.inr (.inl 35)), some (.inr (.inl 0)), some (.inr (.inl 24)), some (.inr (.inl 34)), some (.inl a4), o5, o6], [.inl r], M) Q := by
  refine x_istore i_95_163 (Nat.le_of_ble_eq_true rfl) rfl rfl ?_
  refine x_aload_n i_95_165 rfl rfl ?_
  refine x_aload_n i_95_166 rfl rfl ?_
  refine x_iload i_95_167 rfl rfl ?_
  refine x_iconst i_95_169 (by decide) rfl ?_
  obtain ⟨q1, h⟩ := h
  refine x_iadd i_95_170 rfl q1 ?_
  obtain ⟨q2, h⟩ := h
  refine x_iaload (v := M 35 (a4 + 1)) i_95_171 g_35 (rfl) rfl q2 ?_
  refine x_callv (as := [.inl (M 35 (a4 + 1))]) (rest := []) i_95_172 k_95_64 rfl rfl rfl g_24 (Nat.le_of_ble_eq_true rfl) m_68 rfl h
/-! GateBenchLaw.law at 175 -/
theorem s_95_175 {L : Nat} {M : pm_M} {Q : pm_P} {a4 a5 r : Int} {o6 : Option pm_V}
    (h : ((M 24 0 = a5 → ((¬ a5 = 0 → (pm_R (a4 + 4)) ∧ pm_X L (95, 23, [some (.inr (.inl 35)), some (.inr (.inl 0)), some (.inr (.inl 24)), some (.inr (.inl 34)), some (.inl (a4 + 4)), some (.inl a5), some (.inl r)], [], M) Q) ∧ (¬ (¬ a5 = 0) → (((if M 34 0 < r then -1 else if M 34 0 = r then 0 else 1) = 0 → (pm_R (a4 + 4)) ∧ pm_X L (95, 23, [some (.inr (.inl 35)), some (.inr (.inl 0)), some (.inr (.inl 24)), some (.inr (.inl 34)), some (.inl (a4 + 4)), some (.inl a5), some (.inl r)], [], M) Q) ∧ (¬ ((if M 34 0 < r then -1 else if M 34 0 = r then 0 else 1) = 0) → Q (.inl (some (.inl 0))) M))))) ∧ (¬ (M 24 0 = a5) → Q (.inl (some (.inl 0))) M))) :
    pm_X L (95, 175, [some (.inr (.inl 35)), some (.inr (.inl 0)), some (.inr (.inl 24)), some (.inr (.inl 34)), some (.inl a4), some (.inl a5), o6], [.inl r], M) Q := by
  refine x_istore i_95_175 (Nat.le_of_ble_eq_true rfl) rfl rfl ?_
  refine x_aload_n i_95_177 rfl rfl ?_
  refine x_callv (as := []) (rest := []) i_95_178 k_95_58 rfl rfl rfl g_24 (Nat.le_of_ble_eq_true rfl) m_63 rfl ?_
  refine x_aload_n i_63_0 rfl rfl ?_
  refine x_geti (v := M 24 0) i_63_1 f_63_7 g_24 rfl (rfl) rfl ?_
  refine x_ireti i_63_4 r_63 ?_
  refine x_bki rfl ?_
  refine x_iload i_95_181 rfl rfl ?_
  refine x_icmp (C := M 24 0 = a5) i_95_183 rfl Iff.rfl rfl ⟨fun c1 => ?_, fun c1 => ?_⟩
  · replace h := h.1 c1
    refine x_iload i_95_188 rfl rfl ?_
    refine x_if (C := ¬ a5 = 0) i_95_190 rfl Iff.rfl rfl ⟨fun c2 => ?_, fun c2 => ?_⟩
    · replace h := h.1 c2
      refine x_goto i_95_205 rfl ?_
      obtain ⟨q3, h⟩ := h
      refine x_iinc i_95_786 rfl (by decide) rfl rfl q3 ?_
      refine x_goto i_95_789 rfl ?_
      exact h
    · replace h := h.2 c2
      refine x_aload_n i_95_193 rfl rfl ?_
      refine x_iconst i_95_194 (by decide) rfl ?_
      refine x_laload (v := M 34 0) i_95_195 g_34 (rfl) rfl (by decide) ?_
      refine x_iload i_95_196 rfl rfl ?_
      refine x_i2l i_95_198 rfl ?_
      refine x_lcmp i_95_199 rfl ?_
      refine x_if (C := (if M 34 0 < r then -1 else if M 34 0 = r then 0 else 1) = 0) i_95_200 rfl Iff.rfl rfl ⟨fun c4 => ?_, fun c4 => ?_⟩
      · replace h := h.1 c4
        refine x_goto i_95_205 rfl ?_
        obtain ⟨q5, h⟩ := h
        refine x_iinc i_95_786 rfl (by decide) rfl rfl q5 ?_
        refine x_goto i_95_789 rfl ?_
        exact h
      · replace h := h.2 c4
        refine x_iconst i_95_203 (by decide) rfl ?_
        exact x_iretz i_95_204 r_95 (by unfold pm_bit; decide) h
  · replace h := h.2 c1
    refine x_iconst i_95_186 (by decide) rfl ?_
    exact x_iretz i_95_187 r_95 (by unfold pm_bit; decide) h
/-! GateBenchLaw.law at 231 -/
theorem s_95_231 {L : Nat} {M : pm_M} {Q : pm_P} {a4 r : Int} {o5 o6 : Option pm_V}
    (h : (pm_R (a4 + 1)) ∧ (0 ≤ a4 + 1 ∧ a4 + 1 < L) ∧ (pm_R (a4 + 2)) ∧ (0 ≤ a4 + 2 ∧ a4 + 2 < L) ∧ (pm_R (a4 + 3)) ∧ (0 ≤ a4 + 3 ∧ a4 + 3 < L) ∧ pm_X L (69, 0, [some (.inr (.inl 24)), some (.inl (M 35 (a4 + 1))), some (.inl (M 35 (a4 + 2))), some (.inl (M 35 (a4 + 3)))], [], M) (pm_back (pm_X L) 95 252 [some (.inr (.inl 35)), some (.inr (.inl 0)), some (.inr (.inl 24)), some (.inr (.inl 34)), some (.inl a4), some (.inl r), o6] [] Q)) :
    pm_X L (95, 231, [some (.inr (.inl 35)), some (.inr (.inl 0)), some (.inr (.inl 24)), some (.inr (.inl 34)), some (.inl a4), o5, o6], [.inl r], M) Q := by
  refine x_istore i_95_231 (Nat.le_of_ble_eq_true rfl) rfl rfl ?_
  refine x_aload_n i_95_233 rfl rfl ?_
  refine x_aload_n i_95_234 rfl rfl ?_
  refine x_iload i_95_235 rfl rfl ?_
  refine x_iconst i_95_237 (by decide) rfl ?_
  obtain ⟨q1, h⟩ := h
  refine x_iadd i_95_238 rfl q1 ?_
  obtain ⟨q2, h⟩ := h
  refine x_iaload (v := M 35 (a4 + 1)) i_95_239 g_35 (rfl) rfl q2 ?_
  refine x_aload_n i_95_240 rfl rfl ?_
  refine x_iload i_95_241 rfl rfl ?_
  refine x_iconst i_95_243 (by decide) rfl ?_
  obtain ⟨q3, h⟩ := h
  refine x_iadd i_95_244 rfl q3 ?_
  obtain ⟨q4, h⟩ := h
  refine x_iaload (v := M 35 (a4 + 2)) i_95_245 g_35 (rfl) rfl q4 ?_
  refine x_aload_n i_95_246 rfl rfl ?_
  refine x_iload i_95_247 rfl rfl ?_
  refine x_iconst i_95_249 (by decide) rfl ?_
  obtain ⟨q5, h⟩ := h
  refine x_iadd i_95_250 rfl q5 ?_
  obtain ⟨q6, h⟩ := h
  refine x_iaload (v := M 35 (a4 + 3)) i_95_251 g_35 (rfl) rfl q6 ?_
  refine x_callv (as := [.inl (M 35 (a4 + 1)), .inl (M 35 (a4 + 2)), .inl (M 35 (a4 + 3))]) (rest := []) i_95_252 k_95_68 rfl rfl rfl g_24 (Nat.le_of_ble_eq_true rfl) m_69 rfl h
/-! GateBenchLaw.law at 255 -/
theorem s_95_255 {L : Nat} {M : pm_M} {Q : pm_P} {a4 a5 r : Int} {o6 : Option pm_V}
    (h : ((M 24 0 = a5 → ((¬ a5 = 0 → (pm_R (a4 + 4)) ∧ pm_X L (95, 23, [some (.inr (.inl 35)), some (.inr (.inl 0)), some (.inr (.inl 24)), some (.inr (.inl 34)), some (.inl (a4 + 4)), some (.inl a5), some (.inl r)], [], M) Q) ∧ (¬ (¬ a5 = 0) → (((if M 34 0 < r then -1 else if M 34 0 = r then 0 else 1) = 0 → (pm_R (a4 + 4)) ∧ pm_X L (95, 23, [some (.inr (.inl 35)), some (.inr (.inl 0)), some (.inr (.inl 24)), some (.inr (.inl 34)), some (.inl (a4 + 4)), some (.inl a5), some (.inl r)], [], M) Q) ∧ (¬ ((if M 34 0 < r then -1 else if M 34 0 = r then 0 else 1) = 0) → Q (.inl (some (.inl 0))) M))))) ∧ (¬ (M 24 0 = a5) → Q (.inl (some (.inl 0))) M))) :
    pm_X L (95, 255, [some (.inr (.inl 35)), some (.inr (.inl 0)), some (.inr (.inl 24)), some (.inr (.inl 34)), some (.inl a4), some (.inl a5), o6], [.inl r], M) Q := by
  refine x_istore i_95_255 (Nat.le_of_ble_eq_true rfl) rfl rfl ?_
  refine x_aload_n i_95_257 rfl rfl ?_
  refine x_callv (as := []) (rest := []) i_95_258 k_95_58 rfl rfl rfl g_24 (Nat.le_of_ble_eq_true rfl) m_63 rfl ?_
  refine x_aload_n i_63_0 rfl rfl ?_
  refine x_geti (v := M 24 0) i_63_1 f_63_7 g_24 rfl (rfl) rfl ?_
  refine x_ireti i_63_4 r_63 ?_
  refine x_bki rfl ?_
  refine x_iload i_95_261 rfl rfl ?_
  refine x_icmp (C := M 24 0 = a5) i_95_263 rfl Iff.rfl rfl ⟨fun c1 => ?_, fun c1 => ?_⟩
  · replace h := h.1 c1
    refine x_iload i_95_268 rfl rfl ?_
    refine x_if (C := ¬ a5 = 0) i_95_270 rfl Iff.rfl rfl ⟨fun c2 => ?_, fun c2 => ?_⟩
    · replace h := h.1 c2
      refine x_goto i_95_285 rfl ?_
      obtain ⟨q3, h⟩ := h
      refine x_iinc i_95_786 rfl (by decide) rfl rfl q3 ?_
      refine x_goto i_95_789 rfl ?_
      exact h
    · replace h := h.2 c2
      refine x_aload_n i_95_273 rfl rfl ?_
      refine x_iconst i_95_274 (by decide) rfl ?_
      refine x_laload (v := M 34 0) i_95_275 g_34 (rfl) rfl (by decide) ?_
      refine x_iload i_95_276 rfl rfl ?_
      refine x_i2l i_95_278 rfl ?_
      refine x_lcmp i_95_279 rfl ?_
      refine x_if (C := (if M 34 0 < r then -1 else if M 34 0 = r then 0 else 1) = 0) i_95_280 rfl Iff.rfl rfl ⟨fun c4 => ?_, fun c4 => ?_⟩
      · replace h := h.1 c4
        refine x_goto i_95_285 rfl ?_
        obtain ⟨q5, h⟩ := h
        refine x_iinc i_95_786 rfl (by decide) rfl rfl q5 ?_
        refine x_goto i_95_789 rfl ?_
        exact h
      · replace h := h.2 c4
        refine x_iconst i_95_283 (by decide) rfl ?_
        exact x_iretz i_95_284 r_95 (by unfold pm_bit; decide) h
  · replace h := h.2 c1
    refine x_iconst i_95_266 (by decide) rfl ?_
    exact x_iretz i_95_267 r_95 (by unfold pm_bit; decide) h
/-! GateBenchLaw.law at 311 -/
theorem s_95_311 {L : Nat} {M : pm_M} {Q : pm_P} {a4 r : Int} {o5 o6 : Option pm_V}
    (h : (pm_R (a4 + 1)) ∧ (0 ≤ a4 + 1 ∧ a4 + 1 < L) ∧ (pm_R (a4 + 2)) ∧ (0 ≤ a4 + 2 ∧ a4 + 2 < L) ∧ (pm_R (a4 + 3)) ∧ (0 ≤ a4 + 3 ∧ a4 + 3 < L) ∧ pm_X L (70, 0, [some (.inr (.inl 24)), some (.inl (M 35 (a4 + 1))), some (.inl (M 35 (a4 + 2))), some (.inl (M 35 (a4 + 3)))], [], M) (pm_back (pm_X L) 95 332 [some (.inr (.inl 35)), some (.inr (.inl 0)), some (.inr (.inl 24)), some (.inr (.inl 34)), some (.inl a4), some (.inl r), o6] [] Q)) :
    pm_X L (95, 311, [some (.inr (.inl 35)), some (.inr (.inl 0)), some (.inr (.inl 24)), some (.inr (.inl 34)), some (.inl a4), o5, o6], [.inl r], M) Q := by
  refine x_istore i_95_311 (Nat.le_of_ble_eq_true rfl) rfl rfl ?_
  refine x_aload_n i_95_313 rfl rfl ?_
  refine x_aload_n i_95_314 rfl rfl ?_
  refine x_iload i_95_315 rfl rfl ?_
  refine x_iconst i_95_317 (by decide) rfl ?_
  obtain ⟨q1, h⟩ := h
  refine x_iadd i_95_318 rfl q1 ?_
  obtain ⟨q2, h⟩ := h
  refine x_iaload (v := M 35 (a4 + 1)) i_95_319 g_35 (rfl) rfl q2 ?_
  refine x_aload_n i_95_320 rfl rfl ?_
  refine x_iload i_95_321 rfl rfl ?_
  refine x_iconst i_95_323 (by decide) rfl ?_
  obtain ⟨q3, h⟩ := h
  refine x_iadd i_95_324 rfl q3 ?_
  obtain ⟨q4, h⟩ := h
  refine x_iaload (v := M 35 (a4 + 2)) i_95_325 g_35 (rfl) rfl q4 ?_
  refine x_aload_n i_95_326 rfl rfl ?_
  refine x_iload i_95_327 rfl rfl ?_
  refine x_iconst i_95_329 (by decide) rfl ?_
  obtain ⟨q5, h⟩ := h
  refine x_iadd i_95_330 rfl q5 ?_
  obtain ⟨q6, h⟩ := h
  refine x_iaload (v := M 35 (a4 + 3)) i_95_331 g_35 (rfl) rfl q6 ?_
  refine x_callv (as := [.inl (M 35 (a4 + 1)), .inl (M 35 (a4 + 2)), .inl (M 35 (a4 + 3))]) (rest := []) i_95_332 k_95_71 rfl rfl rfl g_24 (Nat.le_of_ble_eq_true rfl) m_70 rfl h
/-! GateBenchLaw.law at 335 -/
theorem s_95_335 {L : Nat} {M : pm_M} {Q : pm_P} {a4 a5 r : Int} {o6 : Option pm_V}
    (h : ((M 24 0 = a5 → ((¬ a5 = 0 → (pm_R (a4 + 4)) ∧ pm_X L (95, 23, [some (.inr (.inl 35)), some (.inr (.inl 0)), some (.inr (.inl 24)), some (.inr (.inl 34)), some (.inl (a4 + 4)), some (.inl a5), some (.inl r)], [], M) Q) ∧ (¬ (¬ a5 = 0) → (((if M 34 0 < r then -1 else if M 34 0 = r then 0 else 1) = 0 → (pm_R (a4 + 4)) ∧ pm_X L (95, 23, [some (.inr (.inl 35)), some (.inr (.inl 0)), some (.inr (.inl 24)), some (.inr (.inl 34)), some (.inl (a4 + 4)), some (.inl a5), some (.inl r)], [], M) Q) ∧ (¬ ((if M 34 0 < r then -1 else if M 34 0 = r then 0 else 1) = 0) → Q (.inl (some (.inl 0))) M))))) ∧ (¬ (M 24 0 = a5) → Q (.inl (some (.inl 0))) M))) :
    pm_X L (95, 335, [some (.inr (.inl 35)), some (.inr (.inl 0)), some (.inr (.inl 24)), some (.inr (.inl 34)), some (.inl a4), some (.inl a5), o6], [.inl r], M) Q := by
  refine x_istore i_95_335 (Nat.le_of_ble_eq_true rfl) rfl rfl ?_
  refine x_aload_n i_95_337 rfl rfl ?_
  refine x_callv (as := []) (rest := []) i_95_338 k_95_58 rfl rfl rfl g_24 (Nat.le_of_ble_eq_true rfl) m_63 rfl ?_
  refine x_aload_n i_63_0 rfl rfl ?_
  refine x_geti (v := M 24 0) i_63_1 f_63_7 g_24 rfl (rfl) rfl ?_
  refine x_ireti i_63_4 r_63 ?_
  refine x_bki rfl ?_
  refine x_iload i_95_341 rfl rfl ?_
  refine x_icmp (C := M 24 0 = a5) i_95_343 rfl Iff.rfl rfl ⟨fun c1 => ?_, fun c1 => ?_⟩
  · replace h := h.1 c1
    refine x_iload i_95_348 rfl rfl ?_
    refine x_if (C := ¬ a5 = 0) i_95_350 rfl Iff.rfl rfl ⟨fun c2 => ?_, fun c2 => ?_⟩
    · replace h := h.1 c2
      refine x_goto i_95_365 rfl ?_
      obtain ⟨q3, h⟩ := h
      refine x_iinc i_95_786 rfl (by decide) rfl rfl q3 ?_
      refine x_goto i_95_789 rfl ?_
      exact h
    · replace h := h.2 c2
      refine x_aload_n i_95_353 rfl rfl ?_
      refine x_iconst i_95_354 (by decide) rfl ?_
      refine x_laload (v := M 34 0) i_95_355 g_34 (rfl) rfl (by decide) ?_
      refine x_iload i_95_356 rfl rfl ?_
      refine x_i2l i_95_358 rfl ?_
      refine x_lcmp i_95_359 rfl ?_
      refine x_if (C := (if M 34 0 < r then -1 else if M 34 0 = r then 0 else 1) = 0) i_95_360 rfl Iff.rfl rfl ⟨fun c4 => ?_, fun c4 => ?_⟩
      · replace h := h.1 c4
        refine x_goto i_95_365 rfl ?_
        obtain ⟨q5, h⟩ := h
        refine x_iinc i_95_786 rfl (by decide) rfl rfl q5 ?_
        refine x_goto i_95_789 rfl ?_
        exact h
      · replace h := h.2 c4
        refine x_iconst i_95_363 (by decide) rfl ?_
        exact x_iretz i_95_364 r_95 (by unfold pm_bit; decide) h
  · replace h := h.2 c1
    refine x_iconst i_95_346 (by decide) rfl ?_
    exact x_iretz i_95_347 r_95 (by unfold pm_bit; decide) h
/-! GateBenchLaw.law at 379 -/
theorem s_95_379 {L : Nat} {M : pm_M} {Q : pm_P} {a4 r : Int} {o5 o6 : Option pm_V}
    (h : (pm_R (a4 + 1)) ∧ (0 ≤ a4 + 1 ∧ a4 + 1 < L) ∧ pm_X L (71, 0, [some (.inr (.inl 24)), some (.inl (M 35 (a4 + 1)))], [], M) (pm_back (pm_X L) 95 388 [some (.inr (.inl 35)), some (.inr (.inl 0)), some (.inr (.inl 24)), some (.inr (.inl 34)), some (.inl a4), some (.inl r), o6] [] Q)) :
    pm_X L (95, 379, [some (.inr (.inl 35)), some (.inr (.inl 0)), some (.inr (.inl 24)), some (.inr (.inl 34)), some (.inl a4), o5, o6], [.inl r], M) Q := by
  refine x_istore i_95_379 (Nat.le_of_ble_eq_true rfl) rfl rfl ?_
  refine x_aload_n i_95_381 rfl rfl ?_
  refine x_aload_n i_95_382 rfl rfl ?_
  refine x_iload i_95_383 rfl rfl ?_
  refine x_iconst i_95_385 (by decide) rfl ?_
  obtain ⟨q1, h⟩ := h
  refine x_iadd i_95_386 rfl q1 ?_
  obtain ⟨q2, h⟩ := h
  refine x_iaload (v := M 35 (a4 + 1)) i_95_387 g_35 (rfl) rfl q2 ?_
  refine x_callv (as := [.inl (M 35 (a4 + 1))]) (rest := []) i_95_388 k_95_74 rfl rfl rfl g_24 (Nat.le_of_ble_eq_true rfl) m_71 rfl h
/-! GateBenchLaw.law at 391 -/
theorem s_95_391 {L : Nat} {M : pm_M} {Q : pm_P} {a4 a5 r : Int} {o6 : Option pm_V}
    (h : ((M 24 0 = a5 → ((¬ a5 = 0 → (pm_R (a4 + 4)) ∧ pm_X L (95, 23, [some (.inr (.inl 35)), some (.inr (.inl 0)), some (.inr (.inl 24)), some (.inr (.inl 34)), some (.inl (a4 + 4)), some (.inl a5), some (.inl r)], [], M) Q) ∧ (¬ (¬ a5 = 0) → (((if M 34 0 < r then -1 else if M 34 0 = r then 0 else 1) = 0 → (pm_R (a4 + 4)) ∧ pm_X L (95, 23, [some (.inr (.inl 35)), some (.inr (.inl 0)), some (.inr (.inl 24)), some (.inr (.inl 34)), some (.inl (a4 + 4)), some (.inl a5), some (.inl r)], [], M) Q) ∧ (¬ ((if M 34 0 < r then -1 else if M 34 0 = r then 0 else 1) = 0) → Q (.inl (some (.inl 0))) M))))) ∧ (¬ (M 24 0 = a5) → Q (.inl (some (.inl 0))) M))) :
    pm_X L (95, 391, [some (.inr (.inl 35)), some (.inr (.inl 0)), some (.inr (.inl 24)), some (.inr (.inl 34)), some (.inl a4), some (.inl a5), o6], [.inl r], M) Q := by
  refine x_istore i_95_391 (Nat.le_of_ble_eq_true rfl) rfl rfl ?_
  refine x_aload_n i_95_393 rfl rfl ?_
  refine x_callv (as := []) (rest := []) i_95_394 k_95_58 rfl rfl rfl g_24 (Nat.le_of_ble_eq_true rfl) m_63 rfl ?_
  refine x_aload_n i_63_0 rfl rfl ?_
  refine x_geti (v := M 24 0) i_63_1 f_63_7 g_24 rfl (rfl) rfl ?_
  refine x_ireti i_63_4 r_63 ?_
  refine x_bki rfl ?_
  refine x_iload i_95_397 rfl rfl ?_
  refine x_icmp (C := M 24 0 = a5) i_95_399 rfl Iff.rfl rfl ⟨fun c1 => ?_, fun c1 => ?_⟩
  · replace h := h.1 c1
    refine x_iload i_95_404 rfl rfl ?_
    refine x_if (C := ¬ a5 = 0) i_95_406 rfl Iff.rfl rfl ⟨fun c2 => ?_, fun c2 => ?_⟩
    · replace h := h.1 c2
      refine x_goto i_95_421 rfl ?_
      obtain ⟨q3, h⟩ := h
      refine x_iinc i_95_786 rfl (by decide) rfl rfl q3 ?_
      refine x_goto i_95_789 rfl ?_
      exact h
    · replace h := h.2 c2
      refine x_aload_n i_95_409 rfl rfl ?_
      refine x_iconst i_95_410 (by decide) rfl ?_
      refine x_laload (v := M 34 0) i_95_411 g_34 (rfl) rfl (by decide) ?_
      refine x_iload i_95_412 rfl rfl ?_
      refine x_i2l i_95_414 rfl ?_
      refine x_lcmp i_95_415 rfl ?_
      refine x_if (C := (if M 34 0 < r then -1 else if M 34 0 = r then 0 else 1) = 0) i_95_416 rfl Iff.rfl rfl ⟨fun c4 => ?_, fun c4 => ?_⟩
      · replace h := h.1 c4
        refine x_goto i_95_421 rfl ?_
        obtain ⟨q5, h⟩ := h
        refine x_iinc i_95_786 rfl (by decide) rfl rfl q5 ?_
        refine x_goto i_95_789 rfl ?_
        exact h
      · replace h := h.2 c4
        refine x_iconst i_95_419 (by decide) rfl ?_
        exact x_iretz i_95_420 r_95 (by unfold pm_bit; decide) h
  · replace h := h.2 c1
    refine x_iconst i_95_402 (by decide) rfl ?_
    exact x_iretz i_95_403 r_95 (by unfold pm_bit; decide) h
/-! GateBenchLaw.law at 428 -/
theorem s_95_428 {L : Nat} {M : pm_M} {Q : pm_P} {a4 r : Int} {o5 o6 : Option pm_V}
    (h : pm_X L (72, 0, [some (.inr (.inl 24)), none], [], M) (pm_back (pm_X L) 95 429 [some (.inr (.inl 35)), some (.inr (.inl 0)), some (.inr (.inl 24)), some (.inr (.inl 34)), some (.inl a4), o5, o6] [.inl r] Q)) :
    pm_X L (95, 428, [some (.inr (.inl 35)), some (.inr (.inl 0)), some (.inr (.inl 24)), some (.inr (.inl 34)), some (.inl a4), o5, o6], [.inl r], M) Q := by
  refine x_aload_n i_95_428 rfl rfl ?_
  refine x_callv (as := []) (rest := [.inl r]) i_95_429 k_95_78 rfl rfl rfl g_24 (Nat.le_of_ble_eq_true rfl) m_72 rfl h
/-! GateBenchLaw.law at 432 -/
theorem s_95_432 {L : Nat} {M : pm_M} {Q : pm_P} {a4 r t0 : Int} {o5 o6 : Option pm_V}
    (h : ((t0 = r → (pm_R (a4 + 4)) ∧ pm_X L (95, 23, [some (.inr (.inl 35)), some (.inr (.inl 0)), some (.inr (.inl 24)), some (.inr (.inl 34)), some (.inl (a4 + 4)), o5, o6], [], M) Q) ∧ (¬ (t0 = r) → Q (.inl (some (.inl 0))) M))) :
    pm_X L (95, 432, [some (.inr (.inl 35)), some (.inr (.inl 0)), some (.inr (.inl 24)), some (.inr (.inl 34)), some (.inl a4), o5, o6], [.inl r, .inl t0], M) Q := by
  refine x_icmp (C := t0 = r) i_95_432 rfl Iff.rfl rfl ⟨fun c1 => ?_, fun c1 => ?_⟩
  · replace h := h.1 c1
    obtain ⟨q2, h⟩ := h
    refine x_iinc i_95_786 rfl (by decide) rfl rfl q2 ?_
    refine x_goto i_95_789 rfl ?_
    exact h
  · replace h := h.2 c1
    refine x_iconst i_95_435 (by decide) rfl ?_
    exact x_iretz i_95_436 r_95 (by unfold pm_bit; decide) h
/-! GateBenchLaw.law at 441 -/
theorem s_95_441 {L : Nat} {M : pm_M} {Q : pm_P} {a4 r : Int} {o5 o6 : Option pm_V}
    (h : pm_X L (78, 0, [some (.inr (.inl 24))], [], M) (pm_back (pm_X L) 95 442 [some (.inr (.inl 35)), some (.inr (.inl 0)), some (.inr (.inl 24)), some (.inr (.inl 34)), some (.inl a4), o5, o6] [.inl r] Q)) :
    pm_X L (95, 441, [some (.inr (.inl 35)), some (.inr (.inl 0)), some (.inr (.inl 24)), some (.inr (.inl 34)), some (.inl a4), o5, o6], [.inl r], M) Q := by
  refine x_aload_n i_95_441 rfl rfl ?_
  refine x_callv (as := []) (rest := [.inl r]) i_95_442 k_95_83 rfl rfl rfl g_24 (Nat.le_of_ble_eq_true rfl) m_78 rfl h
/-! GateBenchLaw.law at 445 -/
theorem s_95_445 {L : Nat} {M : pm_M} {Q : pm_P} {a4 r t0 : Int} {o5 o6 : Option pm_V}
    (h : ((t0 = r → (pm_R (a4 + 4)) ∧ pm_X L (95, 23, [some (.inr (.inl 35)), some (.inr (.inl 0)), some (.inr (.inl 24)), some (.inr (.inl 34)), some (.inl (a4 + 4)), o5, o6], [], M) Q) ∧ (¬ (t0 = r) → Q (.inl (some (.inl 0))) M))) :
    pm_X L (95, 445, [some (.inr (.inl 35)), some (.inr (.inl 0)), some (.inr (.inl 24)), some (.inr (.inl 34)), some (.inl a4), o5, o6], [.inl r, .inl t0], M) Q := by
  refine x_icmp (C := t0 = r) i_95_445 rfl Iff.rfl rfl ⟨fun c1 => ?_, fun c1 => ?_⟩
  · replace h := h.1 c1
    obtain ⟨q2, h⟩ := h
    refine x_iinc i_95_786 rfl (by decide) rfl rfl q2 ?_
    refine x_goto i_95_789 rfl ?_
    exact h
  · replace h := h.2 c1
    refine x_iconst i_95_448 (by decide) rfl ?_
    exact x_iretz i_95_449 r_95 (by unfold pm_bit; decide) h
/-! GateBenchLaw.law at 454 -/
theorem s_95_454 {L : Nat} {M : pm_M} {Q : pm_P} {a4 r : Int} {o5 o6 : Option pm_V}
    (h : pm_X L (79, 0, [some (.inr (.inl 24)), none, none, none], [], M) (pm_back (pm_X L) 95 455 [some (.inr (.inl 35)), some (.inr (.inl 0)), some (.inr (.inl 24)), some (.inr (.inl 34)), some (.inl a4), o5, o6] [.inl r] Q)) :
    pm_X L (95, 454, [some (.inr (.inl 35)), some (.inr (.inl 0)), some (.inr (.inl 24)), some (.inr (.inl 34)), some (.inl a4), o5, o6], [.inl r], M) Q := by
  refine x_aload_n i_95_454 rfl rfl ?_
  refine x_callv (as := []) (rest := [.inl r]) i_95_455 k_95_87 rfl rfl rfl g_24 (Nat.le_of_ble_eq_true rfl) m_79 rfl h
/-! GateBenchLaw.law at 458 -/
theorem s_95_458 {L : Nat} {M : pm_M} {Q : pm_P} {a4 r t0 : Int} {o5 o6 : Option pm_V}
    (h : ((t0 = r → (pm_R (a4 + 4)) ∧ pm_X L (95, 23, [some (.inr (.inl 35)), some (.inr (.inl 0)), some (.inr (.inl 24)), some (.inr (.inl 34)), some (.inl (a4 + 4)), o5, o6], [], M) Q) ∧ (¬ (t0 = r) → Q (.inl (some (.inl 0))) M))) :
    pm_X L (95, 458, [some (.inr (.inl 35)), some (.inr (.inl 0)), some (.inr (.inl 24)), some (.inr (.inl 34)), some (.inl a4), o5, o6], [.inl r, .inl t0], M) Q := by
  refine x_icmp (C := t0 = r) i_95_458 rfl Iff.rfl rfl ⟨fun c1 => ?_, fun c1 => ?_⟩
  · replace h := h.1 c1
    obtain ⟨q2, h⟩ := h
    refine x_iinc i_95_786 rfl (by decide) rfl rfl q2 ?_
    refine x_goto i_95_789 rfl ?_
    exact h
  · replace h := h.2 c1
    refine x_iconst i_95_461 (by decide) rfl ?_
    exact x_iretz i_95_462 r_95 (by unfold pm_bit; decide) h
/-! GateBenchLaw.law at 474 -/
theorem s_95_474 {L : Nat} {M : pm_M} {Q : pm_P} {a4 r : Int} {o5 o6 : Option pm_V}
    (h : (pm_R (a4 + 1)) ∧ (0 ≤ a4 + 1 ∧ a4 + 1 < L) ∧ pm_X L (80, 0, [some (.inr (.inl 24)), some (.inl (M 35 (a4 + 1)))], [], M) (pm_back (pm_X L) 95 483 [some (.inr (.inl 35)), some (.inr (.inl 0)), some (.inr (.inl 24)), some (.inr (.inl 34)), some (.inl a4), some (.inl r), o6] [] Q)) :
    pm_X L (95, 474, [some (.inr (.inl 35)), some (.inr (.inl 0)), some (.inr (.inl 24)), some (.inr (.inl 34)), some (.inl a4), o5, o6], [.inl r], M) Q := by
  refine x_istore i_95_474 (Nat.le_of_ble_eq_true rfl) rfl rfl ?_
  refine x_aload_n i_95_476 rfl rfl ?_
  refine x_aload_n i_95_477 rfl rfl ?_
  refine x_iload i_95_478 rfl rfl ?_
  refine x_iconst i_95_480 (by decide) rfl ?_
  obtain ⟨q1, h⟩ := h
  refine x_iadd i_95_481 rfl q1 ?_
  obtain ⟨q2, h⟩ := h
  refine x_iaload (v := M 35 (a4 + 1)) i_95_482 g_35 (rfl) rfl q2 ?_
  refine x_callv (as := [.inl (M 35 (a4 + 1))]) (rest := []) i_95_483 k_95_90 rfl rfl rfl g_24 (Nat.le_of_ble_eq_true rfl) m_80 rfl h
/-! GateBenchLaw.law at 486 -/
theorem s_95_486 {L : Nat} {M : pm_M} {Q : pm_P} {a4 a5 r : Int} {o6 : Option pm_V}
    (h : ((M 24 0 = a5 → ((¬ a5 = 0 → (pm_R (a4 + 4)) ∧ pm_X L (95, 23, [some (.inr (.inl 35)), some (.inr (.inl 0)), some (.inr (.inl 24)), some (.inr (.inl 34)), some (.inl (a4 + 4)), some (.inl a5), some (.inl r)], [], M) Q) ∧ (¬ (¬ a5 = 0) → (((if M 34 0 < r then -1 else if M 34 0 = r then 0 else 1) = 0 → (pm_R (a4 + 4)) ∧ pm_X L (95, 23, [some (.inr (.inl 35)), some (.inr (.inl 0)), some (.inr (.inl 24)), some (.inr (.inl 34)), some (.inl (a4 + 4)), some (.inl a5), some (.inl r)], [], M) Q) ∧ (¬ ((if M 34 0 < r then -1 else if M 34 0 = r then 0 else 1) = 0) → Q (.inl (some (.inl 0))) M))))) ∧ (¬ (M 24 0 = a5) → Q (.inl (some (.inl 0))) M))) :
    pm_X L (95, 486, [some (.inr (.inl 35)), some (.inr (.inl 0)), some (.inr (.inl 24)), some (.inr (.inl 34)), some (.inl a4), some (.inl a5), o6], [.inl r], M) Q := by
  refine x_istore i_95_486 (Nat.le_of_ble_eq_true rfl) rfl rfl ?_
  refine x_aload_n i_95_488 rfl rfl ?_
  refine x_callv (as := []) (rest := []) i_95_489 k_95_58 rfl rfl rfl g_24 (Nat.le_of_ble_eq_true rfl) m_63 rfl ?_
  refine x_aload_n i_63_0 rfl rfl ?_
  refine x_geti (v := M 24 0) i_63_1 f_63_7 g_24 rfl (rfl) rfl ?_
  refine x_ireti i_63_4 r_63 ?_
  refine x_bki rfl ?_
  refine x_iload i_95_492 rfl rfl ?_
  refine x_icmp (C := M 24 0 = a5) i_95_494 rfl Iff.rfl rfl ⟨fun c1 => ?_, fun c1 => ?_⟩
  · replace h := h.1 c1
    refine x_iload i_95_499 rfl rfl ?_
    refine x_if (C := ¬ a5 = 0) i_95_501 rfl Iff.rfl rfl ⟨fun c2 => ?_, fun c2 => ?_⟩
    · replace h := h.1 c2
      refine x_goto i_95_516 rfl ?_
      obtain ⟨q3, h⟩ := h
      refine x_iinc i_95_786 rfl (by decide) rfl rfl q3 ?_
      refine x_goto i_95_789 rfl ?_
      exact h
    · replace h := h.2 c2
      refine x_aload_n i_95_504 rfl rfl ?_
      refine x_iconst i_95_505 (by decide) rfl ?_
      refine x_laload (v := M 34 0) i_95_506 g_34 (rfl) rfl (by decide) ?_
      refine x_iload i_95_507 rfl rfl ?_
      refine x_i2l i_95_509 rfl ?_
      refine x_lcmp i_95_510 rfl ?_
      refine x_if (C := (if M 34 0 < r then -1 else if M 34 0 = r then 0 else 1) = 0) i_95_511 rfl Iff.rfl rfl ⟨fun c4 => ?_, fun c4 => ?_⟩
      · replace h := h.1 c4
        refine x_goto i_95_516 rfl ?_
        obtain ⟨q5, h⟩ := h
        refine x_iinc i_95_786 rfl (by decide) rfl rfl q5 ?_
        refine x_goto i_95_789 rfl ?_
        exact h
      · replace h := h.2 c4
        refine x_iconst i_95_514 (by decide) rfl ?_
        exact x_iretz i_95_515 r_95 (by unfold pm_bit; decide) h
  · replace h := h.2 c1
    refine x_iconst i_95_497 (by decide) rfl ?_
    exact x_iretz i_95_498 r_95 (by unfold pm_bit; decide) h
/-! GateBenchLaw.law at 536 -/
theorem s_95_536 {L : Nat} {M : pm_M} {Q : pm_P} {a4 r : Int} {o5 o6 : Option pm_V}
    (h : (pm_R (a4 + 1)) ∧ (0 ≤ a4 + 1 ∧ a4 + 1 < L) ∧ (pm_R (a4 + 2)) ∧ (0 ≤ a4 + 2 ∧ a4 + 2 < L) ∧ pm_X L (81, 0, [some (.inr (.inl 24)), some (.inl (M 35 (a4 + 1))), some (.inl (M 35 (a4 + 2))), none], [], M) (pm_back (pm_X L) 95 551 [some (.inr (.inl 35)), some (.inr (.inl 0)), some (.inr (.inl 24)), some (.inr (.inl 34)), some (.inl a4), some (.inl r), o6] [] Q)) :
    pm_X L (95, 536, [some (.inr (.inl 35)), some (.inr (.inl 0)), some (.inr (.inl 24)), some (.inr (.inl 34)), some (.inl a4), o5, o6], [.inl r], M) Q := by
  refine x_istore i_95_536 (Nat.le_of_ble_eq_true rfl) rfl rfl ?_
  refine x_aload_n i_95_538 rfl rfl ?_
  refine x_aload_n i_95_539 rfl rfl ?_
  refine x_iload i_95_540 rfl rfl ?_
  refine x_iconst i_95_542 (by decide) rfl ?_
  obtain ⟨q1, h⟩ := h
  refine x_iadd i_95_543 rfl q1 ?_
  obtain ⟨q2, h⟩ := h
  refine x_iaload (v := M 35 (a4 + 1)) i_95_544 g_35 (rfl) rfl q2 ?_
  refine x_aload_n i_95_545 rfl rfl ?_
  refine x_iload i_95_546 rfl rfl ?_
  refine x_iconst i_95_548 (by decide) rfl ?_
  obtain ⟨q3, h⟩ := h
  refine x_iadd i_95_549 rfl q3 ?_
  obtain ⟨q4, h⟩ := h
  refine x_iaload (v := M 35 (a4 + 2)) i_95_550 g_35 (rfl) rfl q4 ?_
  refine x_callv (as := [.inl (M 35 (a4 + 1)), .inl (M 35 (a4 + 2))]) (rest := []) i_95_551 k_95_94 rfl rfl rfl g_24 (Nat.le_of_ble_eq_true rfl) m_81 rfl h
/-! GateBenchLaw.law at 554 -/
theorem s_95_554 {L : Nat} {M : pm_M} {Q : pm_P} {a4 a5 r : Int} {o6 : Option pm_V}
    (h : ((M 24 0 = a5 → ((¬ a5 = 0 → (pm_R (a4 + 4)) ∧ pm_X L (95, 23, [some (.inr (.inl 35)), some (.inr (.inl 0)), some (.inr (.inl 24)), some (.inr (.inl 34)), some (.inl (a4 + 4)), some (.inl a5), some (.inl r)], [], M) Q) ∧ (¬ (¬ a5 = 0) → ((r = 0 → (((if M 34 0 < 0 then -1 else if M 34 0 = 0 then 0 else 1) = 0 → (pm_R (a4 + 4)) ∧ pm_X L (95, 23, [some (.inr (.inl 35)), some (.inr (.inl 0)), some (.inr (.inl 24)), some (.inr (.inl 34)), some (.inl (a4 + 4)), some (.inl a5), some (.inl r)], [], M) Q) ∧ (¬ ((if M 34 0 < 0 then -1 else if M 34 0 = 0 then 0 else 1) = 0) → Q (.inl (some (.inl 0))) M))) ∧ (¬ (r = 0) → (((if M 34 0 < 1 then -1 else if M 34 0 = 1 then 0 else 1) = 0 → (pm_R (a4 + 4)) ∧ pm_X L (95, 23, [some (.inr (.inl 35)), some (.inr (.inl 0)), some (.inr (.inl 24)), some (.inr (.inl 34)), some (.inl (a4 + 4)), some (.inl a5), some (.inl r)], [], M) Q) ∧ (¬ ((if M 34 0 < 1 then -1 else if M 34 0 = 1 then 0 else 1) = 0) → Q (.inl (some (.inl 0))) M))))))) ∧ (¬ (M 24 0 = a5) → Q (.inl (some (.inl 0))) M))) :
    pm_X L (95, 554, [some (.inr (.inl 35)), some (.inr (.inl 0)), some (.inr (.inl 24)), some (.inr (.inl 34)), some (.inl a4), some (.inl a5), o6], [.inl r], M) Q := by
  refine x_istore i_95_554 (Nat.le_of_ble_eq_true rfl) rfl rfl ?_
  refine x_aload_n i_95_556 rfl rfl ?_
  refine x_callv (as := []) (rest := []) i_95_557 k_95_58 rfl rfl rfl g_24 (Nat.le_of_ble_eq_true rfl) m_63 rfl ?_
  refine x_aload_n i_63_0 rfl rfl ?_
  refine x_geti (v := M 24 0) i_63_1 f_63_7 g_24 rfl (rfl) rfl ?_
  refine x_ireti i_63_4 r_63 ?_
  refine x_bki rfl ?_
  refine x_iload i_95_560 rfl rfl ?_
  refine x_icmp (C := M 24 0 = a5) i_95_562 rfl Iff.rfl rfl ⟨fun c1 => ?_, fun c1 => ?_⟩
  · replace h := h.1 c1
    refine x_iload i_95_567 rfl rfl ?_
    refine x_if (C := ¬ a5 = 0) i_95_569 rfl Iff.rfl rfl ⟨fun c2 => ?_, fun c2 => ?_⟩
    · replace h := h.1 c2
      refine x_goto i_95_591 rfl ?_
      obtain ⟨q3, h⟩ := h
      refine x_iinc i_95_786 rfl (by decide) rfl rfl q3 ?_
      refine x_goto i_95_789 rfl ?_
      exact h
    · replace h := h.2 c2
      refine x_aload_n i_95_572 rfl rfl ?_
      refine x_iconst i_95_573 (by decide) rfl ?_
      refine x_laload (v := M 34 0) i_95_574 g_34 (rfl) rfl (by decide) ?_
      refine x_iload i_95_575 rfl rfl ?_
      refine x_if (C := r = 0) i_95_577 rfl Iff.rfl rfl ⟨fun c4 => ?_, fun c4 => ?_⟩
      · replace h := h.1 c4
        refine x_lconst (y := 0) i_95_584 rfl rfl ?_
        refine x_lcmp i_95_585 rfl ?_
        refine x_if (C := (if M 34 0 < 0 then -1 else if M 34 0 = 0 then 0 else 1) = 0) i_95_586 rfl Iff.rfl rfl ⟨fun c5 => ?_, fun c5 => ?_⟩
        · replace h := h.1 c5
          refine x_goto i_95_591 rfl ?_
          obtain ⟨q6, h⟩ := h
          refine x_iinc i_95_786 rfl (by decide) rfl rfl q6 ?_
          refine x_goto i_95_789 rfl ?_
          exact h
        · replace h := h.2 c5
          refine x_iconst i_95_589 (by decide) rfl ?_
          exact x_iretz i_95_590 r_95 (by unfold pm_bit; decide) h
      · replace h := h.2 c4
        refine x_lconst (y := 1) i_95_580 rfl rfl ?_
        refine x_goto i_95_581 rfl ?_
        refine x_lcmp i_95_585 rfl ?_
        refine x_if (C := (if M 34 0 < 1 then -1 else if M 34 0 = 1 then 0 else 1) = 0) i_95_586 rfl Iff.rfl rfl ⟨fun c7 => ?_, fun c7 => ?_⟩
        · replace h := h.1 c7
          refine x_goto i_95_591 rfl ?_
          obtain ⟨q8, h⟩ := h
          refine x_iinc i_95_786 rfl (by decide) rfl rfl q8 ?_
          refine x_goto i_95_789 rfl ?_
          exact h
        · replace h := h.2 c7
          refine x_iconst i_95_589 (by decide) rfl ?_
          exact x_iretz i_95_590 r_95 (by unfold pm_bit; decide) h
  · replace h := h.2 c1
    refine x_iconst i_95_565 (by decide) rfl ?_
    exact x_iretz i_95_566 r_95 (by unfold pm_bit; decide) h
/-! GateBenchLaw.law at 619 -/
theorem s_95_619 {L : Nat} {M : pm_M} {Q : pm_P} {a4 r : Int} {o5 o6 : Option pm_V}
    (h : (pm_R (a4 + 1)) ∧ (0 ≤ a4 + 1 ∧ a4 + 1 < L) ∧ (pm_R (a4 + 2)) ∧ (0 ≤ a4 + 2 ∧ a4 + 2 < L) ∧ ((M 35 (a4 + 2) = 0 → pm_X L (82, 0, [some (.inr (.inl 24)), some (.inl (M 35 (a4 + 1))), some (.inl 0), none], [], M) (pm_back (pm_X L) 95 642 [some (.inr (.inl 35)), some (.inr (.inl 0)), some (.inr (.inl 24)), some (.inr (.inl 34)), some (.inl a4), some (.inl r), o6] [] Q)) ∧ (¬ (M 35 (a4 + 2) = 0) → pm_X L (82, 0, [some (.inr (.inl 24)), some (.inl (M 35 (a4 + 1))), some (.inl 1), none], [], M) (pm_back (pm_X L) 95 642 [some (.inr (.inl 35)), some (.inr (.inl 0)), some (.inr (.inl 24)), some (.inr (.inl 34)), some (.inl a4), some (.inl r), o6] [] Q)))) :
    pm_X L (95, 619, [some (.inr (.inl 35)), some (.inr (.inl 0)), some (.inr (.inl 24)), some (.inr (.inl 34)), some (.inl a4), o5, o6], [.inl r], M) Q := by
  refine x_istore i_95_619 (Nat.le_of_ble_eq_true rfl) rfl rfl ?_
  refine x_aload_n i_95_621 rfl rfl ?_
  refine x_aload_n i_95_622 rfl rfl ?_
  refine x_iload i_95_623 rfl rfl ?_
  refine x_iconst i_95_625 (by decide) rfl ?_
  obtain ⟨q1, h⟩ := h
  refine x_iadd i_95_626 rfl q1 ?_
  obtain ⟨q2, h⟩ := h
  refine x_iaload (v := M 35 (a4 + 1)) i_95_627 g_35 (rfl) rfl q2 ?_
  refine x_aload_n i_95_628 rfl rfl ?_
  refine x_iload i_95_629 rfl rfl ?_
  refine x_iconst i_95_631 (by decide) rfl ?_
  obtain ⟨q3, h⟩ := h
  refine x_iadd i_95_632 rfl q3 ?_
  obtain ⟨q4, h⟩ := h
  refine x_iaload (v := M 35 (a4 + 2)) i_95_633 g_35 (rfl) rfl q4 ?_
  refine x_if (C := M 35 (a4 + 2) = 0) i_95_634 rfl Iff.rfl rfl ⟨fun c5 => ?_, fun c5 => ?_⟩
  · replace h := h.1 c5
    refine x_iconst i_95_641 (by decide) rfl ?_
    refine x_callv (as := [.inl (M 35 (a4 + 1)), .inl 0]) (rest := []) i_95_642 k_95_98 rfl rfl rfl g_24 (Nat.le_of_ble_eq_true rfl) m_82 rfl h
  · replace h := h.2 c5
    refine x_iconst i_95_637 (by decide) rfl ?_
    refine x_goto i_95_638 rfl ?_
    refine x_callv (as := [.inl (M 35 (a4 + 1)), .inl 1]) (rest := []) i_95_642 k_95_98 rfl rfl rfl g_24 (Nat.le_of_ble_eq_true rfl) m_82 rfl h
/-! GateBenchLaw.law at 645 -/
theorem s_95_645 {L : Nat} {M : pm_M} {Q : pm_P} {a4 a5 r : Int} {o6 : Option pm_V}
    (h : ((M 24 0 = a5 → ((¬ a5 = 0 → (pm_R (a4 + 4)) ∧ pm_X L (95, 23, [some (.inr (.inl 35)), some (.inr (.inl 0)), some (.inr (.inl 24)), some (.inr (.inl 34)), some (.inl (a4 + 4)), some (.inl a5), some (.inl r)], [], M) Q) ∧ (¬ (¬ a5 = 0) → ((r = 0 → (((if M 34 0 < 0 then -1 else if M 34 0 = 0 then 0 else 1) = 0 → (pm_R (a4 + 4)) ∧ pm_X L (95, 23, [some (.inr (.inl 35)), some (.inr (.inl 0)), some (.inr (.inl 24)), some (.inr (.inl 34)), some (.inl (a4 + 4)), some (.inl a5), some (.inl r)], [], M) Q) ∧ (¬ ((if M 34 0 < 0 then -1 else if M 34 0 = 0 then 0 else 1) = 0) → Q (.inl (some (.inl 0))) M))) ∧ (¬ (r = 0) → (((if M 34 0 < 1 then -1 else if M 34 0 = 1 then 0 else 1) = 0 → (pm_R (a4 + 4)) ∧ pm_X L (95, 23, [some (.inr (.inl 35)), some (.inr (.inl 0)), some (.inr (.inl 24)), some (.inr (.inl 34)), some (.inl (a4 + 4)), some (.inl a5), some (.inl r)], [], M) Q) ∧ (¬ ((if M 34 0 < 1 then -1 else if M 34 0 = 1 then 0 else 1) = 0) → Q (.inl (some (.inl 0))) M))))))) ∧ (¬ (M 24 0 = a5) → Q (.inl (some (.inl 0))) M))) :
    pm_X L (95, 645, [some (.inr (.inl 35)), some (.inr (.inl 0)), some (.inr (.inl 24)), some (.inr (.inl 34)), some (.inl a4), some (.inl a5), o6], [.inl r], M) Q := by
  refine x_istore i_95_645 (Nat.le_of_ble_eq_true rfl) rfl rfl ?_
  refine x_aload_n i_95_647 rfl rfl ?_
  refine x_callv (as := []) (rest := []) i_95_648 k_95_58 rfl rfl rfl g_24 (Nat.le_of_ble_eq_true rfl) m_63 rfl ?_
  refine x_aload_n i_63_0 rfl rfl ?_
  refine x_geti (v := M 24 0) i_63_1 f_63_7 g_24 rfl (rfl) rfl ?_
  refine x_ireti i_63_4 r_63 ?_
  refine x_bki rfl ?_
  refine x_iload i_95_651 rfl rfl ?_
  refine x_icmp (C := M 24 0 = a5) i_95_653 rfl Iff.rfl rfl ⟨fun c1 => ?_, fun c1 => ?_⟩
  · replace h := h.1 c1
    refine x_iload i_95_658 rfl rfl ?_
    refine x_if (C := ¬ a5 = 0) i_95_660 rfl Iff.rfl rfl ⟨fun c2 => ?_, fun c2 => ?_⟩
    · replace h := h.1 c2
      refine x_goto i_95_682 rfl ?_
      obtain ⟨q3, h⟩ := h
      refine x_iinc i_95_786 rfl (by decide) rfl rfl q3 ?_
      refine x_goto i_95_789 rfl ?_
      exact h
    · replace h := h.2 c2
      refine x_aload_n i_95_663 rfl rfl ?_
      refine x_iconst i_95_664 (by decide) rfl ?_
      refine x_laload (v := M 34 0) i_95_665 g_34 (rfl) rfl (by decide) ?_
      refine x_iload i_95_666 rfl rfl ?_
      refine x_if (C := r = 0) i_95_668 rfl Iff.rfl rfl ⟨fun c4 => ?_, fun c4 => ?_⟩
      · replace h := h.1 c4
        refine x_lconst (y := 0) i_95_675 rfl rfl ?_
        refine x_lcmp i_95_676 rfl ?_
        refine x_if (C := (if M 34 0 < 0 then -1 else if M 34 0 = 0 then 0 else 1) = 0) i_95_677 rfl Iff.rfl rfl ⟨fun c5 => ?_, fun c5 => ?_⟩
        · replace h := h.1 c5
          refine x_goto i_95_682 rfl ?_
          obtain ⟨q6, h⟩ := h
          refine x_iinc i_95_786 rfl (by decide) rfl rfl q6 ?_
          refine x_goto i_95_789 rfl ?_
          exact h
        · replace h := h.2 c5
          refine x_iconst i_95_680 (by decide) rfl ?_
          exact x_iretz i_95_681 r_95 (by unfold pm_bit; decide) h
      · replace h := h.2 c4
        refine x_lconst (y := 1) i_95_671 rfl rfl ?_
        refine x_goto i_95_672 rfl ?_
        refine x_lcmp i_95_676 rfl ?_
        refine x_if (C := (if M 34 0 < 1 then -1 else if M 34 0 = 1 then 0 else 1) = 0) i_95_677 rfl Iff.rfl rfl ⟨fun c7 => ?_, fun c7 => ?_⟩
        · replace h := h.1 c7
          refine x_goto i_95_682 rfl ?_
          obtain ⟨q8, h⟩ := h
          refine x_iinc i_95_786 rfl (by decide) rfl rfl q8 ?_
          refine x_goto i_95_789 rfl ?_
          exact h
        · replace h := h.2 c7
          refine x_iconst i_95_680 (by decide) rfl ?_
          exact x_iretz i_95_681 r_95 (by unfold pm_bit; decide) h
  · replace h := h.2 c1
    refine x_iconst i_95_656 (by decide) rfl ?_
    exact x_iretz i_95_657 r_95 (by unfold pm_bit; decide) h
/-! GateBenchLaw.law at 696 -/
theorem s_95_696 {L : Nat} {M : pm_M} {Q : pm_P} {a4 r : Int} {o5 o6 : Option pm_V}
    (h : (pm_R (a4 + 1)) ∧ (0 ≤ a4 + 1 ∧ a4 + 1 < L) ∧ pm_X L (83, 0, [some (.inr (.inl 24)), some (.inl (M 35 (a4 + 1)))], [], M) (pm_back (pm_X L) 95 705 [some (.inr (.inl 35)), some (.inr (.inl 0)), some (.inr (.inl 24)), some (.inr (.inl 34)), some (.inl a4), some (.inl r), o6] [] Q)) :
    pm_X L (95, 696, [some (.inr (.inl 35)), some (.inr (.inl 0)), some (.inr (.inl 24)), some (.inr (.inl 34)), some (.inl a4), o5, o6], [.inl r], M) Q := by
  refine x_istore i_95_696 (Nat.le_of_ble_eq_true rfl) rfl rfl ?_
  refine x_aload_n i_95_698 rfl rfl ?_
  refine x_aload_n i_95_699 rfl rfl ?_
  refine x_iload i_95_700 rfl rfl ?_
  refine x_iconst i_95_702 (by decide) rfl ?_
  obtain ⟨q1, h⟩ := h
  refine x_iadd i_95_703 rfl q1 ?_
  obtain ⟨q2, h⟩ := h
  refine x_iaload (v := M 35 (a4 + 1)) i_95_704 g_35 (rfl) rfl q2 ?_
  refine x_callv (as := [.inl (M 35 (a4 + 1))]) (rest := []) i_95_705 k_95_101 rfl rfl rfl g_24 (Nat.le_of_ble_eq_true rfl) m_83 rfl h
/-! GateBenchLaw.law at 708 -/
theorem s_95_708 {L : Nat} {M : pm_M} {Q : pm_P} {a4 a5 r : Int} {o6 : Option pm_V}
    (h : ((M 24 0 = a5 → ((¬ a5 = 0 → (pm_R (a4 + 4)) ∧ pm_X L (95, 23, [some (.inr (.inl 35)), some (.inr (.inl 0)), some (.inr (.inl 24)), some (.inr (.inl 34)), some (.inl (a4 + 4)), some (.inl a5), some (.inl r)], [], M) Q) ∧ (¬ (¬ a5 = 0) → ((r = 0 → (((if M 34 0 < 0 then -1 else if M 34 0 = 0 then 0 else 1) = 0 → (pm_R (a4 + 4)) ∧ pm_X L (95, 23, [some (.inr (.inl 35)), some (.inr (.inl 0)), some (.inr (.inl 24)), some (.inr (.inl 34)), some (.inl (a4 + 4)), some (.inl a5), some (.inl r)], [], M) Q) ∧ (¬ ((if M 34 0 < 0 then -1 else if M 34 0 = 0 then 0 else 1) = 0) → Q (.inl (some (.inl 0))) M))) ∧ (¬ (r = 0) → (((if M 34 0 < 1 then -1 else if M 34 0 = 1 then 0 else 1) = 0 → (pm_R (a4 + 4)) ∧ pm_X L (95, 23, [some (.inr (.inl 35)), some (.inr (.inl 0)), some (.inr (.inl 24)), some (.inr (.inl 34)), some (.inl (a4 + 4)), some (.inl a5), some (.inl r)], [], M) Q) ∧ (¬ ((if M 34 0 < 1 then -1 else if M 34 0 = 1 then 0 else 1) = 0) → Q (.inl (some (.inl 0))) M))))))) ∧ (¬ (M 24 0 = a5) → Q (.inl (some (.inl 0))) M))) :
    pm_X L (95, 708, [some (.inr (.inl 35)), some (.inr (.inl 0)), some (.inr (.inl 24)), some (.inr (.inl 34)), some (.inl a4), some (.inl a5), o6], [.inl r], M) Q := by
  refine x_istore i_95_708 (Nat.le_of_ble_eq_true rfl) rfl rfl ?_
  refine x_aload_n i_95_710 rfl rfl ?_
  refine x_callv (as := []) (rest := []) i_95_711 k_95_58 rfl rfl rfl g_24 (Nat.le_of_ble_eq_true rfl) m_63 rfl ?_
  refine x_aload_n i_63_0 rfl rfl ?_
  refine x_geti (v := M 24 0) i_63_1 f_63_7 g_24 rfl (rfl) rfl ?_
  refine x_ireti i_63_4 r_63 ?_
  refine x_bki rfl ?_
  refine x_iload i_95_714 rfl rfl ?_
  refine x_icmp (C := M 24 0 = a5) i_95_716 rfl Iff.rfl rfl ⟨fun c1 => ?_, fun c1 => ?_⟩
  · replace h := h.1 c1
    refine x_iload i_95_721 rfl rfl ?_
    refine x_if (C := ¬ a5 = 0) i_95_723 rfl Iff.rfl rfl ⟨fun c2 => ?_, fun c2 => ?_⟩
    · replace h := h.1 c2
      refine x_goto i_95_745 rfl ?_
      obtain ⟨q3, h⟩ := h
      refine x_iinc i_95_786 rfl (by decide) rfl rfl q3 ?_
      refine x_goto i_95_789 rfl ?_
      exact h
    · replace h := h.2 c2
      refine x_aload_n i_95_726 rfl rfl ?_
      refine x_iconst i_95_727 (by decide) rfl ?_
      refine x_laload (v := M 34 0) i_95_728 g_34 (rfl) rfl (by decide) ?_
      refine x_iload i_95_729 rfl rfl ?_
      refine x_if (C := r = 0) i_95_731 rfl Iff.rfl rfl ⟨fun c4 => ?_, fun c4 => ?_⟩
      · replace h := h.1 c4
        refine x_lconst (y := 0) i_95_738 rfl rfl ?_
        refine x_lcmp i_95_739 rfl ?_
        refine x_if (C := (if M 34 0 < 0 then -1 else if M 34 0 = 0 then 0 else 1) = 0) i_95_740 rfl Iff.rfl rfl ⟨fun c5 => ?_, fun c5 => ?_⟩
        · replace h := h.1 c5
          refine x_goto i_95_745 rfl ?_
          obtain ⟨q6, h⟩ := h
          refine x_iinc i_95_786 rfl (by decide) rfl rfl q6 ?_
          refine x_goto i_95_789 rfl ?_
          exact h
        · replace h := h.2 c5
          refine x_iconst i_95_743 (by decide) rfl ?_
          exact x_iretz i_95_744 r_95 (by unfold pm_bit; decide) h
      · replace h := h.2 c4
        refine x_lconst (y := 1) i_95_734 rfl rfl ?_
        refine x_goto i_95_735 rfl ?_
        refine x_lcmp i_95_739 rfl ?_
        refine x_if (C := (if M 34 0 < 1 then -1 else if M 34 0 = 1 then 0 else 1) = 0) i_95_740 rfl Iff.rfl rfl ⟨fun c7 => ?_, fun c7 => ?_⟩
        · replace h := h.1 c7
          refine x_goto i_95_745 rfl ?_
          obtain ⟨q8, h⟩ := h
          refine x_iinc i_95_786 rfl (by decide) rfl rfl q8 ?_
          refine x_goto i_95_789 rfl ?_
          exact h
        · replace h := h.2 c7
          refine x_iconst i_95_743 (by decide) rfl ?_
          exact x_iretz i_95_744 r_95 (by unfold pm_bit; decide) h
  · replace h := h.2 c1
    refine x_iconst i_95_719 (by decide) rfl ?_
    exact x_iretz i_95_720 r_95 (by unfold pm_bit; decide) h
/-! GateBenchLaw.law at 752 -/
theorem s_95_752 {L : Nat} {M : pm_M} {Q : pm_P} {a4 r : Int} {o5 o6 : Option pm_V}
    (h : pm_X L (84, 0, [some (.inr (.inl 24))], [], M) (pm_back (pm_X L) 95 753 [some (.inr (.inl 35)), some (.inr (.inl 0)), some (.inr (.inl 24)), some (.inr (.inl 34)), some (.inl a4), o5, o6] [.inl r] Q)) :
    pm_X L (95, 752, [some (.inr (.inl 35)), some (.inr (.inl 0)), some (.inr (.inl 24)), some (.inr (.inl 34)), some (.inl a4), o5, o6], [.inl r], M) Q := by
  refine x_aload_n i_95_752 rfl rfl ?_
  refine x_callv (as := []) (rest := [.inl r]) i_95_753 k_95_105 rfl rfl rfl g_24 (Nat.le_of_ble_eq_true rfl) m_84 rfl h
/-! GateBenchLaw.law at 756 -/
theorem s_95_756 {L : Nat} {M : pm_M} {Q : pm_P} {a4 r t0 : Int} {o5 o6 : Option pm_V}
    (h : ((t0 = r → (pm_R (a4 + 4)) ∧ pm_X L (95, 23, [some (.inr (.inl 35)), some (.inr (.inl 0)), some (.inr (.inl 24)), some (.inr (.inl 34)), some (.inl (a4 + 4)), o5, o6], [], M) Q) ∧ (¬ (t0 = r) → Q (.inl (some (.inl 0))) M))) :
    pm_X L (95, 756, [some (.inr (.inl 35)), some (.inr (.inl 0)), some (.inr (.inl 24)), some (.inr (.inl 34)), some (.inl a4), o5, o6], [.inl r, .inl t0], M) Q := by
  refine x_icmp (C := t0 = r) i_95_756 rfl Iff.rfl rfl ⟨fun c1 => ?_, fun c1 => ?_⟩
  · replace h := h.1 c1
    obtain ⟨q2, h⟩ := h
    refine x_iinc i_95_786 rfl (by decide) rfl rfl q2 ?_
    refine x_goto i_95_789 rfl ?_
    exact h
  · replace h := h.2 c1
    refine x_iconst i_95_759 (by decide) rfl ?_
    exact x_iretz i_95_760 r_95 (by unfold pm_bit; decide) h
/-! GateBenchLaw.law at 771 -/
theorem s_95_771 {L : Nat} {M : pm_M} {Q : pm_P} {a4 r : Int} {o5 o6 : Option pm_V}
    (h : (pm_R (a4 + 1)) ∧ (0 ≤ a4 + 1 ∧ a4 + 1 < L) ∧ pm_X L (85, 0, [some (.inr (.inl 24)), some (.inl (M 35 (a4 + 1)))], [], M) (pm_back (pm_X L) 95 778 [some (.inr (.inl 35)), some (.inr (.inl 0)), some (.inr (.inl 24)), some (.inr (.inl 34)), some (.inl a4), o5, o6] [.inl r] Q)) :
    pm_X L (95, 771, [some (.inr (.inl 35)), some (.inr (.inl 0)), some (.inr (.inl 24)), some (.inr (.inl 34)), some (.inl a4), o5, o6], [.inl r], M) Q := by
  refine x_aload_n i_95_771 rfl rfl ?_
  refine x_aload_n i_95_772 rfl rfl ?_
  refine x_iload i_95_773 rfl rfl ?_
  refine x_iconst i_95_775 (by decide) rfl ?_
  obtain ⟨q1, h⟩ := h
  refine x_iadd i_95_776 rfl q1 ?_
  obtain ⟨q2, h⟩ := h
  refine x_iaload (v := M 35 (a4 + 1)) i_95_777 g_35 (rfl) rfl q2 ?_
  refine x_callv (as := [.inl (M 35 (a4 + 1))]) (rest := [.inl r]) i_95_778 k_95_109 rfl rfl rfl g_24 (Nat.le_of_ble_eq_true rfl) m_85 rfl h
/-! GateBenchLaw.law at 781 -/
theorem s_95_781 {L : Nat} {M : pm_M} {Q : pm_P} {a4 r t0 : Int} {o5 o6 : Option pm_V}
    (h : ((t0 = r → (pm_R (a4 + 4)) ∧ pm_X L (95, 23, [some (.inr (.inl 35)), some (.inr (.inl 0)), some (.inr (.inl 24)), some (.inr (.inl 34)), some (.inl (a4 + 4)), o5, o6], [], M) Q) ∧ (¬ (t0 = r) → Q (.inl (some (.inl 0))) M))) :
    pm_X L (95, 781, [some (.inr (.inl 35)), some (.inr (.inl 0)), some (.inr (.inl 24)), some (.inr (.inl 34)), some (.inl a4), o5, o6], [.inl r, .inl t0], M) Q := by
  refine x_icmp (C := t0 = r) i_95_781 rfl Iff.rfl rfl ⟨fun c1 => ?_, fun c1 => ?_⟩
  · replace h := h.1 c1
    obtain ⟨q2, h⟩ := h
    refine x_iinc i_95_786 rfl (by decide) rfl rfl q2 ?_
    refine x_goto i_95_789 rfl ?_
    exact h
  · replace h := h.2 c1
    refine x_iconst i_95_784 (by decide) rfl ?_
    exact x_iretz i_95_785 r_95 (by unfold pm_bit; decide) h
