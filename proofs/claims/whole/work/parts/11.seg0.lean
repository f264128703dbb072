/-! GateBench.input at 0 -/
theorem s_0_0 {L : Nat} {M : pm_M} {Q : pm_P}
    (h : ((¬ M 1 7 = 12 → ((¬ M 1 6 = 2000 → (0 ≤ M 1 7 ∧ M 1 7 < 12) ∧ (pm_R (M 1 7 + 1)) ∧ (0 ≤ M 1 6 ∧ M 1 6 < 2000) ∧ (pm_R (M 1 6 + 1)) ∧ Q (.inl (some (.inl (M 1 6)))) (pm_set (pm_set (pm_set (pm_set (pm_set (pm_set M 12 (M 1 7) (M 1 6)) 1 7 (M 1 7 + 1)) 7 (M 1 6) (-1)) 8 (M 1 6) 0) 9 (M 1 6) 0) 1 6 (M 1 6 + 1))) ∧ (¬ (¬ M 1 6 = 2000) → (1 ≤ M 99 0) ∧ Q (.inr 1) (pm_set M 99 0 (M 99 0 - 1))))) ∧ (¬ (¬ M 1 7 = 12) → (1 ≤ M 99 0) ∧ Q (.inr 1) (pm_set M 99 0 (M 99 0 - 1))))) :
    pm_X L (0, 0, [some (.inr (.inl 0))], [], M) Q := by
  refine x_aload_n i_0_0 rfl rfl ?_
  refine x_getr i_0_1 f_0_12 g_0 rfl rfl ?_
  refine x_geti (v := M 1 7) i_0_4 f_0_45 g_1 rfl (rfl) rfl ?_
  refine x_bipush i_0_7 (by decide) rfl ?_
  refine x_icmp (C := ¬ M 1 7 = 12) i_0_9 rfl Iff.rfl rfl ⟨fun c1 => ?_, fun c1 => ?_⟩
  · replace h := h.1 c1
    refine x_aload_n i_0_22 rfl rfl ?_
    refine x_callv (as := []) (rest := []) i_0_23 k_0_56 rfl rfl rfl g_0 (Nat.le_of_ble_eq_true rfl) m_18 rfl ?_
    refine x_aload_n i_18_0 rfl rfl ?_
    refine x_getr i_18_1 f_18_12 g_0 rfl rfl ?_
    refine x_geti (v := M 1 6) i_18_4 f_18_126 g_1 rfl (rfl) rfl ?_
    refine x_sipush i_18_7 (by decide) rfl ?_
    refine x_icmp (C := ¬ M 1 6 = 2000) i_18_10 rfl Iff.rfl rfl ⟨fun c2 => ?_, fun c2 => ?_⟩
    · replace h := h.1 c2
      refine x_ret i_18_23 r_18 ?_
      refine x_bkv rfl ?_
      refine x_aload_n i_0_26 rfl rfl ?_
      refine x_getr i_0_27 f_0_12 g_0 rfl rfl ?_
      refine x_callv (as := []) (rest := []) i_0_30 k_0_59 rfl rfl rfl g_1 (Nat.le_of_ble_eq_true rfl) m_24 rfl ?_
      refine x_aload_n i_24_0 rfl rfl ?_
      refine x_getr i_24_1 f_24_28 g_1 rfl rfl ?_
      refine x_aload_n i_24_4 rfl rfl ?_
      refine x_geti (v := M 1 7) i_24_5 f_24_35 g_1 rfl (rfl) rfl ?_
      refine x_aload_n i_24_8 rfl rfl ?_
      refine x_geti (v := M 1 6) i_24_9 f_24_31 g_1 rfl (rfl) rfl ?_
      obtain ⟨q3, h⟩ := h
      refine x_iastore i_24_12 g_12 rfl q3 ?_
      refine x_aload_n i_24_13 rfl rfl ?_
      refine x_dup i_24_14 rfl rfl ?_
      refine x_geti (v := M 1 7) i_24_15 f_24_35 g_1 rfl (pm_get_c (by decide) rfl) rfl ?_
      refine x_iconst i_24_18 (by decide) rfl ?_
      obtain ⟨q4, h⟩ := h
      refine x_iadd i_24_19 rfl q4 ?_
      refine x_puti i_24_20 f_24_35 g_1 rfl rfl ?_
      refine x_aload_n i_24_23 rfl rfl ?_
      refine x_iconst i_24_24 (by decide) rfl ?_
      refine x_iconst i_24_25 (by decide) rfl ?_
      refine x_iconst i_24_26 (by decide) rfl ?_
      refine x_callv (as := [.inl (-1), .inl 0, .inl 0]) (rest := []) i_24_27 k_24_38 rfl rfl rfl g_1 (Nat.le_of_ble_eq_true rfl) m_25 rfl ?_
      refine x_aload_n i_25_0 rfl rfl ?_
      refine x_geti (v := M 1 6) i_25_1 f_25_31 g_1 rfl (pm_get_j (by decide) (pm_get_c (by decide) rfl)) rfl ?_
      refine x_istore i_25_4 (Nat.le_of_ble_eq_true rfl) rfl rfl ?_
      refine x_aload_n i_25_6 rfl rfl ?_
      refine x_getr i_25_7 f_25_9 g_1 rfl rfl ?_
      refine x_iload i_25_10 rfl rfl ?_
      refine x_iload_n i_25_12 rfl rfl ?_
      obtain ⟨q5, h⟩ := h
      refine x_iastore i_25_13 g_7 rfl q5 ?_
      refine x_aload_n i_25_14 rfl rfl ?_
      refine x_getr i_25_15 f_25_15 g_1 rfl rfl ?_
      refine x_iload i_25_18 rfl rfl ?_
      refine x_iload_n i_25_20 rfl rfl ?_
      refine x_iastore i_25_21 g_8 rfl q5 ?_
      refine x_aload_n i_25_22 rfl rfl ?_
      refine x_getr i_25_23 f_25_18 g_1 rfl rfl ?_
      refine x_iload i_25_26 rfl rfl ?_
      refine x_iload_n i_25_28 rfl rfl ?_
      refine x_iastore i_25_29 g_9 rfl q5 ?_
      refine x_aload_n i_25_30 rfl rfl ?_
      refine x_dup i_25_31 rfl rfl ?_
      refine x_geti (v := M 1 6) i_25_32 f_25_31 g_1 rfl (pm_get_c (by decide) (pm_get_c (by decide) (pm_get_c (by decide) (pm_get_j (by decide) (pm_get_c (by decide) rfl))))) rfl ?_
      refine x_iconst i_25_35 (by decide) rfl ?_
      obtain ⟨q6, h⟩ := h
      refine x_iadd i_25_36 rfl q6 ?_
      refine x_puti i_25_37 f_25_31 g_1 rfl rfl ?_
      refine x_iload i_25_40 rfl rfl ?_
      refine x_ireti i_25_42 r_25 ?_
      refine x_bki rfl ?_
      refine x_ireti i_24_30 r_24 ?_
      refine x_bki rfl ?_
      exact x_ireti i_0_33 r_0 h
    · replace h := h.2 c2
      obtain ⟨q7, h⟩ := h
      refine x_throw i_18_13 t_18_13 q7 ?_
      refine x_bkt rfl (by decide) ?_
      exact h
  · replace h := h.2 c1
    obtain ⟨q8, h⟩ := h
    refine x_throw i_0_12 t_0_12 q8 ?_
    exact h
/-! GateBench.not at 0 -/
theorem s_1_0 {L : Nat} {M : pm_M} {Q : pm_P} {a1 : Int}
    (h : ((a1 < 0 → (1 ≤ M 99 0) ∧ Q (.inr 0) (pm_set M 99 0 (M 99 0 - 1))) ∧ (¬ (a1 < 0) → ((a1 < M 1 6 → ((¬ M 1 6 = 2000 → (pm_R (2 * a1)) ∧ (0 ≤ M 1 6 ∧ M 1 6 < 2000) ∧ (pm_R (M 1 6 + 1)) ∧ Q (.inl (some (.inl (M 1 6)))) (pm_set (pm_set (pm_set (pm_set M 7 (M 1 6) (2 * a1)) 8 (M 1 6) 0) 9 (M 1 6) 1) 1 6 (M 1 6 + 1))) ∧ (¬ (¬ M 1 6 = 2000) → (1 ≤ M 99 0) ∧ Q (.inr 1) (pm_set M 99 0 (M 99 0 - 1))))) ∧ (¬ (a1 < M 1 6) → (1 ≤ M 99 0) ∧ Q (.inr 0) (pm_set M 99 0 (M 99 0 - 1))))))) :
    pm_X L (1, 0, [some (.inr (.inl 0)), some (.inl a1)], [], M) Q := by
  refine x_aload_n i_1_0 rfl rfl ?_
  refine x_iload_n i_1_1 rfl rfl ?_
  refine x_callv (as := [.inl a1]) (rest := []) i_1_2 k_1_63 rfl rfl rfl g_0 (Nat.le_of_ble_eq_true rfl) m_17 rfl ?_
  refine x_iload_n i_17_0 rfl rfl ?_
  refine x_if (C := a1 < 0) i_17_1 rfl Iff.rfl rfl ⟨fun c1 => ?_, fun c1 => ?_⟩
  · replace h := h.1 c1
    obtain ⟨q2, h⟩ := h
    refine x_throw i_17_15 t_17_15 q2 ?_
    refine x_bkt rfl (by decide) ?_
    exact h
  · replace h := h.2 c1
    refine x_iload_n i_17_4 rfl rfl ?_
    refine x_aload_n i_17_5 rfl rfl ?_
    refine x_getr i_17_6 f_17_12 g_0 rfl rfl ?_
    refine x_geti (v := M 1 6) i_17_9 f_17_126 g_1 rfl (rfl) rfl ?_
    refine x_icmp (C := a1 < M 1 6) i_17_12 rfl Iff.rfl rfl ⟨fun c3 => ?_, fun c3 => ?_⟩
    · replace h := h.1 c3
      refine x_ret i_17_25 r_17 ?_
      refine x_bkv rfl ?_
      refine x_aload_n i_1_5 rfl rfl ?_
      refine x_callv (as := []) (rest := []) i_1_6 k_1_56 rfl rfl rfl g_0 (Nat.le_of_ble_eq_true rfl) m_18 rfl ?_
      refine x_aload_n i_18_0 rfl rfl ?_
      refine x_getr i_18_1 f_18_12 g_0 rfl rfl ?_
      refine x_geti (v := M 1 6) i_18_4 f_18_126 g_1 rfl (rfl) rfl ?_
      refine x_sipush i_18_7 (by decide) rfl ?_
      refine x_icmp (C := ¬ M 1 6 = 2000) i_18_10 rfl Iff.rfl rfl ⟨fun c4 => ?_, fun c4 => ?_⟩
      · replace h := h.1 c4
        refine x_ret i_18_23 r_18 ?_
        refine x_bkv rfl ?_
        refine x_aload_n i_1_9 rfl rfl ?_
        refine x_getr i_1_10 f_1_12 g_0 rfl rfl ?_
        refine x_iload_n i_1_13 rfl rfl ?_
        refine x_calls (as := [.inl a1]) (rest := [.inr (.inl 1)]) i_1_14 k_1_67 rfl rfl rfl (Nat.le_of_ble_eq_true rfl) m_14 rfl ?_
        refine x_iconst i_14_0 (by decide) rfl ?_
        refine x_iload_n i_14_1 rfl rfl ?_
        obtain ⟨q5, h⟩ := h
        refine x_imul i_14_2 rfl q5 ?_
        refine x_ireti i_14_3 r_14 ?_
        refine x_bki rfl ?_
        refine x_iconst i_1_17 (by decide) rfl ?_
        refine x_iconst i_1_18 (by decide) rfl ?_
        refine x_callv (as := [.inl (2 * a1), .inl 0, .inl 1]) (rest := []) i_1_19 k_1_71 rfl rfl rfl g_1 (Nat.le_of_ble_eq_true rfl) m_25 rfl ?_
        refine x_aload_n i_25_0 rfl rfl ?_
        refine x_geti (v := M 1 6) i_25_1 f_25_31 g_1 rfl (rfl) rfl ?_
        refine x_istore i_25_4 (Nat.le_of_ble_eq_true rfl) rfl rfl ?_
        refine x_aload_n i_25_6 rfl rfl ?_
        refine x_getr i_25_7 f_25_9 g_1 rfl rfl ?_
        refine x_iload i_25_10 rfl rfl ?_
        refine x_iload_n i_25_12 rfl rfl ?_
        obtain ⟨q6, h⟩ := h
        refine x_iastore i_25_13 g_7 rfl q6 ?_
        refine x_aload_n i_25_14 rfl rfl ?_
        refine x_getr i_25_15 f_25_15 g_1 rfl rfl ?_
        refine x_iload i_25_18 rfl rfl ?_
        refine x_iload_n i_25_20 rfl rfl ?_
        refine x_iastore i_25_21 g_8 rfl q6 ?_
        refine x_aload_n i_25_22 rfl rfl ?_
        refine x_getr i_25_23 f_25_18 g_1 rfl rfl ?_
        refine x_iload i_25_26 rfl rfl ?_
        refine x_iload_n i_25_28 rfl rfl ?_
        refine x_iastore i_25_29 g_9 rfl q6 ?_
        refine x_aload_n i_25_30 rfl rfl ?_
        refine x_dup i_25_31 rfl rfl ?_
        refine x_geti (v := M 1 6) i_25_32 f_25_31 g_1 rfl (pm_get_c (by decide) (pm_get_c (by decide) (pm_get_c (by decide) rfl))) rfl ?_
        refine x_iconst i_25_35 (by decide) rfl ?_
        obtain ⟨q7, h⟩ := h
        refine x_iadd i_25_36 rfl q7 ?_
        refine x_puti i_25_37 f_25_31 g_1 rfl rfl ?_
        refine x_iload i_25_40 rfl rfl ?_
        refine x_ireti i_25_42 r_25 ?_
        refine x_bki rfl ?_
        exact x_ireti i_1_22 r_1 h
      · replace h := h.2 c4
        obtain ⟨q8, h⟩ := h
        refine x_throw i_18_13 t_18_13 q8 ?_
        refine x_bkt rfl (by decide) ?_
        exact h
    · replace h := h.2 c3
      obtain ⟨q9, h⟩ := h
      refine x_throw i_17_15 t_17_15 q9 ?_
      refine x_bkt rfl (by decide) ?_
      exact h
/-! GateBench.join at 0 -/
theorem s_2_0 {L : Nat} {M : pm_M} {Q : pm_P} {a1 a2 a3 : Int}
    (h : ((a2 < 0 → (1 ≤ M 99 0) ∧ Q (.inr 0) (pm_set M 99 0 (M 99 0 - 1))) ∧ (¬ (a2 < 0) → ((a2 < M 1 6 → ((a3 < 0 → (1 ≤ M 99 0) ∧ Q (.inr 0) (pm_set M 99 0 (M 99 0 - 1))) ∧ (¬ (a3 < 0) → ((a3 < M 1 6 → ((a1 = 0 → ((¬ M 1 6 = 2000 → ((¬ a1 = 0 → ((¬ a1 = 1 → (pm_R (2 * a2)) ∧ (pm_R (2 * a3)) ∧ (0 ≤ M 1 6 ∧ M 1 6 < 2000) ∧ (pm_R (M 1 6 + 1)) ∧ Q (.inl (some (.inl (M 1 6)))) (pm_set (pm_set (pm_set (pm_set M 7 (M 1 6) (2 * a2)) 8 (M 1 6) (pm_op (2 * a3))) 9 (M 1 6) (2 * a3)) 1 6 (M 1 6 + 1))) ∧ (¬ (¬ a1 = 1) → (pm_R (2 * a2)) ∧ (pm_R (2 * a3)) ∧ (0 ≤ M 1 6 ∧ M 1 6 < 2000) ∧ (pm_R (M 1 6 + 1)) ∧ Q (.inl (some (.inl (M 1 6)))) (pm_set (pm_set (pm_set (pm_set M 7 (M 1 6) (2 * a2)) 8 (M 1 6) 1) 9 (M 1 6) (2 * a3)) 1 6 (M 1 6 + 1))))) ∧ (¬ (¬ a1 = 0) → (pm_R (2 * a2)) ∧ (pm_R (2 * a3)) ∧ (0 ≤ M 1 6 ∧ M 1 6 < 2000) ∧ (pm_R (M 1 6 + 1)) ∧ Q (.inl (some (.inl (M 1 6)))) (pm_set (pm_set (pm_set (pm_set M 7 (M 1 6) (2 * a2)) 8 (M 1 6) (2 * a3)) 9 (M 1 6) 0) 1 6 (M 1 6 + 1))))) ∧ (¬ (¬ M 1 6 = 2000) → (1 ≤ M 99 0) ∧ Q (.inr 1) (pm_set M 99 0 (M 99 0 - 1))))) ∧ (¬ (a1 = 0) → ((a1 = 1 → ((¬ M 1 6 = 2000 → ((¬ a1 = 1 → (pm_R (2 * a2)) ∧ (pm_R (2 * a3)) ∧ (0 ≤ M 1 6 ∧ M 1 6 < 2000) ∧ (pm_R (M 1 6 + 1)) ∧ Q (.inl (some (.inl (M 1 6)))) (pm_set (pm_set (pm_set (pm_set M 7 (M 1 6) (2 * a2)) 8 (M 1 6) (pm_op (2 * a3))) 9 (M 1 6) (2 * a3)) 1 6 (M 1 6 + 1))) ∧ (¬ (¬ a1 = 1) → (pm_R (2 * a2)) ∧ (pm_R (2 * a3)) ∧ (0 ≤ M 1 6 ∧ M 1 6 < 2000) ∧ (pm_R (M 1 6 + 1)) ∧ Q (.inl (some (.inl (M 1 6)))) (pm_set (pm_set (pm_set (pm_set M 7 (M 1 6) (2 * a2)) 8 (M 1 6) 1) 9 (M 1 6) (2 * a3)) 1 6 (M 1 6 + 1))))) ∧ (¬ (¬ M 1 6 = 2000) → (1 ≤ M 99 0) ∧ Q (.inr 1) (pm_set M 99 0 (M 99 0 - 1))))) ∧ (¬ (a1 = 1) → ((a1 = 2 → ((¬ M 1 6 = 2000 → (pm_R (2 * a2)) ∧ (pm_R (2 * a3)) ∧ (0 ≤ M 1 6 ∧ M 1 6 < 2000) ∧ (pm_R (M 1 6 + 1)) ∧ Q (.inl (some (.inl (M 1 6)))) (pm_set (pm_set (pm_set (pm_set M 7 (M 1 6) (2 * a2)) 8 (M 1 6) (pm_op (2 * a3))) 9 (M 1 6) (2 * a3)) 1 6 (M 1 6 + 1))) ∧ (¬ (¬ M 1 6 = 2000) → (1 ≤ M 99 0) ∧ Q (.inr 1) (pm_set M 99 0 (M 99 0 - 1))))) ∧ (¬ (a1 = 2) → (1 ≤ M 99 0) ∧ Q (.inr 2) (pm_set M 99 0 (M 99 0 - 1))))))))) ∧ (¬ (a3 < M 1 6) → (1 ≤ M 99 0) ∧ Q (.inr 0) (pm_set M 99 0 (M 99 0 - 1))))))) ∧ (¬ (a2 < M 1 6) → (1 ≤ M 99 0) ∧ Q (.inr 0) (pm_set M 99 0 (M 99 0 - 1))))))) :
    pm_X L (2, 0, [some (.inr (.inl 0)), some (.inl a1), some (.inl a2), some (.inl a3)], [], M) Q := by
  refine x_aload_n i_2_0 rfl rfl ?_
  refine x_iload_n i_2_1 rfl rfl ?_
  refine x_callv (as := [.inl a2]) (rest := []) i_2_2 k_2_63 rfl rfl rfl g_0 (Nat.le_of_ble_eq_true rfl) m_17 rfl ?_
  refine x_iload_n i_17_0 rfl rfl ?_
  refine x_if (C := a2 < 0) i_17_1 rfl Iff.rfl rfl ⟨fun c1 => ?_, fun c1 => ?_⟩
  · replace h := h.1 c1
    obtain ⟨q2, h⟩ := h
    refine x_throw i_17_15 t_17_15 q2 ?_
    refine x_bkt rfl (by decide) ?_
    exact h
  · replace h := h.2 c1
    refine x_iload_n i_17_4 rfl rfl ?_
    refine x_aload_n i_17_5 rfl rfl ?_
    refine x_getr i_17_6 f_17_12 g_0 rfl rfl ?_
    refine x_geti (v := M 1 6) i_17_9 f_17_126 g_1 rfl (rfl) rfl ?_
    refine x_icmp (C := a2 < M 1 6) i_17_12 rfl Iff.rfl rfl ⟨fun c3 => ?_, fun c3 => ?_⟩
    · replace h := h.1 c3
      refine x_ret i_17_25 r_17 ?_
      refine x_bkv rfl ?_
      refine x_aload_n i_2_5 rfl rfl ?_
      refine x_iload_n i_2_6 rfl rfl ?_
      refine x_callv (as := [.inl a3]) (rest := []) i_2_7 k_2_63 rfl rfl rfl g_0 (Nat.le_of_ble_eq_true rfl) m_17 rfl ?_
      refine x_iload_n i_17_0 rfl rfl ?_
      refine x_if (C := a3 < 0) i_17_1 rfl Iff.rfl rfl ⟨fun c4 => ?_, fun c4 => ?_⟩
      · replace h := h.1 c4
        obtain ⟨q5, h⟩ := h
        refine x_throw i_17_15 t_17_15 q5 ?_
        refine x_bkt rfl (by decide) ?_
        exact h
      · replace h := h.2 c4
        refine x_iload_n i_17_4 rfl rfl ?_
        refine x_aload_n i_17_5 rfl rfl ?_
        refine x_getr i_17_6 f_17_12 g_0 rfl rfl ?_
        refine x_geti (v := M 1 6) i_17_9 f_17_126 g_1 rfl (rfl) rfl ?_
        refine x_icmp (C := a3 < M 1 6) i_17_12 rfl Iff.rfl rfl ⟨fun c6 => ?_, fun c6 => ?_⟩
        · replace h := h.1 c6
          refine x_ret i_17_25 r_17 ?_
          refine x_bkv rfl ?_
          refine x_iload_n i_2_10 rfl rfl ?_
          refine x_if (C := a1 = 0) i_2_11 rfl Iff.rfl rfl ⟨fun c7 => ?_, fun c7 => ?_⟩
          · replace h := h.1 c7
            refine x_aload_n i_2_34 rfl rfl ?_
            refine x_callv (as := []) (rest := []) i_2_35 k_2_56 rfl rfl rfl g_0 (Nat.le_of_ble_eq_true rfl) m_18 rfl ?_
            refine x_aload_n i_18_0 rfl rfl ?_
            refine x_getr i_18_1 f_18_12 g_0 rfl rfl ?_
            refine x_geti (v := M 1 6) i_18_4 f_18_126 g_1 rfl (rfl) rfl ?_
            refine x_sipush i_18_7 (by decide) rfl ?_
            refine x_icmp (C := ¬ M 1 6 = 2000) i_18_10 rfl Iff.rfl rfl ⟨fun c8 => ?_, fun c8 => ?_⟩
            · replace h := h.1 c8
              refine x_ret i_18_23 r_18 ?_
              refine x_bkv rfl ?_
              refine x_iload_n i_2_38 rfl rfl ?_
              refine x_if (C := ¬ a1 = 0) i_2_39 rfl Iff.rfl rfl ⟨fun c9 => ?_, fun c9 => ?_⟩
              · replace h := h.1 c9
                refine x_iload_n i_2_59 rfl rfl ?_
                refine x_iconst i_2_60 (by decide) rfl ?_
                refine x_icmp (C := ¬ a1 = 1) i_2_61 rfl Iff.rfl rfl ⟨fun c10 => ?_, fun c10 => ?_⟩
                · replace h := h.1 c10
                  refine x_aload_n i_2_81 rfl rfl ?_
                  refine x_getr i_2_82 f_2_12 g_0 rfl rfl ?_
                  refine x_iload_n i_2_85 rfl rfl ?_
                  refine x_calls (as := [.inl a2]) (rest := [.inr (.inl 1)]) i_2_86 k_2_67 rfl rfl rfl (Nat.le_of_ble_eq_true rfl) m_14 rfl ?_
                  refine x_iconst i_14_0 (by decide) rfl ?_
                  refine x_iload_n i_14_1 rfl rfl ?_
                  obtain ⟨q11, h⟩ := h
                  refine x_imul i_14_2 rfl q11 ?_
                  refine x_ireti i_14_3 r_14 ?_
                  refine x_bki rfl ?_
                  refine x_iload_n i_2_89 rfl rfl ?_
                  refine x_calls (as := [.inl a3]) (rest := [.inl (2 * a2), .inr (.inl 1)]) i_2_90 k_2_67 rfl rfl rfl (Nat.le_of_ble_eq_true rfl) m_14 rfl ?_
                  refine x_iconst i_14_0 (by decide) rfl ?_
                  refine x_iload_n i_14_1 rfl rfl ?_
                  obtain ⟨q12, h⟩ := h
                  refine x_imul i_14_2 rfl q12 ?_
                  refine x_ireti i_14_3 r_14 ?_
                  refine x_bki rfl ?_
                  refine x_calls (as := [.inl (2 * a3)]) (rest := [.inl (2 * a2), .inr (.inl 1)]) i_2_93 k_2_80 rfl rfl rfl (Nat.le_of_ble_eq_true rfl) m_15 rfl ?_
                  refine x_iload_n i_15_0 rfl rfl ?_
                  refine x_iconst i_15_1 (by decide) rfl ?_
                  refine x_ixor i_15_2 rfl ?_
                  refine x_ireti i_15_3 r_15 ?_
                  refine x_bki rfl ?_
                  refine x_iload_n i_2_96 rfl rfl ?_
                  refine x_calls (as := [.inl a3]) (rest := [.inl (pm_op (2 * a3)), .inl (2 * a2), .inr (.inl 1)]) i_2_97 k_2_67 rfl rfl rfl (Nat.le_of_ble_eq_true rfl) m_14 rfl ?_
                  refine x_iconst i_14_0 (by decide) rfl ?_
                  refine x_iload_n i_14_1 rfl rfl ?_
                  refine x_imul i_14_2 rfl q12 ?_
                  refine x_ireti i_14_3 r_14 ?_
                  refine x_bki rfl ?_
                  refine x_callv (as := [.inl (2 * a2), .inl (pm_op (2 * a3)), .inl (2 * a3)]) (rest := []) i_2_100 k_2_71 rfl rfl rfl g_1 (Nat.le_of_ble_eq_true rfl) m_25 rfl ?_
                  refine x_aload_n i_25_0 rfl rfl ?_
                  refine x_geti (v := M 1 6) i_25_1 f_25_31 g_1 rfl (rfl) rfl ?_
                  refine x_istore i_25_4 (Nat.le_of_ble_eq_true rfl) rfl rfl ?_
                  refine x_aload_n i_25_6 rfl rfl ?_
                  refine x_getr i_25_7 f_25_9 g_1 rfl rfl ?_
                  refine x_iload i_25_10 rfl rfl ?_
                  refine x_iload_n i_25_12 rfl rfl ?_
                  obtain ⟨q13, h⟩ := h
                  refine x_iastore i_25_13 g_7 rfl q13 ?_
                  refine x_aload_n i_25_14 rfl rfl ?_
                  refine x_getr i_25_15 f_25_15 g_1 rfl rfl ?_
                  refine x_iload i_25_18 rfl rfl ?_
                  refine x_iload_n i_25_20 rfl rfl ?_
                  refine x_iastore i_25_21 g_8 rfl q13 ?_
                  refine x_aload_n i_25_22 rfl rfl ?_
                  refine x_getr i_25_23 f_25_18 g_1 rfl rfl ?_
                  refine x_iload i_25_26 rfl rfl ?_
                  refine x_iload_n i_25_28 rfl rfl ?_
                  refine x_iastore i_25_29 g_9 rfl q13 ?_
                  refine x_aload_n i_25_30 rfl rfl ?_
                  refine x_dup i_25_31 rfl rfl ?_
                  refine x_geti (v := M 1 6) i_25_32 f_25_31 g_1 rfl (pm_get_c (by decide) (pm_get_c (by decide) (pm_get_c (by decide) rfl))) rfl ?_
                  refine x_iconst i_25_35 (by decide) rfl ?_
                  obtain ⟨q14, h⟩ := h
                  refine x_iadd i_25_36 rfl q14 ?_
                  refine x_puti i_25_37 f_25_31 g_1 rfl rfl ?_
                  refine x_iload i_25_40 rfl rfl ?_
                  refine x_ireti i_25_42 r_25 ?_
                  refine x_bki rfl ?_
                  exact x_ireti i_2_103 r_2 h
                · replace h := h.2 c10
                  refine x_aload_n i_2_64 rfl rfl ?_
                  refine x_getr i_2_65 f_2_12 g_0 rfl rfl ?_
                  refine x_iload_n i_2_68 rfl rfl ?_
                  refine x_calls (as := [.inl a2]) (rest := [.inr (.inl 1)]) i_2_69 k_2_67 rfl rfl rfl (Nat.le_of_ble_eq_true rfl) m_14 rfl ?_
                  refine x_iconst i_14_0 (by decide) rfl ?_
                  refine x_iload_n i_14_1 rfl rfl ?_
                  obtain ⟨q15, h⟩ := h
                  refine x_imul i_14_2 rfl q15 ?_
                  refine x_ireti i_14_3 r_14 ?_
                  refine x_bki rfl ?_
                  refine x_iconst i_2_72 (by decide) rfl ?_
                  refine x_iload_n i_2_73 rfl rfl ?_
                  refine x_calls (as := [.inl a3]) (rest := [.inl 1, .inl (2 * a2), .inr (.inl 1)]) i_2_74 k_2_67 rfl rfl rfl (Nat.le_of_ble_eq_true rfl) m_14 rfl ?_
                  refine x_iconst i_14_0 (by decide) rfl ?_
                  refine x_iload_n i_14_1 rfl rfl ?_
                  obtain ⟨q16, h⟩ := h
                  refine x_imul i_14_2 rfl q16 ?_
                  refine x_ireti i_14_3 r_14 ?_
                  refine x_bki rfl ?_
                  refine x_callv (as := [.inl (2 * a2), .inl 1, .inl (2 * a3)]) (rest := []) i_2_77 k_2_71 rfl rfl rfl g_1 (Nat.le_of_ble_eq_true rfl) m_25 rfl ?_
                  refine x_aload_n i_25_0 rfl rfl ?_
                  refine x_geti (v := M 1 6) i_25_1 f_25_31 g_1 rfl (rfl) rfl ?_
                  refine x_istore i_25_4 (Nat.le_of_ble_eq_true rfl) rfl rfl ?_
                  refine x_aload_n i_25_6 rfl rfl ?_
                  refine x_getr i_25_7 f_25_9 g_1 rfl rfl ?_
                  refine x_iload i_25_10 rfl rfl ?_
                  refine x_iload_n i_25_12 rfl rfl ?_
                  obtain ⟨q17, h⟩ := h
                  refine x_iastore i_25_13 g_7 rfl q17 ?_
                  refine x_aload_n i_25_14 rfl rfl ?_
                  refine x_getr i_25_15 f_25_15 g_1 rfl rfl ?_
                  refine x_iload i_25_18 rfl rfl ?_
                  refine x_iload_n i_25_20 rfl rfl ?_
                  refine x_iastore i_25_21 g_8 rfl q17 ?_
                  refine x_aload_n i_25_22 rfl rfl ?_
                  refine x_getr i_25_23 f_25_18 g_1 rfl rfl ?_
                  refine x_iload i_25_26 rfl rfl ?_
                  refine x_iload_n i_25_28 rfl rfl ?_
                  refine x_iastore i_25_29 g_9 rfl q17 ?_
                  refine x_aload_n i_25_30 rfl rfl ?_
                  refine x_dup i_25_31 rfl rfl ?_
                  refine x_geti (v := M 1 6) i_25_32 f_25_31 g_1 rfl (pm_get_c (by decide) (pm_get_c (by decide) (pm_get_c (by decide) rfl))) rfl ?_
                  refine x_iconst i_25_35 (by decide) rfl ?_
                  obtain ⟨q18, h⟩ := h
                  refine x_iadd i_25_36 rfl q18 ?_
                  refine x_puti i_25_37 f_25_31 g_1 rfl rfl ?_
                  refine x_iload i_25_40 rfl rfl ?_
                  refine x_ireti i_25_42 r_25 ?_
                  refine x_bki rfl ?_
                  exact x_ireti i_2_80 r_2 h
              · replace h := h.2 c9
                refine x_aload_n i_2_42 rfl rfl ?_
                refine x_getr i_2_43 f_2_12 g_0 rfl rfl ?_
                refine x_iload_n i_2_46 rfl rfl ?_
                refine x_calls (as := [.inl a2]) (rest := [.inr (.inl 1)]) i_2_47 k_2_67 rfl rfl rfl (Nat.le_of_ble_eq_true rfl) m_14 rfl ?_
                refine x_iconst i_14_0 (by decide) rfl ?_
                refine x_iload_n i_14_1 rfl rfl ?_
                obtain ⟨q19, h⟩ := h
                refine x_imul i_14_2 rfl q19 ?_
                refine x_ireti i_14_3 r_14 ?_
                refine x_bki rfl ?_
                refine x_iload_n i_2_50 rfl rfl ?_
                refine x_calls (as := [.inl a3]) (rest := [.inl (2 * a2), .inr (.inl 1)]) i_2_51 k_2_67 rfl rfl rfl (Nat.le_of_ble_eq_true rfl) m_14 rfl ?_
                refine x_iconst i_14_0 (by decide) rfl ?_
                refine x_iload_n i_14_1 rfl rfl ?_
                obtain ⟨q20, h⟩ := h
                refine x_imul i_14_2 rfl q20 ?_
                refine x_ireti i_14_3 r_14 ?_
                refine x_bki rfl ?_
                refine x_iconst i_2_54 (by decide) rfl ?_
                refine x_callv (as := [.inl (2 * a2), .inl (2 * a3), .inl 0]) (rest := []) i_2_55 k_2_71 rfl rfl rfl g_1 (Nat.le_of_ble_eq_true rfl) m_25 rfl ?_
                refine x_aload_n i_25_0 rfl rfl ?_
                refine x_geti (v := M 1 6) i_25_1 f_25_31 g_1 rfl (rfl) rfl ?_
                refine x_istore i_25_4 (Nat.le_of_ble_eq_true rfl) rfl rfl ?_
                refine x_aload_n i_25_6 rfl rfl ?_
                refine x_getr i_25_7 f_25_9 g_1 rfl rfl ?_
                refine x_iload i_25_10 rfl rfl ?_
                refine x_iload_n i_25_12 rfl rfl ?_
                obtain ⟨q21, h⟩ := h
                refine x_iastore i_25_13 g_7 rfl q21 ?_
                refine x_aload_n i_25_14 rfl rfl ?_
                refine x_getr i_25_15 f_25_15 g_1 rfl rfl ?_
                refine x_iload i_25_18 rfl rfl ?_
                refine x_iload_n i_25_20 rfl rfl ?_
                refine x_iastore i_25_21 g_8 rfl q21 ?_
                refine x_aload_n i_25_22 rfl rfl ?_
                refine x_getr i_25_23 f_25_18 g_1 rfl rfl ?_
                refine x_iload i_25_26 rfl rfl ?_
                refine x_iload_n i_25_28 rfl rfl ?_
                refine x_iastore i_25_29 g_9 rfl q21 ?_
                refine x_aload_n i_25_30 rfl rfl ?_
                refine x_dup i_25_31 rfl rfl ?_
                refine x_geti (v := M 1 6) i_25_32 f_25_31 g_1 rfl (pm_get_c (by decide) (pm_get_c (by decide) (pm_get_c (by decide) rfl))) rfl ?_
                refine x_iconst i_25_35 (by decide) rfl ?_
                obtain ⟨q22, h⟩ := h
                refine x_iadd i_25_36 rfl q22 ?_
                refine x_puti i_25_37 f_25_31 g_1 rfl rfl ?_
                refine x_iload i_25_40 rfl rfl ?_
                refine x_ireti i_25_42 r_25 ?_
                refine x_bki rfl ?_
                exact x_ireti i_2_58 r_2 h
            · replace h := h.2 c8
              obtain ⟨q23, h⟩ := h
              refine x_throw i_18_13 t_18_13 q23 ?_
              refine x_bkt rfl (by decide) ?_
              exact h
          · replace h := h.2 c7
            refine x_iload_n i_2_14 rfl rfl ?_
            refine x_iconst i_2_15 (by decide) rfl ?_
            refine x_icmp (C := a1 = 1) i_2_16 rfl Iff.rfl rfl ⟨fun c24 => ?_, fun c24 => ?_⟩
            · replace h := h.1 c24
              refine x_aload_n i_2_34 rfl rfl ?_
              refine x_callv (as := []) (rest := []) i_2_35 k_2_56 rfl rfl rfl g_0 (Nat.le_of_ble_eq_true rfl) m_18 rfl ?_
              refine x_aload_n i_18_0 rfl rfl ?_
              refine x_getr i_18_1 f_18_12 g_0 rfl rfl ?_
              refine x_geti (v := M 1 6) i_18_4 f_18_126 g_1 rfl (rfl) rfl ?_
              refine x_sipush i_18_7 (by decide) rfl ?_
              refine x_icmp (C := ¬ M 1 6 = 2000) i_18_10 rfl Iff.rfl rfl ⟨fun c25 => ?_, fun c25 => ?_⟩
              · replace h := h.1 c25
                refine x_ret i_18_23 r_18 ?_
                refine x_bkv rfl ?_
                refine x_iload_n i_2_38 rfl rfl ?_
                refine x_ifT i_2_39 rfl c7 ?_
                refine x_iload_n i_2_59 rfl rfl ?_
                refine x_iconst i_2_60 (by decide) rfl ?_
                refine x_icmp (C := ¬ a1 = 1) i_2_61 rfl Iff.rfl rfl ⟨fun c26 => ?_, fun c26 => ?_⟩
                · replace h := h.1 c26
                  refine x_aload_n i_2_81 rfl rfl ?_
                  refine x_getr i_2_82 f_2_12 g_0 rfl rfl ?_
                  refine x_iload_n i_2_85 rfl rfl ?_
                  refine x_calls (as := [.inl a2]) (rest := [.inr (.inl 1)]) i_2_86 k_2_67 rfl rfl rfl (Nat.le_of_ble_eq_true rfl) m_14 rfl ?_
                  refine x_iconst i_14_0 (by decide) rfl ?_
                  refine x_iload_n i_14_1 rfl rfl ?_
                  obtain ⟨q27, h⟩ := h
                  refine x_imul i_14_2 rfl q27 ?_
                  refine x_ireti i_14_3 r_14 ?_
                  refine x_bki rfl ?_
                  refine x_iload_n i_2_89 rfl rfl ?_
                  refine x_calls (as := [.inl a3]) (rest := [.inl (2 * a2), .inr (.inl 1)]) i_2_90 k_2_67 rfl rfl rfl (Nat.le_of_ble_eq_true rfl) m_14 rfl ?_
                  refine x_iconst i_14_0 (by decide) rfl ?_
                  refine x_iload_n i_14_1 rfl rfl ?_
                  obtain ⟨q28, h⟩ := h
                  refine x_imul i_14_2 rfl q28 ?_
                  refine x_ireti i_14_3 r_14 ?_
                  refine x_bki rfl ?_
                  refine x_calls (as := [.inl (2 * a3)]) (rest := [.inl (2 * a2), .inr (.inl 1)]) i_2_93 k_2_80 rfl rfl rfl (Nat.le_of_ble_eq_true rfl) m_15 rfl ?_
                  refine x_iload_n i_15_0 rfl rfl ?_
                  refine x_iconst i_15_1 (by decide) rfl ?_
                  refine x_ixor i_15_2 rfl ?_
                  refine x_ireti i_15_3 r_15 ?_
                  refine x_bki rfl ?_
                  refine x_iload_n i_2_96 rfl rfl ?_
                  refine x_calls (as := [.inl a3]) (rest := [.inl (pm_op (2 * a3)), .inl (2 * a2), .inr (.inl 1)]) i_2_97 k_2_67 rfl rfl rfl (Nat.le_of_ble_eq_true rfl) m_14 rfl ?_
                  refine x_iconst i_14_0 (by decide) rfl ?_
                  refine x_iload_n i_14_1 rfl rfl ?_
                  refine x_imul i_14_2 rfl q28 ?_
                  refine x_ireti i_14_3 r_14 ?_
                  refine x_bki rfl ?_
                  refine x_callv (as := [.inl (2 * a2), .inl (pm_op (2 * a3)), .inl (2 * a3)]) (rest := []) i_2_100 k_2_71 rfl rfl rfl g_1 (Nat.le_of_ble_eq_true rfl) m_25 rfl ?_
                  refine x_aload_n i_25_0 rfl rfl ?_
                  refine x_geti (v := M 1 6) i_25_1 f_25_31 g_1 rfl (rfl) rfl ?_
                  refine x_istore i_25_4 (Nat.le_of_ble_eq_true rfl) rfl rfl ?_
                  refine x_aload_n i_25_6 rfl rfl ?_
                  refine x_getr i_25_7 f_25_9 g_1 rfl rfl ?_
                  refine x_iload i_25_10 rfl rfl ?_
                  refine x_iload_n i_25_12 rfl rfl ?_
                  obtain ⟨q29, h⟩ := h
                  refine x_iastore i_25_13 g_7 rfl q29 ?_
                  refine x_aload_n i_25_14 rfl rfl ?_
                  refine x_getr i_25_15 f_25_15 g_1 rfl rfl ?_
                  refine x_iload i_25_18 rfl rfl ?_
                  refine x_iload_n i_25_20 rfl rfl ?_
                  refine x_iastore i_25_21 g_8 rfl q29 ?_
                  refine x_aload_n i_25_22 rfl rfl ?_
                  refine x_getr i_25_23 f_25_18 g_1 rfl rfl ?_
                  refine x_iload i_25_26 rfl rfl ?_
                  refine x_iload_n i_25_28 rfl rfl ?_
                  refine x_iastore i_25_29 g_9 rfl q29 ?_
                  refine x_aload_n i_25_30 rfl rfl ?_
                  refine x_dup i_25_31 rfl rfl ?_
                  refine x_geti (v := M 1 6) i_25_32 f_25_31 g_1 rfl (pm_get_c (by decide) (pm_get_c (by decide) (pm_get_c (by decide) rfl))) rfl ?_
                  refine x_iconst i_25_35 (by decide) rfl ?_
                  obtain ⟨q30, h⟩ := h
                  refine x_iadd i_25_36 rfl q30 ?_
                  refine x_puti i_25_37 f_25_31 g_1 rfl rfl ?_
                  refine x_iload i_25_40 rfl rfl ?_
                  refine x_ireti i_25_42 r_25 ?_
                  refine x_bki rfl ?_
                  exact x_ireti i_2_103 r_2 h
                · replace h := h.2 c26
                  refine x_aload_n i_2_64 rfl rfl ?_
                  refine x_getr i_2_65 f_2_12 g_0 rfl rfl ?_
                  refine x_iload_n i_2_68 rfl rfl ?_
                  refine x_calls (as := [.inl a2]) (rest := [.inr (.inl 1)]) i_2_69 k_2_67 rfl rfl rfl (Nat.le_of_ble_eq_true rfl) m_14 rfl ?_
                  refine x_iconst i_14_0 (by decide) rfl ?_
                  refine x_iload_n i_14_1 rfl rfl ?_
                  obtain ⟨q31, h⟩ := h
                  refine x_imul i_14_2 rfl q31 ?_
                  refine x_ireti i_14_3 r_14 ?_
                  refine x_bki rfl ?_
                  refine x_iconst i_2_72 (by decide) rfl ?_
                  refine x_iload_n i_2_73 rfl rfl ?_
                  refine x_calls (as := [.inl a3]) (rest := [.inl 1, .inl (2 * a2), .inr (.inl 1)]) i_2_74 k_2_67 rfl rfl rfl (Nat.le_of_ble_eq_true rfl) m_14 rfl ?_
                  refine x_iconst i_14_0 (by decide) rfl ?_
                  refine x_iload_n i_14_1 rfl rfl ?_
                  obtain ⟨q32, h⟩ := h
                  refine x_imul i_14_2 rfl q32 ?_
                  refine x_ireti i_14_3 r_14 ?_
                  refine x_bki rfl ?_
                  refine x_callv (as := [.inl (2 * a2), .inl 1, .inl (2 * a3)]) (rest := []) i_2_77 k_2_71 rfl rfl rfl g_1 (Nat.le_of_ble_eq_true rfl) m_25 rfl ?_
                  refine x_aload_n i_25_0 rfl rfl ?_
                  refine x_geti (v := M 1 6) i_25_1 f_25_31 g_1 rfl (rfl) rfl ?_
                  refine x_istore i_25_4 (Nat.le_of_ble_eq_true rfl) rfl rfl ?_
                  refine x_aload_n i_25_6 rfl rfl ?_
                  refine x_getr i_25_7 f_25_9 g_1 rfl rfl ?_
                  refine x_iload i_25_10 rfl rfl ?_
                  refine x_iload_n i_25_12 rfl rfl ?_
                  obtain ⟨q33, h⟩ := h
                  refine x_iastore i_25_13 g_7 rfl q33 ?_
                  refine x_aload_n i_25_14 rfl rfl ?_
                  refine x_getr i_25_15 f_25_15 g_1 rfl rfl ?_
                  refine x_iload i_25_18 rfl rfl ?_
                  refine x_iload_n i_25_20 rfl rfl ?_
                  refine x_iastore i_25_21 g_8 rfl q33 ?_
                  refine x_aload_n i_25_22 rfl rfl ?_
                  refine x_getr i_25_23 f_25_18 g_1 rfl rfl ?_
                  refine x_iload i_25_26 rfl rfl ?_
                  refine x_iload_n i_25_28 rfl rfl ?_
                  refine x_iastore i_25_29 g_9 rfl q33 ?_
                  refine x_aload_n i_25_30 rfl rfl ?_
                  refine x_dup i_25_31 rfl rfl ?_
                  refine x_geti (v := M 1 6) i_25_32 f_25_31 g_1 rfl (pm_get_c (by decide) (pm_get_c (by decide) (pm_get_c (by decide) rfl))) rfl ?_
                  refine x_iconst i_25_35 (by decide) rfl ?_
                  obtain ⟨q34, h⟩ := h
                  refine x_iadd i_25_36 rfl q34 ?_
                  refine x_puti i_25_37 f_25_31 g_1 rfl rfl ?_
                  refine x_iload i_25_40 rfl rfl ?_
                  refine x_ireti i_25_42 r_25 ?_
                  refine x_bki rfl ?_
                  exact x_ireti i_2_80 r_2 h
              · replace h := h.2 c25
                obtain ⟨q35, h⟩ := h
                refine x_throw i_18_13 t_18_13 q35 ?_
                refine x_bkt rfl (by decide) ?_
                exact h
            · replace h := h.2 c24
              refine x_iload_n i_2_19 rfl rfl ?_
              refine x_iconst i_2_20 (by decide) rfl ?_
              refine x_icmp (C := a1 = 2) i_2_21 rfl Iff.rfl rfl ⟨fun c36 => ?_, fun c36 => ?_⟩
              · replace h := h.1 c36
                refine x_aload_n i_2_34 rfl rfl ?_
                refine x_callv (as := []) (rest := []) i_2_35 k_2_56 rfl rfl rfl g_0 (Nat.le_of_ble_eq_true rfl) m_18 rfl ?_
                refine x_aload_n i_18_0 rfl rfl ?_
                refine x_getr i_18_1 f_18_12 g_0 rfl rfl ?_
                refine x_geti (v := M 1 6) i_18_4 f_18_126 g_1 rfl (rfl) rfl ?_
                refine x_sipush i_18_7 (by decide) rfl ?_
                refine x_icmp (C := ¬ M 1 6 = 2000) i_18_10 rfl Iff.rfl rfl ⟨fun c37 => ?_, fun c37 => ?_⟩
                · replace h := h.1 c37
                  refine x_ret i_18_23 r_18 ?_
                  refine x_bkv rfl ?_
                  refine x_iload_n i_2_38 rfl rfl ?_
                  refine x_ifT i_2_39 rfl c7 ?_
                  refine x_iload_n i_2_59 rfl rfl ?_
                  refine x_iconst i_2_60 (by decide) rfl ?_
                  refine x_icmpT i_2_61 rfl c24 ?_
                  refine x_aload_n i_2_81 rfl rfl ?_
                  refine x_getr i_2_82 f_2_12 g_0 rfl rfl ?_
                  refine x_iload_n i_2_85 rfl rfl ?_
                  refine x_calls (as := [.inl a2]) (rest := [.inr (.inl 1)]) i_2_86 k_2_67 rfl rfl rfl (Nat.le_of_ble_eq_true rfl) m_14 rfl ?_
                  refine x_iconst i_14_0 (by decide) rfl ?_
                  refine x_iload_n i_14_1 rfl rfl ?_
                  obtain ⟨q38, h⟩ := h
                  refine x_imul i_14_2 rfl q38 ?_
                  refine x_ireti i_14_3 r_14 ?_
                  refine x_bki rfl ?_
                  refine x_iload_n i_2_89 rfl rfl ?_
                  refine x_calls (as := [.inl a3]) (rest := [.inl (2 * a2), .inr (.inl 1)]) i_2_90 k_2_67 rfl rfl rfl (Nat.le_of_ble_eq_true rfl) m_14 rfl ?_
                  refine x_iconst i_14_0 (by decide) rfl ?_
                  refine x_iload_n i_14_1 rfl rfl ?_
                  obtain ⟨q39, h⟩ := h
                  refine x_imul i_14_2 rfl q39 ?_
                  refine x_ireti i_14_3 r_14 ?_
                  refine x_bki rfl ?_
                  refine x_calls (as := [.inl (2 * a3)]) (rest := [.inl (2 * a2), .inr (.inl 1)]) i_2_93 k_2_80 rfl rfl rfl (Nat.le_of_ble_eq_true rfl) m_15 rfl ?_
                  refine x_iload_n i_15_0 rfl rfl ?_
                  refine x_iconst i_15_1 (by decide) rfl ?_
                  refine x_ixor i_15_2 rfl ?_
                  refine x_ireti i_15_3 r_15 ?_
                  refine x_bki rfl ?_
                  refine x_iload_n i_2_96 rfl rfl ?_
                  refine x_calls (as := [.inl a3]) (rest := [.inl (pm_op (2 * a3)), .inl (2 * a2), .inr (.inl 1)]) i_2_97 k_2_67 rfl rfl rfl (Nat.le_of_ble_eq_true rfl) m_14 rfl ?_
                  refine x_iconst i_14_0 (by decide) rfl ?_
                  refine x_iload_n i_14_1 rfl rfl ?_
                  refine x_imul i_14_2 rfl q39 ?_
                  refine x_ireti i_14_3 r_14 ?_
                  refine x_bki rfl ?_
                  refine x_callv (as := [.inl (2 * a2), .inl (pm_op (2 * a3)), .inl (2 * a3)]) (rest := []) i_2_100 k_2_71 rfl rfl rfl g_1 (Nat.le_of_ble_eq_true rfl) m_25 rfl ?_
                  refine x_aload_n i_25_0 rfl rfl ?_
                  refine x_geti (v := M 1 6) i_25_1 f_25_31 g_1 rfl (rfl) rfl ?_
                  refine x_istore i_25_4 (Nat.le_of_ble_eq_true rfl) rfl rfl ?_
                  refine x_aload_n i_25_6 rfl rfl ?_
                  refine x_getr i_25_7 f_25_9 g_1 rfl rfl ?_
                  refine x_iload i_25_10 rfl rfl ?_
                  refine x_iload_n i_25_12 rfl rfl ?_
                  obtain ⟨q40, h⟩ := h
                  refine x_iastore i_25_13 g_7 rfl q40 ?_
                  refine x_aload_n i_25_14 rfl rfl ?_
                  refine x_getr i_25_15 f_25_15 g_1 rfl rfl ?_
                  refine x_iload i_25_18 rfl rfl ?_
                  refine x_iload_n i_25_20 rfl rfl ?_
                  refine x_iastore i_25_21 g_8 rfl q40 ?_
                  refine x_aload_n i_25_22 rfl rfl ?_
                  refine x_getr i_25_23 f_25_18 g_1 rfl rfl ?_
                  refine x_iload i_25_26 rfl rfl ?_
                  refine x_iload_n i_25_28 rfl rfl ?_
                  refine x_iastore i_25_29 g_9 rfl q40 ?_
                  refine x_aload_n i_25_30 rfl rfl ?_
                  refine x_dup i_25_31 rfl rfl ?_
                  refine x_geti (v := M 1 6) i_25_32 f_25_31 g_1 rfl (pm_get_c (by decide) (pm_get_c (by decide) (pm_get_c (by decide) rfl))) rfl ?_
                  refine x_iconst i_25_35 (by decide) rfl ?_
                  obtain ⟨q41, h⟩ := h
                  refine x_iadd i_25_36 rfl q41 ?_
                  refine x_puti i_25_37 f_25_31 g_1 rfl rfl ?_
                  refine x_iload i_25_40 rfl rfl ?_
                  refine x_ireti i_25_42 r_25 ?_
                  refine x_bki rfl ?_
                  exact x_ireti i_2_103 r_2 h
                · replace h := h.2 c37
                  obtain ⟨q42, h⟩ := h
                  refine x_throw i_18_13 t_18_13 q42 ?_
                  refine x_bkt rfl (by decide) ?_
                  exact h
              · replace h := h.2 c36
                obtain ⟨q43, h⟩ := h
                refine x_throw i_2_24 t_2_24 q43 ?_
                exact h
        · replace h := h.2 c6
          obtain ⟨q44, h⟩ := h
          refine x_throw i_17_15 t_17_15 q44 ?_
          refine x_bkt rfl (by decide) ?_
          exact h
    · replace h := h.2 c3
      obtain ⟨q45, h⟩ := h
      refine x_throw i_17_15 t_17_15 q45 ?_
      refine x_bkt rfl (by decide) ?_
      exact h
/-! GateBench.choose at 0 -/
theorem s_3_0 {L : Nat} {M : pm_M} {Q : pm_P} {a1 a2 a3 : Int}
    (h : ((a1 < 0 → (1 ≤ M 99 0) ∧ Q (.inr 0) (pm_set M 99 0 (M 99 0 - 1))) ∧ (¬ (a1 < 0) → ((a1 < M 1 6 → ((a2 < 0 → (1 ≤ M 99 0) ∧ Q (.inr 0) (pm_set M 99 0 (M 99 0 - 1))) ∧ (¬ (a2 < 0) → ((a2 < M 1 6 → ((a3 < 0 → (1 ≤ M 99 0) ∧ Q (.inr 0) (pm_set M 99 0 (M 99 0 - 1))) ∧ (¬ (a3 < 0) → ((a3 < M 1 6 → ((¬ M 1 6 = 2000 → (pm_R (2 * a1)) ∧ (pm_R (2 * a2)) ∧ (pm_R (2 * a3)) ∧ (0 ≤ M 1 6 ∧ M 1 6 < 2000) ∧ (pm_R (M 1 6 + 1)) ∧ Q (.inl (some (.inl (M 1 6)))) (pm_set (pm_set (pm_set (pm_set M 7 (M 1 6) (2 * a1)) 8 (M 1 6) (2 * a2)) 9 (M 1 6) (2 * a3)) 1 6 (M 1 6 + 1))) ∧ (¬ (¬ M 1 6 = 2000) → (1 ≤ M 99 0) ∧ Q (.inr 1) (pm_set M 99 0 (M 99 0 - 1))))) ∧ (¬ (a3 < M 1 6) → (1 ≤ M 99 0) ∧ Q (.inr 0) (pm_set M 99 0 (M 99 0 - 1))))))) ∧ (¬ (a2 < M 1 6) → (1 ≤ M 99 0) ∧ Q (.inr 0) (pm_set M 99 0 (M 99 0 - 1))))))) ∧ (¬ (a1 < M 1 6) → (1 ≤ M 99 0) ∧ Q (.inr 0) (pm_set M 99 0 (M 99 0 - 1))))))) :
    pm_X L (3, 0, [some (.inr (.inl 0)), some (.inl a1), some (.inl a2), some (.inl a3)], [], M) Q := by
  refine x_aload_n i_3_0 rfl rfl ?_
  refine x_iload_n i_3_1 rfl rfl ?_
  refine x_callv (as := [.inl a1]) (rest := []) i_3_2 k_3_63 rfl rfl rfl g_0 (Nat.le_of_ble_eq_true rfl) m_17 rfl ?_
  refine x_iload_n i_17_0 rfl rfl ?_
  refine x_if (C := a1 < 0) i_17_1 rfl Iff.rfl rfl ⟨fun c1 => ?_, fun c1 => ?_⟩
  · replace h := h.1 c1
    obtain ⟨q2, h⟩ := h
    refine x_throw i_17_15 t_17_15 q2 ?_
    refine x_bkt rfl (by decide) ?_
    exact h
  · replace h := h.2 c1
    refine x_iload_n i_17_4 rfl rfl ?_
    refine x_aload_n i_17_5 rfl rfl ?_
    refine x_getr i_17_6 f_17_12 g_0 rfl rfl ?_
    refine x_geti (v := M 1 6) i_17_9 f_17_126 g_1 rfl (rfl) rfl ?_
    refine x_icmp (C := a1 < M 1 6) i_17_12 rfl Iff.rfl rfl ⟨fun c3 => ?_, fun c3 => ?_⟩
    · replace h := h.1 c3
      refine x_ret i_17_25 r_17 ?_
      refine x_bkv rfl ?_
      refine x_aload_n i_3_5 rfl rfl ?_
      refine x_iload_n i_3_6 rfl rfl ?_
      refine x_callv (as := [.inl a2]) (rest := []) i_3_7 k_3_63 rfl rfl rfl g_0 (Nat.le_of_ble_eq_true rfl) m_17 rfl ?_
      refine x_iload_n i_17_0 rfl rfl ?_
      refine x_if (C := a2 < 0) i_17_1 rfl Iff.rfl rfl ⟨fun c4 => ?_, fun c4 => ?_⟩
      · replace h := h.1 c4
        obtain ⟨q5, h⟩ := h
        refine x_throw i_17_15 t_17_15 q5 ?_
        refine x_bkt rfl (by decide) ?_
        exact h
      · replace h := h.2 c4
        refine x_iload_n i_17_4 rfl rfl ?_
        refine x_aload_n i_17_5 rfl rfl ?_
        refine x_getr i_17_6 f_17_12 g_0 rfl rfl ?_
        refine x_geti (v := M 1 6) i_17_9 f_17_126 g_1 rfl (rfl) rfl ?_
        refine x_icmp (C := a2 < M 1 6) i_17_12 rfl Iff.rfl rfl ⟨fun c6 => ?_, fun c6 => ?_⟩
        · replace h := h.1 c6
          refine x_ret i_17_25 r_17 ?_
          refine x_bkv rfl ?_
          refine x_aload_n i_3_10 rfl rfl ?_
          refine x_iload_n i_3_11 rfl rfl ?_
          refine x_callv (as := [.inl a3]) (rest := []) i_3_12 k_3_63 rfl rfl rfl g_0 (Nat.le_of_ble_eq_true rfl) m_17 rfl ?_
          refine x_iload_n i_17_0 rfl rfl ?_
          refine x_if (C := a3 < 0) i_17_1 rfl Iff.rfl rfl ⟨fun c7 => ?_, fun c7 => ?_⟩
          · replace h := h.1 c7
            obtain ⟨q8, h⟩ := h
            refine x_throw i_17_15 t_17_15 q8 ?_
            refine x_bkt rfl (by decide) ?_
            exact h
          · replace h := h.2 c7
            refine x_iload_n i_17_4 rfl rfl ?_
            refine x_aload_n i_17_5 rfl rfl ?_
            refine x_getr i_17_6 f_17_12 g_0 rfl rfl ?_
            refine x_geti (v := M 1 6) i_17_9 f_17_126 g_1 rfl (rfl) rfl ?_
            refine x_icmp (C := a3 < M 1 6) i_17_12 rfl Iff.rfl rfl ⟨fun c9 => ?_, fun c9 => ?_⟩
            · replace h := h.1 c9
              refine x_ret i_17_25 r_17 ?_
              refine x_bkv rfl ?_
              refine x_aload_n i_3_15 rfl rfl ?_
              refine x_callv (as := []) (rest := []) i_3_16 k_3_56 rfl rfl rfl g_0 (Nat.le_of_ble_eq_true rfl) m_18 rfl ?_
              refine x_aload_n i_18_0 rfl rfl ?_
              refine x_getr i_18_1 f_18_12 g_0 rfl rfl ?_
              refine x_geti (v := M 1 6) i_18_4 f_18_126 g_1 rfl (rfl) rfl ?_
              refine x_sipush i_18_7 (by decide) rfl ?_
              refine x_icmp (C := ¬ M 1 6 = 2000) i_18_10 rfl Iff.rfl rfl ⟨fun c10 => ?_, fun c10 => ?_⟩
              · replace h := h.1 c10
                refine x_ret i_18_23 r_18 ?_
                refine x_bkv rfl ?_
                refine x_aload_n i_3_19 rfl rfl ?_
                refine x_getr i_3_20 f_3_12 g_0 rfl rfl ?_
                refine x_iload_n i_3_23 rfl rfl ?_
                refine x_calls (as := [.inl a1]) (rest := [.inr (.inl 1)]) i_3_24 k_3_67 rfl rfl rfl (Nat.le_of_ble_eq_true rfl) m_14 rfl ?_
                refine x_iconst i_14_0 (by decide) rfl ?_
                refine x_iload_n i_14_1 rfl rfl ?_
                obtain ⟨q11, h⟩ := h
                refine x_imul i_14_2 rfl q11 ?_
                refine x_ireti i_14_3 r_14 ?_
                refine x_bki rfl ?_
                refine x_iload_n i_3_27 rfl rfl ?_
                refine x_calls (as := [.inl a2]) (rest := [.inl (2 * a1), .inr (.inl 1)]) i_3_28 k_3_67 rfl rfl rfl (Nat.le_of_ble_eq_true rfl) m_14 rfl ?_
                refine x_iconst i_14_0 (by decide) rfl ?_
                refine x_iload_n i_14_1 rfl rfl ?_
                obtain ⟨q12, h⟩ := h
                refine x_imul i_14_2 rfl q12 ?_
                refine x_ireti i_14_3 r_14 ?_
                refine x_bki rfl ?_
                refine x_iload_n i_3_31 rfl rfl ?_
                refine x_calls (as := [.inl a3]) (rest := [.inl (2 * a2), .inl (2 * a1), .inr (.inl 1)]) i_3_32 k_3_67 rfl rfl rfl (Nat.le_of_ble_eq_true rfl) m_14 rfl ?_
                refine x_iconst i_14_0 (by decide) rfl ?_
                refine x_iload_n i_14_1 rfl rfl ?_
                obtain ⟨q13, h⟩ := h
                refine x_imul i_14_2 rfl q13 ?_
                refine x_ireti i_14_3 r_14 ?_
                refine x_bki rfl ?_
                refine x_callv (as := [.inl (2 * a1), .inl (2 * a2), .inl (2 * a3)]) (rest := []) i_3_35 k_3_71 rfl rfl rfl g_1 (Nat.le_of_ble_eq_true rfl) m_25 rfl ?_
                refine x_aload_n i_25_0 rfl rfl ?_
                refine x_geti (v := M 1 6) i_25_1 f_25_31 g_1 rfl (rfl) rfl ?_
                refine x_istore i_25_4 (Nat.le_of_ble_eq_true rfl) rfl rfl ?_
                refine x_aload_n i_25_6 rfl rfl ?_
                refine x_getr i_25_7 f_25_9 g_1 rfl rfl ?_
                refine x_iload i_25_10 rfl rfl ?_
                refine x_iload_n i_25_12 rfl rfl ?_
                obtain ⟨q14, h⟩ := h
                refine x_iastore i_25_13 g_7 rfl q14 ?_
                refine x_aload_n i_25_14 rfl rfl ?_
                refine x_getr i_25_15 f_25_15 g_1 rfl rfl ?_
                refine x_iload i_25_18 rfl rfl ?_
                refine x_iload_n i_25_20 rfl rfl ?_
                refine x_iastore i_25_21 g_8 rfl q14 ?_
                refine x_aload_n i_25_22 rfl rfl ?_
                refine x_getr i_25_23 f_25_18 g_1 rfl rfl ?_
                refine x_iload i_25_26 rfl rfl ?_
                refine x_iload_n i_25_28 rfl rfl ?_
                refine x_iastore i_25_29 g_9 rfl q14 ?_
                refine x_aload_n i_25_30 rfl rfl ?_
                refine x_dup i_25_31 rfl rfl ?_
                refine x_geti (v := M 1 6) i_25_32 f_25_31 g_1 rfl (pm_get_c (by decide) (pm_get_c (by decide) (pm_get_c (by decide) rfl))) rfl ?_
                refine x_iconst i_25_35 (by decide) rfl ?_
                obtain ⟨q15, h⟩ := h
                refine x_iadd i_25_36 rfl q15 ?_
                refine x_puti i_25_37 f_25_31 g_1 rfl rfl ?_
                refine x_iload i_25_40 rfl rfl ?_
                refine x_ireti i_25_42 r_25 ?_
                refine x_bki rfl ?_
                exact x_ireti i_3_38 r_3 h
              · replace h := h.2 c10
                obtain ⟨q16, h⟩ := h
                refine x_throw i_18_13 t_18_13 q16 ?_
                refine x_bkt rfl (by decide) ?_
                exact h
            · replace h := h.2 c9
              obtain ⟨q17, h⟩ := h
              refine x_throw i_17_15 t_17_15 q17 ?_
              refine x_bkt rfl (by decide) ?_
              exact h
        · replace h := h.2 c6
          obtain ⟨q18, h⟩ := h
          refine x_throw i_17_15 t_17_15 q18 ?_
          refine x_bkt rfl (by decide) ?_
          exact h
    · replace h := h.2 c3
      obtain ⟨q19, h⟩ := h
      refine x_throw i_17_15 t_17_15 q19 ?_
      refine x_bkt rfl (by decide) ?_
      exact h
/-! GateBench.want at 0 -/
theorem s_4_0 {L : Nat} {M : pm_M} {Q : pm_P} {a1 : Int}
    (h : ((a1 < 0 → (1 ≤ M 99 0) ∧ Q (.inr 0) (pm_set M 99 0 (M 99 0 - 1))) ∧ (¬ (a1 < 0) → ((a1 < M 1 6 → ((¬ M 0 5 = 20 → (0 ≤ M 0 5 ∧ M 0 5 < 20) ∧ (pm_R (M 0 5 + 1)) ∧ Q (.inl (some (.inl (M 0 5 + 1)))) (pm_set (pm_set M 6 (M 0 5) a1) 0 5 (M 0 5 + 1))) ∧ (¬ (¬ M 0 5 = 20) → (1 ≤ M 99 0) ∧ Q (.inr 1) (pm_set M 99 0 (M 99 0 - 1))))) ∧ (¬ (a1 < M 1 6) → (1 ≤ M 99 0) ∧ Q (.inr 0) (pm_set M 99 0 (M 99 0 - 1))))))) :
    pm_X L (4, 0, [some (.inr (.inl 0)), some (.inl a1)], [], M) Q := by
  refine x_aload_n i_4_0 rfl rfl ?_
  refine x_iload_n i_4_1 rfl rfl ?_
  refine x_callv (as := [.inl a1]) (rest := []) i_4_2 k_4_63 rfl rfl rfl g_0 (Nat.le_of_ble_eq_true rfl) m_17 rfl ?_
  refine x_iload_n i_17_0 rfl rfl ?_
  refine x_if (C := a1 < 0) i_17_1 rfl Iff.rfl rfl ⟨fun c1 => ?_, fun c1 => ?_⟩
  · replace h := h.1 c1
    obtain ⟨q2, h⟩ := h
    refine x_throw i_17_15 t_17_15 q2 ?_
    refine x_bkt rfl (by decide) ?_
    exact h
  · replace h := h.2 c1
    refine x_iload_n i_17_4 rfl rfl ?_
    refine x_aload_n i_17_5 rfl rfl ?_
    refine x_getr i_17_6 f_17_12 g_0 rfl rfl ?_
    refine x_geti (v := M 1 6) i_17_9 f_17_126 g_1 rfl (rfl) rfl ?_
    refine x_icmp (C := a1 < M 1 6) i_17_12 rfl Iff.rfl rfl ⟨fun c3 => ?_, fun c3 => ?_⟩
    · replace h := h.1 c3
      refine x_ret i_17_25 r_17 ?_
      refine x_bkv rfl ?_
      refine x_aload_n i_4_5 rfl rfl ?_
      refine x_geti (v := M 0 5) i_4_6 f_4_83 g_0 rfl (rfl) rfl ?_
      refine x_bipush i_4_9 (by decide) rfl ?_
      refine x_icmp (C := ¬ M 0 5 = 20) i_4_11 rfl Iff.rfl rfl ⟨fun c4 => ?_, fun c4 => ?_⟩
      · replace h := h.1 c4
        refine x_aload_n i_4_24 rfl rfl ?_
        refine x_getr i_4_25 f_4_41 g_0 rfl rfl ?_
        refine x_aload_n i_4_28 rfl rfl ?_
        refine x_geti (v := M 0 5) i_4_29 f_4_83 g_0 rfl (rfl) rfl ?_
        refine x_iload_n i_4_32 rfl rfl ?_
        obtain ⟨q5, h⟩ := h
        refine x_iastore i_4_33 g_6 rfl q5 ?_
        refine x_aload_n i_4_34 rfl rfl ?_
        refine x_dup i_4_35 rfl rfl ?_
        refine x_geti (v := M 0 5) i_4_36 f_4_83 g_0 rfl (pm_get_c (by decide) rfl) rfl ?_
        refine x_iconst i_4_39 (by decide) rfl ?_
        obtain ⟨q6, h⟩ := h
        refine x_iadd i_4_40 rfl q6 ?_
        refine x_puti i_4_41 f_4_83 g_0 rfl rfl ?_
        refine x_aload_n i_4_44 rfl rfl ?_
        refine x_geti (v := M 0 5 + 1) i_4_45 f_4_83 g_0 rfl (pm_get_e) rfl ?_
        exact x_ireti i_4_48 r_4 h
      · replace h := h.2 c4
        obtain ⟨q7, h⟩ := h
        refine x_throw i_4_14 t_4_14 q7 ?_
        exact h
    · replace h := h.2 c3
      obtain ⟨q8, h⟩ := h
      refine x_throw i_17_15 t_17_15 q8 ?_
      refine x_bkt rfl (by decide) ?_
      exact h
/-! GateBench.clear at 0 -/
theorem s_5_0 {L : Nat} {M : pm_M} {Q : pm_P}
    (h : Q (.inl (some (.inl (M 0 5)))) (pm_set M 0 5 0)) :
    pm_X L (5, 0, [some (.inr (.inl 0)), none], [], M) Q := by
  refine x_aload_n i_5_0 rfl rfl ?_
  refine x_geti (v := M 0 5) i_5_1 f_5_83 g_0 rfl (rfl) rfl ?_
  refine x_istore_n i_5_4 (Nat.le_of_ble_eq_true rfl) rfl rfl ?_
  refine x_aload_n i_5_5 rfl rfl ?_
  refine x_iconst i_5_6 (by decide) rfl ?_
  refine x_puti i_5_7 f_5_83 g_0 rfl rfl ?_
  refine x_iload_n i_5_10 rfl rfl ?_
  exact x_ireti i_5_11 r_5 h
/-! GateBench.can at 0 -/
theorem s_6_0 {L : Nat} {M : pm_M} {Q : pm_P}
    (h : pm_X L (19, 0, [some (.inr (.inl 0)), some (.inl (-1)), none], [], M) (pm_back (pm_X L) 6 2 [some (.inr (.inl 0)), none] [] Q)) :
    pm_X L (6, 0, [some (.inr (.inl 0)), none], [], M) Q := by
  refine x_aload_n i_6_0 rfl rfl ?_
  refine x_iconst i_6_1 (by decide) rfl ?_
  refine x_callv (as := [.inl (-1)]) (rest := []) i_6_2 k_6_88 rfl rfl rfl g_0 (Nat.le_of_ble_eq_true rfl) m_19 rfl h
/-! GateBench.can at 5 -/
theorem s_6_5 {L : Nat} {M : pm_M} {Q : pm_P}
    (h : pm_X L (21, 0, [some (.inr (.inl 0)), none], [], M) (pm_back (pm_X L) 6 6 [some (.inr (.inl 0)), none] [] Q)) :
    pm_X L (6, 5, [some (.inr (.inl 0)), none], [], M) Q := by
  refine x_aload_n i_6_5 rfl rfl ?_
  refine x_callv (as := []) (rest := []) i_6_6 k_6_91 rfl rfl rfl g_0 (Nat.le_of_ble_eq_true rfl) m_21 rfl h
/-! GateBench.can at 9 -/
theorem s_6_9 {L : Nat} {M : pm_M} {Q : pm_P} {r : Int}
    (h : ((r = 0 → pm_X L (6, 18, [some (.inr (.inl 0)), some (.inl r)], [], M) Q) ∧ (¬ (r = 0) → pm_X L (22, 0, [some (.inr (.inl 0)), none, none], [], M) (pm_back (pm_X L) 6 15 [some (.inr (.inl 0)), some (.inl r)] [] Q)))) :
    pm_X L (6, 9, [some (.inr (.inl 0)), none], [.inl r], M) Q := by
  refine x_istore_n i_6_9 (Nat.le_of_ble_eq_true rfl) rfl rfl ?_
  refine x_iload_n i_6_10 rfl rfl ?_
  refine x_if (C := r = 0) i_6_11 rfl Iff.rfl rfl ⟨fun c1 => ?_, fun c1 => ?_⟩
  · replace h := h.1 c1
    exact h
  · replace h := h.2 c1
    refine x_aload_n i_6_14 rfl rfl ?_
    refine x_callv (as := []) (rest := []) i_6_15 k_6_95 rfl rfl rfl g_0 (Nat.le_of_ble_eq_true rfl) m_22 rfl h
/-! GateBench.can at 18 -/
theorem s_6_18 {L : Nat} {M : pm_M} {Q : pm_P} {a1 : Int}
    (h : (pm_bit a1) ∧ Q (.inl (some (.inl a1))) M) :
    pm_X L (6, 18, [some (.inr (.inl 0)), some (.inl a1)], [], M) Q := by
  refine x_iload_n i_6_18 rfl rfl ?_
  obtain ⟨q1, h⟩ := h
  exact x_iretz i_6_19 r_6 q1 h
/-! GateBench.shorten at 0 -/
theorem s_7_0 {L : Nat} {M : pm_M} {Q : pm_P}
    (h : pm_X L (19, 0, [some (.inr (.inl 0)), some (.inl (-1)), none], [], M) (pm_back (pm_X L) 7 2 [some (.inr (.inl 0)), none, none] [] Q)) :
    pm_X L (7, 0, [some (.inr (.inl 0)), none, none], [], M) Q := by
  refine x_aload_n i_7_0 rfl rfl ?_
  refine x_iconst i_7_1 (by decide) rfl ?_
  refine x_callv (as := [.inl (-1)]) (rest := []) i_7_2 k_7_88 rfl rfl rfl g_0 (Nat.le_of_ble_eq_true rfl) m_19 rfl h
/-! GateBench.shorten at 5 -/
theorem s_7_5 {L : Nat} {M : pm_M} {Q : pm_P}
    (h : pm_X L (21, 0, [some (.inr (.inl 0)), none], [], M) (pm_back (pm_X L) 7 6 [some (.inr (.inl 0)), none, none] [] Q)) :
    pm_X L (7, 5, [some (.inr (.inl 0)), none, none], [], M) Q := by
  refine x_aload_n i_7_5 rfl rfl ?_
  refine x_callv (as := []) (rest := []) i_7_6 k_7_91 rfl rfl rfl g_0 (Nat.le_of_ble_eq_true rfl) m_21 rfl h
/-! GateBench.shorten at 9 -/
theorem s_7_9 {L : Nat} {M : pm_M} {Q : pm_P} {r : Int}
    (h : ((r = 0 → pm_X L (7, 21, [some (.inr (.inl 0)), some (.inl 0), some (.inl (M 0 5))], [], M) Q) ∧ (¬ (r = 0) → Q (.inl (some (.inl (-1)))) M))) :
    pm_X L (7, 9, [some (.inr (.inl 0)), none, none], [.inl r], M) Q := by
  refine x_if (C := r = 0) i_7_9 rfl Iff.rfl rfl ⟨fun c1 => ?_, fun c1 => ?_⟩
  · replace h := h.1 c1
    refine x_iconst i_7_14 (by decide) rfl ?_
    refine x_istore_n i_7_15 (Nat.le_of_ble_eq_true rfl) rfl rfl ?_
    refine x_aload_n i_7_16 rfl rfl ?_
    refine x_geti (v := M 0 5) i_7_17 f_7_83 g_0 rfl (rfl) rfl ?_
    refine x_istore_n i_7_20 (Nat.le_of_ble_eq_true rfl) rfl rfl ?_
    exact h
  · replace h := h.2 c1
    refine x_iconst i_7_12 (by decide) rfl ?_
    exact x_ireti i_7_13 r_7 h
/-! GateBench.shorten at 21 -/
theorem s_7_21 {L : Nat} {M : pm_M} {Q : pm_P} {a1 a2 : Int}
    (h : ((a2 ≤ 0 → Q (.inl (some (.inl (M 0 5)))) M) ∧ (¬ (a2 ≤ 0) → pm_X L (19, 0, [some (.inr (.inl 0)), some (.inl a1), none], [], M) (pm_back (pm_X L) 7 27 [some (.inr (.inl 0)), some (.inl a1), some (.inl a2)] [] Q)))) :
    pm_X L (7, 21, [some (.inr (.inl 0)), some (.inl a1), some (.inl a2)], [], M) Q := by
  refine x_iload_n i_7_21 rfl rfl ?_
  refine x_if (C := a2 ≤ 0) i_7_22 rfl Iff.rfl rfl ⟨fun c1 => ?_, fun c1 => ?_⟩
  · replace h := h.1 c1
    refine x_aload_n i_7_54 rfl rfl ?_
    refine x_geti (v := M 0 5) i_7_55 f_7_83 g_0 rfl (rfl) rfl ?_
    exact x_ireti i_7_58 r_7 h
  · replace h := h.2 c1
    refine x_aload_n i_7_25 rfl rfl ?_
    refine x_iload_n i_7_26 rfl rfl ?_
    refine x_callv (as := [.inl a1]) (rest := []) i_7_27 k_7_88 rfl rfl rfl g_0 (Nat.le_of_ble_eq_true rfl) m_19 rfl h
/-! GateBench.shorten at 30 -/
theorem s_7_30 {L : Nat} {M : pm_M} {Q : pm_P} {a1 a2 : Int}
    (h : pm_X L (21, 0, [some (.inr (.inl 0)), none], [], M) (pm_back (pm_X L) 7 31 [some (.inr (.inl 0)), some (.inl a1), some (.inl a2)] [] Q)) :
    pm_X L (7, 30, [some (.inr (.inl 0)), some (.inl a1), some (.inl a2)], [], M) Q := by
  refine x_aload_n i_7_30 rfl rfl ?_
  refine x_callv (as := []) (rest := []) i_7_31 k_7_91 rfl rfl rfl g_0 (Nat.le_of_ble_eq_true rfl) m_21 rfl h
/-! GateBench.shorten at 34 -/
theorem s_7_34 {L : Nat} {M : pm_M} {Q : pm_P} {a1 a2 r : Int}
    (h : ((r = 0 → pm_X L (23, 0, [some (.inr (.inl 0)), some (.inl a1), none], [], M) (pm_back (pm_X L) 7 45 [some (.inr (.inl 0)), some (.inl a1), some (.inl a2)] [] Q)) ∧ (¬ (r = 0) → (pm_R (a1 + 1)) ∧ pm_X L (7, 48, [some (.inr (.inl 0)), some (.inl (a1 + 1)), some (.inl a2)], [], M) Q))) :
    pm_X L (7, 34, [some (.inr (.inl 0)), some (.inl a1), some (.inl a2)], [.inl r], M) Q := by
  refine x_if (C := r = 0) i_7_34 rfl Iff.rfl rfl ⟨fun c1 => ?_, fun c1 => ?_⟩
  · replace h := h.1 c1
    refine x_aload_n i_7_43 rfl rfl ?_
    refine x_iload_n i_7_44 rfl rfl ?_
    refine x_callv (as := [.inl a1]) (rest := []) i_7_45 k_7_98 rfl rfl rfl g_0 (Nat.le_of_ble_eq_true rfl) m_23 rfl h
  · replace h := h.2 c1
    obtain ⟨q2, h⟩ := h
    refine x_iinc i_7_37 rfl (by decide) rfl rfl q2 ?_
    refine x_goto i_7_40 rfl ?_
    exact h
/-! GateBench.shorten at 48 -/
theorem s_7_48 {L : Nat} {M : pm_M} {Q : pm_P} {a1 a2 : Int}
    (h : (pm_R (a2 + (-1))) ∧ pm_X L (7, 21, [some (.inr (.inl 0)), some (.inl a1), some (.inl (a2 + (-1)))], [], M) Q) :
    pm_X L (7, 48, [some (.inr (.inl 0)), some (.inl a1), some (.inl a2)], [], M) Q := by
  obtain ⟨q1, h⟩ := h
  refine x_iinc i_7_48 rfl (by decide) rfl rfl q1 ?_
  refine x_goto i_7_51 rfl ?_
  exact h
/-! GateBench.wanted at 0 -/
theorem s_8_0 {L : Nat} {M : pm_M} {Q : pm_P} {a1 : Int}
    (h : ((a1 < 0 → (1 ≤ M 99 0) ∧ Q (.inr 0) (pm_set M 99 0 (M 99 0 - 1))) ∧ (¬ (a1 < 0) → ((a1 < M 0 5 → (0 ≤ a1 ∧ a1 < 20) ∧ Q (.inl (some (.inl (M 6 a1)))) M) ∧ (¬ (a1 < M 0 5) → (1 ≤ M 99 0) ∧ Q (.inr 0) (pm_set M 99 0 (M 99 0 - 1))))))) :
    pm_X L (8, 0, [some (.inr (.inl 0)), some (.inl a1)], [], M) Q := by
  refine x_iload_n i_8_0 rfl rfl ?_
  refine x_if (C := a1 < 0) i_8_1 rfl Iff.rfl rfl ⟨fun c1 => ?_, fun c1 => ?_⟩
  · replace h := h.1 c1
    obtain ⟨q2, h⟩ := h
    refine x_throw i_8_12 t_8_12 q2 ?_
    exact h
  · replace h := h.2 c1
    refine x_iload_n i_8_4 rfl rfl ?_
    refine x_aload_n i_8_5 rfl rfl ?_
    refine x_geti (v := M 0 5) i_8_6 f_8_83 g_0 rfl (rfl) rfl ?_
    refine x_icmp (C := a1 < M 0 5) i_8_9 rfl Iff.rfl rfl ⟨fun c3 => ?_, fun c3 => ?_⟩
    · replace h := h.1 c3
      refine x_aload_n i_8_22 rfl rfl ?_
      refine x_getr i_8_23 f_8_41 g_0 rfl rfl ?_
      refine x_iload_n i_8_26 rfl rfl ?_
      obtain ⟨q4, h⟩ := h
      refine x_iaload (v := M 6 a1) i_8_27 g_6 (rfl) rfl q4 ?_
      exact x_ireti i_8_28 r_8 h
    · replace h := h.2 c3
      obtain ⟨q5, h⟩ := h
      refine x_throw i_8_12 t_8_12 q5 ?_
      exact h
/-! GateBench.same at 0 -/
theorem s_9_0 {L : Nat} {M : pm_M} {Q : pm_P} {a1 a2 : Int}
    (h : ((a1 < 0 → (1 ≤ M 99 0) ∧ Q (.inr 0) (pm_set M 99 0 (M 99 0 - 1))) ∧ (¬ (a1 < 0) → ((a1 < M 1 6 → ((a2 < 0 → (1 ≤ M 99 0) ∧ Q (.inr 0) (pm_set M 99 0 (M 99 0 - 1))) ∧ (¬ (a2 < 0) → ((a2 < M 1 6 → pm_X L (20, 0, [some (.inr (.inl 0)), some (.inl a1), some (.inl a2)], [], M) (pm_back (pm_X L) 9 13 [some (.inr (.inl 0)), some (.inl a1), some (.inl a2), none] [] Q)) ∧ (¬ (a2 < M 1 6) → (1 ≤ M 99 0) ∧ Q (.inr 0) (pm_set M 99 0 (M 99 0 - 1))))))) ∧ (¬ (a1 < M 1 6) → (1 ≤ M 99 0) ∧ Q (.inr 0) (pm_set M 99 0 (M 99 0 - 1))))))) :
    pm_X L (9, 0, [some (.inr (.inl 0)), some (.inl a1), some (.inl a2), none], [], M) Q := by
  refine x_aload_n i_9_0 rfl rfl ?_
  refine x_iload_n i_9_1 rfl rfl ?_
  refine x_callv (as := [.inl a1]) (rest := []) i_9_2 k_9_63 rfl rfl rfl g_0 (Nat.le_of_ble_eq_true rfl) m_17 rfl ?_
  refine x_iload_n i_17_0 rfl rfl ?_
  refine x_if (C := a1 < 0) i_17_1 rfl Iff.rfl rfl ⟨fun c1 => ?_, fun c1 => ?_⟩
  · replace h := h.1 c1
    obtain ⟨q2, h⟩ := h
    refine x_throw i_17_15 t_17_15 q2 ?_
    refine x_bkt rfl (by decide) ?_
    exact h
  · replace h := h.2 c1
    refine x_iload_n i_17_4 rfl rfl ?_
    refine x_aload_n i_17_5 rfl rfl ?_
    refine x_getr i_17_6 f_17_12 g_0 rfl rfl ?_
    refine x_geti (v := M 1 6) i_17_9 f_17_126 g_1 rfl (rfl) rfl ?_
    refine x_icmp (C := a1 < M 1 6) i_17_12 rfl Iff.rfl rfl ⟨fun c3 => ?_, fun c3 => ?_⟩
    · replace h := h.1 c3
      refine x_ret i_17_25 r_17 ?_
      refine x_bkv rfl ?_
      refine x_aload_n i_9_5 rfl rfl ?_
      refine x_iload_n i_9_6 rfl rfl ?_
      refine x_callv (as := [.inl a2]) (rest := []) i_9_7 k_9_63 rfl rfl rfl g_0 (Nat.le_of_ble_eq_true rfl) m_17 rfl ?_
      refine x_iload_n i_17_0 rfl rfl ?_
      refine x_if (C := a2 < 0) i_17_1 rfl Iff.rfl rfl ⟨fun c4 => ?_, fun c4 => ?_⟩
      · replace h := h.1 c4
        obtain ⟨q5, h⟩ := h
        refine x_throw i_17_15 t_17_15 q5 ?_
        refine x_bkt rfl (by decide) ?_
        exact h
      · replace h := h.2 c4
        refine x_iload_n i_17_4 rfl rfl ?_
        refine x_aload_n i_17_5 rfl rfl ?_
        refine x_getr i_17_6 f_17_12 g_0 rfl rfl ?_
        refine x_geti (v := M 1 6) i_17_9 f_17_126 g_1 rfl (rfl) rfl ?_
        refine x_icmp (C := a2 < M 1 6) i_17_12 rfl Iff.rfl rfl ⟨fun c6 => ?_, fun c6 => ?_⟩
        · replace h := h.1 c6
          refine x_ret i_17_25 r_17 ?_
          refine x_bkv rfl ?_
          refine x_aload_n i_9_10 rfl rfl ?_
          refine x_iload_n i_9_11 rfl rfl ?_
          refine x_iload_n i_9_12 rfl rfl ?_
          refine x_callv (as := [.inl a1, .inl a2]) (rest := []) i_9_13 k_9_106 rfl rfl rfl g_0 (Nat.le_of_ble_eq_true rfl) m_20 rfl h
        · replace h := h.2 c6
          obtain ⟨q7, h⟩ := h
          refine x_throw i_17_15 t_17_15 q7 ?_
          refine x_bkt rfl (by decide) ?_
          exact h
    · replace h := h.2 c3
      obtain ⟨q8, h⟩ := h
      refine x_throw i_17_15 t_17_15 q8 ?_
      refine x_bkt rfl (by decide) ?_
      exact h
/-! GateBench.same at 16 -/
theorem s_9_16 {L : Nat} {M : pm_M} {Q : pm_P} {a1 a2 : Int}
    (h : pm_X L (21, 0, [some (.inr (.inl 0)), none], [], M) (pm_back (pm_X L) 9 17 [some (.inr (.inl 0)), some (.inl a1), some (.inl a2), none] [] Q)) :
    pm_X L (9, 16, [some (.inr (.inl 0)), some (.inl a1), some (.inl a2), none], [], M) Q := by
  refine x_aload_n i_9_16 rfl rfl ?_
  refine x_callv (as := []) (rest := []) i_9_17 k_9_91 rfl rfl rfl g_0 (Nat.le_of_ble_eq_true rfl) m_21 rfl h
/-! GateBench.same at 20 -/
theorem s_9_20 {L : Nat} {M : pm_M} {Q : pm_P} {a1 a2 r : Int}
    (h : ((r = 0 → pm_X L (9, 29, [some (.inr (.inl 0)), some (.inl a1), some (.inl a2), some (.inl r)], [], M) Q) ∧ (¬ (r = 0) → pm_X L (22, 0, [some (.inr (.inl 0)), none, none], [], M) (pm_back (pm_X L) 9 26 [some (.inr (.inl 0)), some (.inl a1), some (.inl a2), some (.inl r)] [] Q)))) :
    pm_X L (9, 20, [some (.inr (.inl 0)), some (.inl a1), some (.inl a2), none], [.inl r], M) Q := by
  refine x_istore_n i_9_20 (Nat.le_of_ble_eq_true rfl) rfl rfl ?_
  refine x_iload_n i_9_21 rfl rfl ?_
  refine x_if (C := r = 0) i_9_22 rfl Iff.rfl rfl ⟨fun c1 => ?_, fun c1 => ?_⟩
  · replace h := h.1 c1
    exact h
  · replace h := h.2 c1
    refine x_aload_n i_9_25 rfl rfl ?_
    refine x_callv (as := []) (rest := []) i_9_26 k_9_95 rfl rfl rfl g_0 (Nat.le_of_ble_eq_true rfl) m_22 rfl h
/-! GateBench.same at 29 -/
theorem s_9_29 {L : Nat} {M : pm_M} {Q : pm_P} {a1 a2 a3 : Int}
    (h : ((¬ a3 = 0 → Q (.inl (some (.inl 0))) M) ∧ (¬ (¬ a3 = 0) → Q (.inl (some (.inl 1))) M))) :
    pm_X L (9, 29, [some (.inr (.inl 0)), some (.inl a1), some (.inl a2), some (.inl a3)], [], M) Q := by
  refine x_iload_n i_9_29 rfl rfl ?_
  refine x_if (C := ¬ a3 = 0) i_9_30 rfl Iff.rfl rfl ⟨fun c1 => ?_, fun c1 => ?_⟩
  · replace h := h.1 c1
    refine x_iconst i_9_37 (by decide) rfl ?_
    exact x_iretz i_9_38 r_9 (by unfold pm_bit; decide) h
  · replace h := h.2 c1
    refine x_iconst i_9_33 (by decide) rfl ?_
    refine x_goto i_9_34 rfl ?_
    exact x_iretz i_9_38 r_9 (by unfold pm_bit; decide) h
/-! GateBench.put at 0 -/
theorem s_10_0 {L : Nat} {M : pm_M} {Q : pm_P} {a1 a2 : Int}
    (h : ((a1 < 0 → (1 ≤ M 99 0) ∧ Q (.inr 0) (pm_set M 99 0 (M 99 0 - 1))) ∧ (¬ (a1 < 0) → ((a1 < M 1 7 → (0 ≤ a1 ∧ a1 < 12) ∧ (0 ≤ M 12 a1 ∧ M 12 a1 < 2000) ∧ ((0 ≤ M 12 a1 ∧ M 12 a1 < 2000) ∧ pm_bit a2) ∧ (pm_bit (M 10 (M 12 a1))) ∧ Q (.inl (some (.inl (M 10 (M 12 a1))))) (pm_set M 10 (M 12 a1) a2)) ∧ (¬ (a1 < M 1 7) → (1 ≤ M 99 0) ∧ Q (.inr 0) (pm_set M 99 0 (M 99 0 - 1))))))) :
    pm_X L (10, 0, [some (.inr (.inl 0)), some (.inl a1), some (.inl a2), none, none], [], M) Q := by
  refine x_iload_n i_10_0 rfl rfl ?_
  refine x_if (C := a1 < 0) i_10_1 rfl Iff.rfl rfl ⟨fun c1 => ?_, fun c1 => ?_⟩
  · replace h := h.1 c1
    obtain ⟨q2, h⟩ := h
    refine x_throw i_10_15 t_10_15 q2 ?_
    exact h
  · replace h := h.2 c1
    refine x_iload_n i_10_4 rfl rfl ?_
    refine x_aload_n i_10_5 rfl rfl ?_
    refine x_getr i_10_6 f_10_12 g_0 rfl rfl ?_
    refine x_geti (v := M 1 7) i_10_9 f_10_45 g_1 rfl (rfl) rfl ?_
    refine x_icmp (C := a1 < M 1 7) i_10_12 rfl Iff.rfl rfl ⟨fun c3 => ?_, fun c3 => ?_⟩
    · replace h := h.1 c3
      refine x_aload_n i_10_25 rfl rfl ?_
      refine x_getr i_10_26 f_10_12 g_0 rfl rfl ?_
      refine x_getr i_10_29 f_10_112 g_1 rfl rfl ?_
      refine x_iload_n i_10_32 rfl rfl ?_
      obtain ⟨q4, h⟩ := h
      refine x_iaload (v := M 12 a1) i_10_33 g_12 (rfl) rfl q4 ?_
      refine x_istore_n i_10_34 (Nat.le_of_ble_eq_true rfl) rfl rfl ?_
      refine x_aload_n i_10_35 rfl rfl ?_
      refine x_getr i_10_36 f_10_12 g_0 rfl rfl ?_
      refine x_getr i_10_39 f_10_115 g_1 rfl rfl ?_
      refine x_iload_n i_10_42 rfl rfl ?_
      obtain ⟨q5, h⟩ := h
      refine x_baload (v := M 10 (M 12 a1)) i_10_43 g_10 (rfl) rfl q5 ?_
      refine x_istore i_10_44 (Nat.le_of_ble_eq_true rfl) rfl rfl ?_
      refine x_aload_n i_10_46 rfl rfl ?_
      refine x_getr i_10_47 f_10_12 g_0 rfl rfl ?_
      refine x_getr i_10_50 f_10_115 g_1 rfl rfl ?_
      refine x_iload_n i_10_53 rfl rfl ?_
      refine x_iload_n i_10_54 rfl rfl ?_
      obtain ⟨q6, h⟩ := h
      refine x_bastore i_10_55 g_10 rfl q6 ?_
      refine x_iload i_10_56 rfl rfl ?_
      obtain ⟨q7, h⟩ := h
      exact x_iretz i_10_58 r_10 q7 h
    · replace h := h.2 c3
      obtain ⟨q8, h⟩ := h
      refine x_throw i_10_15 t_10_15 q8 ?_
      exact h
/-! GateBench.value at 0 -/
theorem s_11_0 {L : Nat} {M : pm_M} {Q : pm_P} {a1 : Int}
    (h : ((a1 < 0 → (1 ≤ M 99 0) ∧ Q (.inr 0) (pm_set M 99 0 (M 99 0 - 1))) ∧ (¬ (a1 < 0) → ((a1 < M 1 6 → pm_X L (26, 0, [some (.inr (.inl 1)), some (.inl a1), none], [], M) (pm_back (pm_X L) 11 10 [some (.inr (.inl 0)), some (.inl a1)] [] Q)) ∧ (¬ (a1 < M 1 6) → (1 ≤ M 99 0) ∧ Q (.inr 0) (pm_set M 99 0 (M 99 0 - 1))))))) :
    pm_X L (11, 0, [some (.inr (.inl 0)), some (.inl a1)], [], M) Q := by
  refine x_aload_n i_11_0 rfl rfl ?_
  refine x_iload_n i_11_1 rfl rfl ?_
  refine x_callv (as := [.inl a1]) (rest := []) i_11_2 k_11_63 rfl rfl rfl g_0 (Nat.le_of_ble_eq_true rfl) m_17 rfl ?_
  refine x_iload_n i_17_0 rfl rfl ?_
  refine x_if (C := a1 < 0) i_17_1 rfl Iff.rfl rfl ⟨fun c1 => ?_, fun c1 => ?_⟩
  · replace h := h.1 c1
    obtain ⟨q2, h⟩ := h
    refine x_throw i_17_15 t_17_15 q2 ?_
    refine x_bkt rfl (by decide) ?_
    exact h
  · replace h := h.2 c1
    refine x_iload_n i_17_4 rfl rfl ?_
    refine x_aload_n i_17_5 rfl rfl ?_
    refine x_getr i_17_6 f_17_12 g_0 rfl rfl ?_
    refine x_geti (v := M 1 6) i_17_9 f_17_126 g_1 rfl (rfl) rfl ?_
    refine x_icmp (C := a1 < M 1 6) i_17_12 rfl Iff.rfl rfl ⟨fun c3 => ?_, fun c3 => ?_⟩
    · replace h := h.1 c3
      refine x_ret i_17_25 r_17 ?_
      refine x_bkv rfl ?_
      refine x_aload_n i_11_5 rfl rfl ?_
      refine x_getr i_11_6 f_11_12 g_0 rfl rfl ?_
      refine x_iload_n i_11_9 rfl rfl ?_
      refine x_callv (as := [.inl a1]) (rest := []) i_11_10 k_11_119 rfl rfl rfl g_1 (Nat.le_of_ble_eq_true rfl) m_26 rfl h
    · replace h := h.2 c3
      obtain ⟨q4, h⟩ := h
      refine x_throw i_17_15 t_17_15 q4 ?_
      refine x_bkt rfl (by decide) ?_
      exact h
/-! GateBench.value at 13 -/
theorem s_11_13 {L : Nat} {M : pm_M} {Q : pm_P} {a1 r : Int}
    (h : (pm_bit r) ∧ Q (.inl (some (.inl r))) M) :
    pm_X L (11, 13, [some (.inr (.inl 0)), some (.inl a1)], [.inl r], M) Q := by
  obtain ⟨q1, h⟩ := h
  exact x_iretz i_11_13 r_11 q1 h
/-! GateBench.doubts at 0 -/
theorem s_12_0 {L : Nat} {M : pm_M} {Q : pm_P}
    (h : Q (.inl (some (.inl (M 0 6)))) M) :
    pm_X L (12, 0, [some (.inr (.inl 0))], [], M) Q := by
  refine x_aload_n i_12_0 rfl rfl ?_
  refine x_geti (v := M 0 6) i_12_1 f_12_123 g_0 rfl (rfl) rfl ?_
  exact x_ireti i_12_4 r_12 h
/-! GateBench.count at 0 -/
theorem s_13_0 {L : Nat} {M : pm_M} {Q : pm_P} {a1 : Int}
    (h : ((a1 = 0 → Q (.inl (some (.inl (M 1 6)))) M) ∧ (a1 = 1 → Q (.inl (some (.inl (M 1 7)))) M) ∧ (a1 = 2 → Q (.inl (some (.inl (M 0 5)))) M) ∧ ((a1 < 0 ∨ 2 < a1) → Q (.inl (some (.inl (-1)))) M))) :
    pm_X L (13, 0, [some (.inr (.inl 0)), some (.inl a1)], [], M) Q := by
  refine x_iload_n i_13_0 rfl rfl ?_
  rcases (by omega : a1 = 0 ∨ a1 = 1 ∨ a1 = 2 ∨ (a1 < 0 ∨ 2 < a1)) with c1 | c1 | c1 | c1
  · replace h := h.1 c1
    refine x_swV i_13_1 c1 (by decide) rfl rfl ?_
    refine x_aload_n i_13_28 rfl rfl ?_
    refine x_getr i_13_29 f_13_12 g_0 rfl rfl ?_
    refine x_geti (v := M 1 6) i_13_32 f_13_126 g_1 rfl (rfl) rfl ?_
    exact x_ireti i_13_35 r_13 h
  · replace h := h.2.1 c1
    refine x_swV i_13_1 c1 (by decide) rfl rfl ?_
    refine x_aload_n i_13_36 rfl rfl ?_
    refine x_getr i_13_37 f_13_12 g_0 rfl rfl ?_
    refine x_geti (v := M 1 7) i_13_40 f_13_45 g_1 rfl (rfl) rfl ?_
    exact x_ireti i_13_43 r_13 h
  · replace h := h.2.2.1 c1
    refine x_swV i_13_1 c1 (by decide) rfl rfl ?_
    refine x_aload_n i_13_44 rfl rfl ?_
    refine x_geti (v := M 0 5) i_13_45 f_13_83 g_0 rfl (rfl) rfl ?_
    exact x_ireti i_13_48 r_13 h
  · replace h := h.2.2.2 c1
    refine x_swO i_13_1 rfl c1 ?_
    refine x_iconst i_13_49 (by decide) rfl ?_
    exact x_ireti i_13_50 r_13 h
/-! GateBench.literal at 0 -/
theorem s_14_0 {L : Nat} {M : pm_M} {Q : pm_P} {a0 : Int}
    (h : (pm_R (2 * a0)) ∧ Q (.inl (some (.inl (2 * a0)))) M) :
    pm_X L (14, 0, [some (.inl a0)], [], M) Q := by
  refine x_iconst i_14_0 (by decide) rfl ?_
  refine x_iload_n i_14_1 rfl rfl ?_
  obtain ⟨q1, h⟩ := h
  refine x_imul i_14_2 rfl q1 ?_
  exact x_ireti i_14_3 r_14 h
/-! GateBench.opposite at 0 -/
theorem s_15_0 {L : Nat} {M : pm_M} {Q : pm_P} {a0 : Int}
    (h : Q (.inl (some (.inl (pm_op a0)))) M) :
    pm_X L (15, 0, [some (.inl a0)], [], M) Q := by
  refine x_iload_n i_15_0 rfl rfl ?_
  refine x_iconst i_15_1 (by decide) rfl ?_
  refine x_ixor i_15_2 rfl ?_
  exact x_ireti i_15_3 r_15 h
/-! GateBench.formulaOf at 0 -/
theorem s_16_0 {L : Nat} {M : pm_M} {Q : pm_P} {a0 : Int}
    (h : Q (.inl (some (.inl (a0 / 2)))) M) :
    pm_X L (16, 0, [some (.inl a0)], [], M) Q := by
  refine x_iload_n i_16_0 rfl rfl ?_
  refine x_iconst i_16_1 (by decide) rfl ?_
  refine x_ishr i_16_2 rfl ?_
  exact x_ireti i_16_3 r_16 h
/-! GateBench.requireFormula at 0 -/
theorem s_17_0 {L : Nat} {M : pm_M} {Q : pm_P} {a1 : Int}
    (h : ((a1 < 0 → (1 ≤ M 99 0) ∧ Q (.inr 0) (pm_set M 99 0 (M 99 0 - 1))) ∧ (¬ (a1 < 0) → ((a1 < M 1 6 → Q (.inl none) M) ∧ (¬ (a1 < M 1 6) → (1 ≤ M 99 0) ∧ Q (.inr 0) (pm_set M 99 0 (M 99 0 - 1))))))) :
    pm_X L (17, 0, [some (.inr (.inl 0)), some (.inl a1)], [], M) Q := by
  refine x_iload_n i_17_0 rfl rfl ?_
  refine x_if (C := a1 < 0) i_17_1 rfl Iff.rfl rfl ⟨fun c1 => ?_, fun c1 => ?_⟩
  · replace h := h.1 c1
    obtain ⟨q2, h⟩ := h
    refine x_throw i_17_15 t_17_15 q2 ?_
    exact h
  · replace h := h.2 c1
    refine x_iload_n i_17_4 rfl rfl ?_
    refine x_aload_n i_17_5 rfl rfl ?_
    refine x_getr i_17_6 f_17_12 g_0 rfl rfl ?_
    refine x_geti (v := M 1 6) i_17_9 f_17_126 g_1 rfl (rfl) rfl ?_
    refine x_icmp (C := a1 < M 1 6) i_17_12 rfl Iff.rfl rfl ⟨fun c3 => ?_, fun c3 => ?_⟩
    · replace h := h.1 c3
      exact x_ret i_17_25 r_17 h
    · replace h := h.2 c3
      obtain ⟨q4, h⟩ := h
      refine x_throw i_17_15 t_17_15 q4 ?_
      exact h
/-! GateBench.requireRoom at 0 -/
theorem s_18_0 {L : Nat} {M : pm_M} {Q : pm_P}
    (h : ((¬ M 1 6 = 2000 → Q (.inl none) M) ∧ (¬ (¬ M 1 6 = 2000) → (1 ≤ M 99 0) ∧ Q (.inr 1) (pm_set M 99 0 (M 99 0 - 1))))) :
    pm_X L (18, 0, [some (.inr (.inl 0))], [], M) Q := by
  refine x_aload_n i_18_0 rfl rfl ?_
  refine x_getr i_18_1 f_18_12 g_0 rfl rfl ?_
  refine x_geti (v := M 1 6) i_18_4 f_18_126 g_1 rfl (rfl) rfl ?_
  refine x_sipush i_18_7 (by decide) rfl ?_
  refine x_icmp (C := ¬ M 1 6 = 2000) i_18_10 rfl Iff.rfl rfl ⟨fun c1 => ?_, fun c1 => ?_⟩
  · replace h := h.1 c1
    exact x_ret i_18_23 r_18 h
  · replace h := h.2 c1
    obtain ⟨q2, h⟩ := h
    refine x_throw i_18_13 t_18_13 q2 ?_
    exact h
/-! GateBench.askForListWithout at 0 -/
theorem s_19_0 {L : Nat} {M : pm_M} {Q : pm_P} {a1 : Int}
    (h : pm_X L (28, 0, [some (.inr (.inl 1)), none], [], pm_set (pm_set M 2 2 0) 2 3 0) (pm_back (pm_X L) 19 11 [some (.inr (.inl 0)), some (.inl a1), none] [] Q)) :
    pm_X L (19, 0, [some (.inr (.inl 0)), some (.inl a1), none], [], M) Q := by
  refine x_aload_n i_19_0 rfl rfl ?_
  refine x_getr i_19_1 f_19_19 g_0 rfl rfl ?_
  refine x_callv (as := []) (rest := []) i_19_4 k_19_133 rfl rfl rfl g_2 (Nat.le_of_ble_eq_true rfl) m_32 rfl ?_
  refine x_aload_n i_32_0 rfl rfl ?_
  refine x_iconst i_32_1 (by decide) rfl ?_
  refine x_puti i_32_2 f_32_19 g_2 rfl rfl ?_
  refine x_aload_n i_32_5 rfl rfl ?_
  refine x_iconst i_32_6 (by decide) rfl ?_
  refine x_puti i_32_7 f_32_23 g_2 rfl rfl ?_
  refine x_ret i_32_10 r_32 ?_
  refine x_bkv rfl ?_
  refine x_aload_n i_19_7 rfl rfl ?_
  refine x_getr i_19_8 f_19_12 g_0 rfl rfl ?_
  refine x_callv (as := []) (rest := []) i_19_11 k_19_136 rfl rfl rfl g_1 (Nat.le_of_ble_eq_true rfl) m_28 rfl h
/-! GateBench.askForListWithout at 14 -/
theorem s_19_14 {L : Nat} {M : pm_M} {Q : pm_P} {a1 : Int}
    (h : pm_X L (19, 16, [some (.inr (.inl 0)), some (.inl a1), some (.inl 0)], [], M) Q) :
    pm_X L (19, 14, [some (.inr (.inl 0)), some (.inl a1), none], [], M) Q := by
  refine x_iconst i_19_14 (by decide) rfl ?_
  refine x_istore_n i_19_15 (Nat.le_of_ble_eq_true rfl) rfl rfl ?_
  exact h
/-! GateBench.askForListWithout at 16 -/
theorem s_19_16 {L : Nat} {M : pm_M} {Q : pm_P} {a1 a2 : Int}
    (h : ((M 0 5 ≤ a2 → pm_X L (30, 0, [some (.inr (.inl 1)), some (.inr (.inl 2)), none], [], M) (pm_back (pm_X L) 19 74 [some (.inr (.inl 0)), some (.inl a1), some (.inl a2)] [] Q)) ∧ (¬ (M 0 5 ≤ a2) → ((a2 = a1 → (pm_R (a2 + 1)) ∧ pm_X L (19, 16, [some (.inr (.inl 0)), some (.inl a1), some (.inl (a2 + 1))], [], M) Q) ∧ (¬ (a2 = a1) → (0 ≤ a2 ∧ a2 < 20) ∧ (pm_R (2 * M 6 a2)) ∧ pm_X L (33, 0, [some (.inr (.inl 2)), some (.inl (2 * M 6 a2)), some (.inl 0), some (.inl 0)], [], M) (pm_back (pm_X L) 19 44 [some (.inr (.inl 0)), some (.inl a1), some (.inl a2)] [] Q)))))) :
    pm_X L (19, 16, [some (.inr (.inl 0)), some (.inl a1), some (.inl a2)], [], M) Q := by
  refine x_iload_n i_19_16 rfl rfl ?_
  refine x_aload_n i_19_17 rfl rfl ?_
  refine x_geti (v := M 0 5) i_19_18 f_19_83 g_0 rfl (rfl) rfl ?_
  refine x_icmp (C := M 0 5 ≤ a2) i_19_21 rfl Iff.rfl rfl ⟨fun c1 => ?_, fun c1 => ?_⟩
  · replace h := h.1 c1
    refine x_aload_n i_19_66 rfl rfl ?_
    refine x_getr i_19_67 f_19_12 g_0 rfl rfl ?_
    refine x_aload_n i_19_70 rfl rfl ?_
    refine x_getr i_19_71 f_19_19 g_0 rfl rfl ?_
    refine x_callv (as := [.inr (.inl 2)]) (rest := []) i_19_74 k_19_146 rfl rfl rfl g_1 (Nat.le_of_ble_eq_true rfl) m_30 rfl h
  · replace h := h.2 c1
    refine x_iload_n i_19_24 rfl rfl ?_
    refine x_iload_n i_19_25 rfl rfl ?_
    refine x_icmp (C := a2 = a1) i_19_26 rfl Iff.rfl rfl ⟨fun c2 => ?_, fun c2 => ?_⟩
    · replace h := h.1 c2
      obtain ⟨q3, h⟩ := h
      refine x_iinc i_19_60 rfl (by decide) rfl rfl q3 ?_
      refine x_goto i_19_63 rfl ?_
      exact h
    · replace h := h.2 c2
      refine x_aload_n i_19_29 rfl rfl ?_
      refine x_getr i_19_30 f_19_19 g_0 rfl rfl ?_
      refine x_aload_n i_19_33 rfl rfl ?_
      refine x_getr i_19_34 f_19_41 g_0 rfl rfl ?_
      refine x_iload_n i_19_37 rfl rfl ?_
      obtain ⟨q4, h⟩ := h
      refine x_iaload (v := M 6 a2) i_19_38 g_6 (rfl) rfl q4 ?_
      refine x_calls (as := [.inl (M 6 a2)]) (rest := [.inr (.inl 2)]) i_19_39 k_19_67 rfl rfl rfl (Nat.le_of_ble_eq_true rfl) m_14 rfl ?_
      refine x_iconst i_14_0 (by decide) rfl ?_
      refine x_iload_n i_14_1 rfl rfl ?_
      obtain ⟨q5, h⟩ := h
      refine x_imul i_14_2 rfl q5 ?_
      refine x_ireti i_14_3 r_14 ?_
      refine x_bki rfl ?_
      refine x_iconst i_19_42 (by decide) rfl ?_
      refine x_iconst i_19_43 (by decide) rfl ?_
      refine x_callv (as := [.inl (2 * M 6 a2), .inl 0, .inl 0]) (rest := []) i_19_44 k_19_139 rfl rfl rfl g_2 (Nat.le_of_ble_eq_true rfl) m_33 rfl h
/-! GateBench.askForListWithout at 47 -/
theorem s_19_47 {L : Nat} {M : pm_M} {Q : pm_P} {a1 a2 : Int}
    (h : (0 ≤ a2 ∧ a2 < 20) ∧ (0 ≤ M 6 a2 ∧ M 6 a2 < 2000) ∧ (pm_R (a2 + 1)) ∧ pm_X L (19, 16, [some (.inr (.inl 0)), some (.inl a1), some (.inl (a2 + 1))], [], pm_set M 11 (M 6 a2) 1) Q) :
    pm_X L (19, 47, [some (.inr (.inl 0)), some (.inl a1), some (.inl a2)], [], M) Q := by
  refine x_aload_n i_19_47 rfl rfl ?_
  refine x_getr i_19_48 f_19_12 g_0 rfl rfl ?_
  refine x_aload_n i_19_51 rfl rfl ?_
  refine x_getr i_19_52 f_19_41 g_0 rfl rfl ?_
  refine x_iload_n i_19_55 rfl rfl ?_
  obtain ⟨q1, h⟩ := h
  refine x_iaload (v := M 6 a2) i_19_56 g_6 (rfl) rfl q1 ?_
  refine x_callv (as := [.inl (M 6 a2)]) (rest := []) i_19_57 k_19_143 rfl rfl rfl g_1 (Nat.le_of_ble_eq_true rfl) m_29 rfl ?_
  refine x_aload_n i_29_0 rfl rfl ?_
  refine x_getr i_29_1 f_29_25 g_1 rfl rfl ?_
  refine x_iload_n i_29_4 rfl rfl ?_
  refine x_iconst i_29_5 (by decide) rfl ?_
  obtain ⟨q2, h⟩ := h
  refine x_bastore i_29_6 g_11 rfl ⟨q2, by unfold pm_bit; decide⟩ ?_
  refine x_ret i_29_7 r_29 ?_
  refine x_bkv rfl ?_
  obtain ⟨q3, h⟩ := h
  refine x_iinc i_19_60 rfl (by decide) rfl rfl q3 ?_
  refine x_goto i_19_63 rfl ?_
  exact h
/-! GateBench.askForListWithout at 77 -/
theorem s_19_77 {L : Nat} {M : pm_M} {Q : pm_P} {a1 a2 : Int}
    (h : Q (.inl none) M) :
    pm_X L (19, 77, [some (.inr (.inl 0)), some (.inl a1), some (.inl a2)], [], M) Q := by
  exact x_ret i_19_77 r_19 h
/-! GateBench.askForDifference at 0 -/
theorem s_20_0 {L : Nat} {M : pm_M} {Q : pm_P} {a1 a2 : Int}
    (h : pm_X L (28, 0, [some (.inr (.inl 1)), none], [], pm_set (pm_set M 2 2 0) 2 3 0) (pm_back (pm_X L) 20 11 [some (.inr (.inl 0)), some (.inl a1), some (.inl a2)] [] Q)) :
    pm_X L (20, 0, [some (.inr (.inl 0)), some (.inl a1), some (.inl a2)], [], M) Q := by
  refine x_aload_n i_20_0 rfl rfl ?_
  refine x_getr i_20_1 f_20_19 g_0 rfl rfl ?_
  refine x_callv (as := []) (rest := []) i_20_4 k_20_133 rfl rfl rfl g_2 (Nat.le_of_ble_eq_true rfl) m_32 rfl ?_
  refine x_aload_n i_32_0 rfl rfl ?_
  refine x_iconst i_32_1 (by decide) rfl ?_
  refine x_puti i_32_2 f_32_19 g_2 rfl rfl ?_
  refine x_aload_n i_32_5 rfl rfl ?_
  refine x_iconst i_32_6 (by decide) rfl ?_
  refine x_puti i_32_7 f_32_23 g_2 rfl rfl ?_
  refine x_ret i_32_10 r_32 ?_
  refine x_bkv rfl ?_
  refine x_aload_n i_20_7 rfl rfl ?_
  refine x_getr i_20_8 f_20_12 g_0 rfl rfl ?_
  refine x_callv (as := []) (rest := []) i_20_11 k_20_136 rfl rfl rfl g_1 (Nat.le_of_ble_eq_true rfl) m_28 rfl h
/-! GateBench.askForDifference at 14 -/
theorem s_20_14 {L : Nat} {M : pm_M} {Q : pm_P} {a1 a2 : Int}
    (h : (pm_R (2 * a1)) ∧ (pm_R (2 * a2)) ∧ pm_X L (33, 0, [some (.inr (.inl 2)), some (.inl (2 * a1)), some (.inl (2 * a2)), some (.inl 0)], [], M) (pm_back (pm_X L) 20 27 [some (.inr (.inl 0)), some (.inl a1), some (.inl a2)] [] Q)) :
    pm_X L (20, 14, [some (.inr (.inl 0)), some (.inl a1), some (.inl a2)], [], M) Q := by
  refine x_aload_n i_20_14 rfl rfl ?_
  refine x_getr i_20_15 f_20_19 g_0 rfl rfl ?_
  refine x_iload_n i_20_18 rfl rfl ?_
  refine x_calls (as := [.inl a1]) (rest := [.inr (.inl 2)]) i_20_19 k_20_67 rfl rfl rfl (Nat.le_of_ble_eq_true rfl) m_14 rfl ?_
  refine x_iconst i_14_0 (by decide) rfl ?_
  refine x_iload_n i_14_1 rfl rfl ?_
  obtain ⟨q1, h⟩ := h
  refine x_imul i_14_2 rfl q1 ?_
  refine x_ireti i_14_3 r_14 ?_
  refine x_bki rfl ?_
  refine x_iload_n i_20_22 rfl rfl ?_
  refine x_calls (as := [.inl a2]) (rest := [.inl (2 * a1), .inr (.inl 2)]) i_20_23 k_20_67 rfl rfl rfl (Nat.le_of_ble_eq_true rfl) m_14 rfl ?_
  refine x_iconst i_14_0 (by decide) rfl ?_
  refine x_iload_n i_14_1 rfl rfl ?_
  obtain ⟨q2, h⟩ := h
  refine x_imul i_14_2 rfl q2 ?_
  refine x_ireti i_14_3 r_14 ?_
  refine x_bki rfl ?_
  refine x_iconst i_20_26 (by decide) rfl ?_
  refine x_callv (as := [.inl (2 * a1), .inl (2 * a2), .inl 0]) (rest := []) i_20_27 k_20_139 rfl rfl rfl g_2 (Nat.le_of_ble_eq_true rfl) m_33 rfl h
/-! GateBench.askForDifference at 30 -/
theorem s_20_30 {L : Nat} {M : pm_M} {Q : pm_P} {a1 a2 : Int}
    (h : (pm_R (2 * a1)) ∧ (pm_R (2 * a2)) ∧ pm_X L (33, 0, [some (.inr (.inl 2)), some (.inl (pm_op (2 * a1))), some (.inl (pm_op (2 * a2))), some (.inl 0)], [], M) (pm_back (pm_X L) 20 49 [some (.inr (.inl 0)), some (.inl a1), some (.inl a2)] [] Q)) :
    pm_X L (20, 30, [some (.inr (.inl 0)), some (.inl a1), some (.inl a2)], [], M) Q := by
  refine x_aload_n i_20_30 rfl rfl ?_
  refine x_getr i_20_31 f_20_19 g_0 rfl rfl ?_
  refine x_iload_n i_20_34 rfl rfl ?_
  refine x_calls (as := [.inl a1]) (rest := [.inr (.inl 2)]) i_20_35 k_20_67 rfl rfl rfl (Nat.le_of_ble_eq_true rfl) m_14 rfl ?_
  refine x_iconst i_14_0 (by decide) rfl ?_
  refine x_iload_n i_14_1 rfl rfl ?_
  obtain ⟨q1, h⟩ := h
  refine x_imul i_14_2 rfl q1 ?_
  refine x_ireti i_14_3 r_14 ?_
  refine x_bki rfl ?_
  refine x_calls (as := [.inl (2 * a1)]) (rest := [.inr (.inl 2)]) i_20_38 k_20_80 rfl rfl rfl (Nat.le_of_ble_eq_true rfl) m_15 rfl ?_
  refine x_iload_n i_15_0 rfl rfl ?_
  refine x_iconst i_15_1 (by decide) rfl ?_
  refine x_ixor i_15_2 rfl ?_
  refine x_ireti i_15_3 r_15 ?_
  refine x_bki rfl ?_
  refine x_iload_n i_20_41 rfl rfl ?_
  refine x_calls (as := [.inl a2]) (rest := [.inl (pm_op (2 * a1)), .inr (.inl 2)]) i_20_42 k_20_67 rfl rfl rfl (Nat.le_of_ble_eq_true rfl) m_14 rfl ?_
  refine x_iconst i_14_0 (by decide) rfl ?_
  refine x_iload_n i_14_1 rfl rfl ?_
  obtain ⟨q2, h⟩ := h
  refine x_imul i_14_2 rfl q2 ?_
  refine x_ireti i_14_3 r_14 ?_
  refine x_bki rfl ?_
  refine x_calls (as := [.inl (2 * a2)]) (rest := [.inl (pm_op (2 * a1)), .inr (.inl 2)]) i_20_45 k_20_80 rfl rfl rfl (Nat.le_of_ble_eq_true rfl) m_15 rfl ?_
  refine x_iload_n i_15_0 rfl rfl ?_
  refine x_iconst i_15_1 (by decide) rfl ?_
  refine x_ixor i_15_2 rfl ?_
  refine x_ireti i_15_3 r_15 ?_
  refine x_bki rfl ?_
  refine x_iconst i_20_48 (by decide) rfl ?_
  refine x_callv (as := [.inl (pm_op (2 * a1)), .inl (pm_op (2 * a2)), .inl 0]) (rest := []) i_20_49 k_20_139 rfl rfl rfl g_2 (Nat.le_of_ble_eq_true rfl) m_33 rfl h
/-! GateBench.askForDifference at 52 -/
theorem s_20_52 {L : Nat} {M : pm_M} {Q : pm_P} {a1 a2 : Int}
    (h : (0 ≤ a1 ∧ a1 < 2000) ∧ (0 ≤ a2 ∧ a2 < 2000) ∧ pm_X L (30, 0, [some (.inr (.inl 1)), some (.inr (.inl 2)), none], [], pm_set (pm_set M 11 a1 1) 11 a2 1) (pm_back (pm_X L) 20 76 [some (.inr (.inl 0)), some (.inl a1), some (.inl a2)] [] Q)) :
    pm_X L (20, 52, [some (.inr (.inl 0)), some (.inl a1), some (.inl a2)], [], M) Q := by
  refine x_aload_n i_20_52 rfl rfl ?_
  refine x_getr i_20_53 f_20_12 g_0 rfl rfl ?_
  refine x_iload_n i_20_56 rfl rfl ?_
  refine x_callv (as := [.inl a1]) (rest := []) i_20_57 k_20_143 rfl rfl rfl g_1 (Nat.le_of_ble_eq_true rfl) m_29 rfl ?_
  refine x_aload_n i_29_0 rfl rfl ?_
  refine x_getr i_29_1 f_29_25 g_1 rfl rfl ?_
  refine x_iload_n i_29_4 rfl rfl ?_
  refine x_iconst i_29_5 (by decide) rfl ?_
  obtain ⟨q1, h⟩ := h
  refine x_bastore i_29_6 g_11 rfl ⟨q1, by unfold pm_bit; decide⟩ ?_
  refine x_ret i_29_7 r_29 ?_
  refine x_bkv rfl ?_
  refine x_aload_n i_20_60 rfl rfl ?_
  refine x_getr i_20_61 f_20_12 g_0 rfl rfl ?_
  refine x_iload_n i_20_64 rfl rfl ?_
  refine x_callv (as := [.inl a2]) (rest := []) i_20_65 k_20_143 rfl rfl rfl g_1 (Nat.le_of_ble_eq_true rfl) m_29 rfl ?_
  refine x_aload_n i_29_0 rfl rfl ?_
  refine x_getr i_29_1 f_29_25 g_1 rfl rfl ?_
  refine x_iload_n i_29_4 rfl rfl ?_
  refine x_iconst i_29_5 (by decide) rfl ?_
  obtain ⟨q2, h⟩ := h
  refine x_bastore i_29_6 g_11 rfl ⟨q2, by unfold pm_bit; decide⟩ ?_
  refine x_ret i_29_7 r_29 ?_
  refine x_bkv rfl ?_
  refine x_aload_n i_20_68 rfl rfl ?_
  refine x_getr i_20_69 f_20_12 g_0 rfl rfl ?_
  refine x_aload_n i_20_72 rfl rfl ?_
  refine x_getr i_20_73 f_20_19 g_0 rfl rfl ?_
  refine x_callv (as := [.inr (.inl 2)]) (rest := []) i_20_76 k_20_146 rfl rfl rfl g_1 (Nat.le_of_ble_eq_true rfl) m_30 rfl h
/-! GateBench.askForDifference at 79 -/
theorem s_20_79 {L : Nat} {M : pm_M} {Q : pm_P} {a1 a2 : Int}
    (h : Q (.inl none) M) :
    pm_X L (20, 79, [some (.inr (.inl 0)), some (.inl a1), some (.inl a2)], [], M) Q := by
  exact x_ret i_20_79 r_20 h
/-! GateBench.findInputs at 0 -/
theorem s_21_0 {L : Nat} {M : pm_M} {Q : pm_P}
    (h : pm_X L (43, 0, [some (.inr (.inl 4)), none, none, none], [], pm_set (pm_set M 3 3 (M 2 2)) 3 4 0) (pm_back (pm_X L) 21 11 [some (.inr (.inl 0)), none] [] Q)) :
    pm_X L (21, 0, [some (.inr (.inl 0)), none], [], M) Q := by
  refine x_aload_n i_21_0 rfl rfl ?_
  refine x_getr i_21_1 f_21_28 g_0 rfl rfl ?_
  refine x_callv (as := []) (rest := []) i_21_4 k_21_149 rfl rfl rfl g_3 (Nat.le_of_ble_eq_true rfl) m_37 rfl ?_
  refine x_aload_n i_37_0 rfl rfl ?_
  refine x_aload_n i_37_1 rfl rfl ?_
  refine x_getr i_37_2 f_37_15 g_3 rfl rfl ?_
  refine x_geti (v := M 2 2) i_37_5 f_37_19 g_2 rfl (rfl) rfl ?_
  refine x_puti i_37_8 f_37_25 g_3 rfl rfl ?_
  refine x_aload_n i_37_11 rfl rfl ?_
  refine x_iconst i_37_12 (by decide) rfl ?_
  refine x_putz i_37_13 f_37_28 g_3 rfl rfl (by unfold pm_bit; decide) ?_
  refine x_ret i_37_16 r_37 ?_
  refine x_bkv rfl ?_
  refine x_aload_n i_21_7 rfl rfl ?_
  refine x_getr i_21_8 f_21_37 g_0 rfl rfl ?_
  refine x_callv (as := []) (rest := []) i_21_11 k_21_152 rfl rfl rfl g_4 (Nat.le_of_ble_eq_true rfl) m_43 rfl h
/-! GateBench.findInputs at 14 -/
theorem s_21_14 {L : Nat} {M : pm_M} {Q : pm_P} {r : Int}
    (h : ((¬ r = 0 → (pm_bit r) ∧ Q (.inl (some (.inl r))) M) ∧ (¬ (¬ r = 0) → (pm_bit (M 3 4)) ∧ ((¬ M 3 4 = 0 → (pm_bit r) ∧ Q (.inl (some (.inl r))) M) ∧ (¬ (¬ M 3 4 = 0) → (pm_R (M 0 6 + 1)) ∧ (pm_bit r) ∧ Q (.inl (some (.inl r))) (pm_set M 0 6 (M 0 6 + 1))))))) :
    pm_X L (21, 14, [some (.inr (.inl 0)), none], [.inl r], M) Q := by
  refine x_istore_n i_21_14 (Nat.le_of_ble_eq_true rfl) rfl rfl ?_
  refine x_iload_n i_21_15 rfl rfl ?_
  refine x_if (C := ¬ r = 0) i_21_16 rfl Iff.rfl rfl ⟨fun c1 => ?_, fun c1 => ?_⟩
  · replace h := h.1 c1
    refine x_iload_n i_21_39 rfl rfl ?_
    obtain ⟨q2, h⟩ := h
    exact x_iretz i_21_40 r_21 q2 h
  · replace h := h.2 c1
    refine x_aload_n i_21_19 rfl rfl ?_
    refine x_getr i_21_20 f_21_28 g_0 rfl rfl ?_
    refine x_callv (as := []) (rest := []) i_21_23 k_21_155 rfl rfl rfl g_3 (Nat.le_of_ble_eq_true rfl) m_38 rfl ?_
    refine x_aload_n i_38_0 rfl rfl ?_
    refine x_geti (v := M 3 4) i_38_1 f_38_28 g_3 rfl (rfl) rfl ?_
    obtain ⟨q3, h⟩ := h
    refine x_iretz i_38_4 r_38 q3 ?_
    refine x_bki rfl ?_
    refine x_if (C := ¬ M 3 4 = 0) i_21_26 rfl Iff.rfl rfl ⟨fun c4 => ?_, fun c4 => ?_⟩
    · replace h := h.1 c4
      refine x_iload_n i_21_39 rfl rfl ?_
      obtain ⟨q5, h⟩ := h
      exact x_iretz i_21_40 r_21 q5 h
    · replace h := h.2 c4
      refine x_aload_n i_21_29 rfl rfl ?_
      refine x_dup i_21_30 rfl rfl ?_
      refine x_geti (v := M 0 6) i_21_31 f_21_123 g_0 rfl (rfl) rfl ?_
      refine x_iconst i_21_34 (by decide) rfl ?_
      obtain ⟨q6, h⟩ := h
      refine x_iadd i_21_35 rfl q6 ?_
      refine x_puti i_21_36 f_21_123 g_0 rfl rfl ?_
      refine x_iload_n i_21_39 rfl rfl ?_
      obtain ⟨q7, h⟩ := h
      exact x_iretz i_21_40 r_21 q7 h
/-! GateBench.takeInputsFound at 0 -/
theorem s_22_0 {L : Nat} {M : pm_M} {Q : pm_P}
    (h : pm_X L (22, 2, [some (.inr (.inl 0)), some (.inl 0), none], [], M) Q) :
    pm_X L (22, 0, [some (.inr (.inl 0)), none, none], [], M) Q := by
  refine x_iconst i_22_0 (by decide) rfl ?_
  refine x_istore_n i_22_1 (Nat.le_of_ble_eq_true rfl) rfl rfl ?_
  exact h
/-! GateBench.takeInputsFound at 2 -/
theorem s_22_2 {L : Nat} {M : pm_M} {Q : pm_P} {a1 : Int} {o2 : Option pm_V}
    (h : ((M 1 7 ≤ a1 → Q (.inl none) M) ∧ (¬ (M 1 7 ≤ a1) → (0 ≤ a1 ∧ a1 < 12) ∧ (pm_R (2 * M 12 a1)) ∧ (0 ≤ 2 * M 12 a1 ∧ 2 * M 12 a1 < 4000) ∧ (pm_bit (M 20 (2 * M 12 a1))) ∧ ((0 ≤ M 12 a1 ∧ M 12 a1 < 2000) ∧ pm_bit (M 20 (2 * M 12 a1))) ∧ (pm_R (a1 + 1)) ∧ pm_X L (22, 2, [some (.inr (.inl 0)), some (.inl (a1 + 1)), some (.inl (M 12 a1))], [], pm_set M 10 (M 12 a1) (M 20 (2 * M 12 a1))) Q))) :
    pm_X L (22, 2, [some (.inr (.inl 0)), some (.inl a1), o2], [], M) Q := by
  refine x_iload_n i_22_2 rfl rfl ?_
  refine x_aload_n i_22_3 rfl rfl ?_
  refine x_getr i_22_4 f_22_12 g_0 rfl rfl ?_
  refine x_geti (v := M 1 7) i_22_7 f_22_45 g_1 rfl (rfl) rfl ?_
  refine x_icmp (C := M 1 7 ≤ a1) i_22_10 rfl Iff.rfl rfl ⟨fun c1 => ?_, fun c1 => ?_⟩
  · replace h := h.1 c1
    exact x_ret i_22_46 r_22 h
  · replace h := h.2 c1
    refine x_aload_n i_22_13 rfl rfl ?_
    refine x_getr i_22_14 f_22_12 g_0 rfl rfl ?_
    refine x_getr i_22_17 f_22_112 g_1 rfl rfl ?_
    refine x_iload_n i_22_20 rfl rfl ?_
    obtain ⟨q2, h⟩ := h
    refine x_iaload (v := M 12 a1) i_22_21 g_12 (rfl) rfl q2 ?_
    refine x_istore_n i_22_22 (Nat.le_of_ble_eq_true rfl) rfl rfl ?_
    refine x_aload_n i_22_23 rfl rfl ?_
    refine x_getr i_22_24 f_22_12 g_0 rfl rfl ?_
    refine x_getr i_22_27 f_22_115 g_1 rfl rfl ?_
    refine x_iload_n i_22_30 rfl rfl ?_
    refine x_aload_n i_22_31 rfl rfl ?_
    refine x_getr i_22_32 f_22_37 g_0 rfl rfl ?_
    refine x_iload_n i_22_35 rfl rfl ?_
    refine x_callv (as := [.inl (M 12 a1)]) (rest := [.inl (M 12 a1), .inr (.inl 10)]) i_22_36 k_22_158 rfl rfl rfl g_4 (Nat.le_of_ble_eq_true rfl) m_42 rfl ?_
    refine x_aload_n i_42_0 rfl rfl ?_
    refine x_getr i_42_1 f_42_12 g_4 rfl rfl ?_
    refine x_getr i_42_4 f_42_44 g_5 rfl rfl ?_
    refine x_iload_n i_42_7 rfl rfl ?_
    refine x_calls (as := [.inl (M 12 a1)]) (rest := [.inr (.inl 20)]) i_42_8 k_42_47 rfl rfl rfl (Nat.le_of_ble_eq_true rfl) m_14 rfl ?_
    refine x_iconst i_14_0 (by decide) rfl ?_
    refine x_iload_n i_14_1 rfl rfl ?_
    obtain ⟨q3, h⟩ := h
    refine x_imul i_14_2 rfl q3 ?_
    refine x_ireti i_14_3 r_14 ?_
    refine x_bki rfl ?_
    obtain ⟨q4, h⟩ := h
    refine x_baload (v := M 20 (2 * M 12 a1)) i_42_11 g_20 (rfl) rfl q4 ?_
    obtain ⟨q5, h⟩ := h
    refine x_iretz i_42_12 r_42 q5 ?_
    refine x_bki rfl ?_
    obtain ⟨q6, h⟩ := h
    refine x_bastore i_22_39 g_10 rfl q6 ?_
    obtain ⟨q7, h⟩ := h
    refine x_iinc i_22_40 rfl (by decide) rfl rfl q7 ?_
    refine x_goto i_22_43 rfl ?_
    exact h
/-! GateBench.dropWanted at 0 -/
theorem s_23_0 {L : Nat} {M : pm_M} {Q : pm_P} {a1 : Int}
    (h : (pm_R (M 0 5 - 1)) ∧ pm_X L (23, 12, [some (.inr (.inl 0)), some (.inl a1), some (.inl a1)], [], pm_set M 0 5 (M 0 5 - 1)) Q) :
    pm_X L (23, 0, [some (.inr (.inl 0)), some (.inl a1), none], [], M) Q := by
  refine x_aload_n i_23_0 rfl rfl ?_
  refine x_dup i_23_1 rfl rfl ?_
  refine x_geti (v := M 0 5) i_23_2 f_23_83 g_0 rfl (rfl) rfl ?_
  refine x_iconst i_23_5 (by decide) rfl ?_
  obtain ⟨q1, h⟩ := h
  refine x_isub i_23_6 rfl q1 ?_
  refine x_puti i_23_7 f_23_83 g_0 rfl rfl ?_
  refine x_iload_n i_23_10 rfl rfl ?_
  refine x_istore_n i_23_11 (Nat.le_of_ble_eq_true rfl) rfl rfl ?_
  exact h
/-! GateBench.dropWanted at 12 -/
theorem s_23_12 {L : Nat} {M : pm_M} {Q : pm_P} {a1 a2 : Int}
    (h : ((M 0 5 ≤ a2 → Q (.inl none) M) ∧ (¬ (M 0 5 ≤ a2) → (pm_R (a2 + 1)) ∧ (0 ≤ a2 + 1 ∧ a2 + 1 < 20) ∧ (0 ≤ a2 ∧ a2 < 20) ∧ pm_X L (23, 12, [some (.inr (.inl 0)), some (.inl a1), some (.inl (a2 + 1))], [], pm_set M 6 a2 (M 6 (a2 + 1))) Q))) :
    pm_X L (23, 12, [some (.inr (.inl 0)), some (.inl a1), some (.inl a2)], [], M) Q := by
  refine x_iload_n i_23_12 rfl rfl ?_
  refine x_aload_n i_23_13 rfl rfl ?_
  refine x_geti (v := M 0 5) i_23_14 f_23_83 g_0 rfl (rfl) rfl ?_
  refine x_icmp (C := M 0 5 ≤ a2) i_23_17 rfl Iff.rfl rfl ⟨fun c1 => ?_, fun c1 => ?_⟩
  · replace h := h.1 c1
    exact x_ret i_23_40 r_23 h
  · replace h := h.2 c1
    refine x_aload_n i_23_20 rfl rfl ?_
    refine x_getr i_23_21 f_23_41 g_0 rfl rfl ?_
    refine x_iload_n i_23_24 rfl rfl ?_
    refine x_aload_n i_23_25 rfl rfl ?_
    refine x_getr i_23_26 f_23_41 g_0 rfl rfl ?_
    refine x_iload_n i_23_29 rfl rfl ?_
    refine x_iconst i_23_30 (by decide) rfl ?_
    obtain ⟨q2, h⟩ := h
    refine x_iadd i_23_31 rfl q2 ?_
    obtain ⟨q3, h⟩ := h
    refine x_iaload (v := M 6 (a2 + 1)) i_23_32 g_6 (rfl) rfl q3 ?_
    obtain ⟨q4, h⟩ := h
    refine x_iastore i_23_33 g_6 rfl q4 ?_
    refine x_iinc i_23_34 rfl (by decide) rfl rfl q2 ?_
    refine x_goto i_23_37 rfl ?_
    exact h
/-! GateBench$Circuit.addInput at 0 -/
theorem s_24_0 {L : Nat} {M : pm_M} {Q : pm_P}
    (h : (0 ≤ M 1 7 ∧ M 1 7 < 12) ∧ (pm_R (M 1 7 + 1)) ∧ (0 ≤ M 1 6 ∧ M 1 6 < 2000) ∧ (pm_R (M 1 6 + 1)) ∧ Q (.inl (some (.inl (M 1 6)))) (pm_set (pm_set (pm_set (pm_set (pm_set (pm_set M 12 (M 1 7) (M 1 6)) 1 7 (M 1 7 + 1)) 7 (M 1 6) (-1)) 8 (M 1 6) 0) 9 (M 1 6) 0) 1 6 (M 1 6 + 1))) :
    pm_X L (24, 0, [some (.inr (.inl 1))], [], M) Q := by
  refine x_aload_n i_24_0 rfl rfl ?_
  refine x_getr i_24_1 f_24_28 g_1 rfl rfl ?_
  refine x_aload_n i_24_4 rfl rfl ?_
  refine x_geti (v := M 1 7) i_24_5 f_24_35 g_1 rfl (rfl) rfl ?_
  refine x_aload_n i_24_8 rfl rfl ?_
  refine x_geti (v := M 1 6) i_24_9 f_24_31 g_1 rfl (rfl) rfl ?_
  obtain ⟨q1, h⟩ := h
  refine x_iastore i_24_12 g_12 rfl q1 ?_
  refine x_aload_n i_24_13 rfl rfl ?_
  refine x_dup i_24_14 rfl rfl ?_
  refine x_geti (v := M 1 7) i_24_15 f_24_35 g_1 rfl (pm_get_c (by decide) rfl) rfl ?_
  refine x_iconst i_24_18 (by decide) rfl ?_
  obtain ⟨q2, h⟩ := h
  refine x_iadd i_24_19 rfl q2 ?_
  refine x_puti i_24_20 f_24_35 g_1 rfl rfl ?_
  refine x_aload_n i_24_23 rfl rfl ?_
  refine x_iconst i_24_24 (by decide) rfl ?_
  refine x_iconst i_24_25 (by decide) rfl ?_
  refine x_iconst i_24_26 (by decide) rfl ?_
  refine x_callv (as := [.inl (-1), .inl 0, .inl 0]) (rest := []) i_24_27 k_24_38 rfl rfl rfl g_1 (Nat.le_of_ble_eq_true rfl) m_25 rfl ?_
  refine x_aload_n i_25_0 rfl rfl ?_
  refine x_geti (v := M 1 6) i_25_1 f_25_31 g_1 rfl (pm_get_j (by decide) (pm_get_c (by decide) rfl)) rfl ?_
  refine x_istore i_25_4 (Nat.le_of_ble_eq_true rfl) rfl rfl ?_
  refine x_aload_n i_25_6 rfl rfl ?_
  refine x_getr i_25_7 f_25_9 g_1 rfl rfl ?_
  refine x_iload i_25_10 rfl rfl ?_
  refine x_iload_n i_25_12 rfl rfl ?_
  obtain ⟨q3, h⟩ := h
  refine x_iastore i_25_13 g_7 rfl q3 ?_
  refine x_aload_n i_25_14 rfl rfl ?_
  refine x_getr i_25_15 f_25_15 g_1 rfl rfl ?_
  refine x_iload i_25_18 rfl rfl ?_
  refine x_iload_n i_25_20 rfl rfl ?_
  refine x_iastore i_25_21 g_8 rfl q3 ?_
  refine x_aload_n i_25_22 rfl rfl ?_
  refine x_getr i_25_23 f_25_18 g_1 rfl rfl ?_
  refine x_iload i_25_26 rfl rfl ?_
  refine x_iload_n i_25_28 rfl rfl ?_
  refine x_iastore i_25_29 g_9 rfl q3 ?_
  refine x_aload_n i_25_30 rfl rfl ?_
  refine x_dup i_25_31 rfl rfl ?_
  refine x_geti (v := M 1 6) i_25_32 f_25_31 g_1 rfl (pm_get_c (by decide) (pm_get_c (by decide) (pm_get_c (by decide) (pm_get_j (by decide) (pm_get_c (by decide) rfl))))) rfl ?_
  refine x_iconst i_25_35 (by decide) rfl ?_
  obtain ⟨q4, h⟩ := h
  refine x_iadd i_25_36 rfl q4 ?_
  refine x_puti i_25_37 f_25_31 g_1 rfl rfl ?_
  refine x_iload i_25_40 rfl rfl ?_
  refine x_ireti i_25_42 r_25 ?_
  refine x_bki rfl ?_
  exact x_ireti i_24_30 r_24 h
/-! GateBench$Circuit.addGate at 0 -/
theorem s_25_0 {L : Nat} {M : pm_M} {Q : pm_P} {a1 a2 a3 : Int}
    (h : (0 ≤ M 1 6 ∧ M 1 6 < 2000) ∧ (pm_R (M 1 6 + 1)) ∧ Q (.inl (some (.inl (M 1 6)))) (pm_set (pm_set (pm_set (pm_set M 7 (M 1 6) a1) 8 (M 1 6) a2) 9 (M 1 6) a3) 1 6 (M 1 6 + 1))) :
    pm_X L (25, 0, [some (.inr (.inl 1)), some (.inl a1), some (.inl a2), some (.inl a3), none], [], M) Q := by
  refine x_aload_n i_25_0 rfl rfl ?_
  refine x_geti (v := M 1 6) i_25_1 f_25_31 g_1 rfl (rfl) rfl ?_
  refine x_istore i_25_4 (Nat.le_of_ble_eq_true rfl) rfl rfl ?_
  refine x_aload_n i_25_6 rfl rfl ?_
  refine x_getr i_25_7 f_25_9 g_1 rfl rfl ?_
  refine x_iload i_25_10 rfl rfl ?_
  refine x_iload_n i_25_12 rfl rfl ?_
  obtain ⟨q1, h⟩ := h
  refine x_iastore i_25_13 g_7 rfl q1 ?_
  refine x_aload_n i_25_14 rfl rfl ?_
  refine x_getr i_25_15 f_25_15 g_1 rfl rfl ?_
  refine x_iload i_25_18 rfl rfl ?_
  refine x_iload_n i_25_20 rfl rfl ?_
  refine x_iastore i_25_21 g_8 rfl q1 ?_
  refine x_aload_n i_25_22 rfl rfl ?_
  refine x_getr i_25_23 f_25_18 g_1 rfl rfl ?_
  refine x_iload i_25_26 rfl rfl ?_
  refine x_iload_n i_25_28 rfl rfl ?_
  refine x_iastore i_25_29 g_9 rfl q1 ?_
  refine x_aload_n i_25_30 rfl rfl ?_
  refine x_dup i_25_31 rfl rfl ?_
  refine x_geti (v := M 1 6) i_25_32 f_25_31 g_1 rfl (pm_get_c (by decide) (pm_get_c (by decide) (pm_get_c (by decide) rfl))) rfl ?_
  refine x_iconst i_25_35 (by decide) rfl ?_
  obtain ⟨q2, h⟩ := h
  refine x_iadd i_25_36 rfl q2 ?_
  refine x_puti i_25_37 f_25_31 g_1 rfl rfl ?_
  refine x_iload i_25_40 rfl rfl ?_
  exact x_ireti i_25_42 r_25 h
/-! GateBench$Circuit.evaluate at 0 -/
theorem s_26_0 {L : Nat} {M : pm_M} {Q : pm_P} {a1 : Int}
    (h : pm_X L (26, 2, [some (.inr (.inl 1)), some (.inl a1), some (.inl 1)], [], M) Q) :
    pm_X L (26, 0, [some (.inr (.inl 1)), some (.inl a1), none], [], M) Q := by
  refine x_iconst i_26_0 (by decide) rfl ?_
  refine x_istore_n i_26_1 (Nat.le_of_ble_eq_true rfl) rfl rfl ?_
  exact h
/-! GateBench$Circuit.evaluate at 2 -/
theorem s_26_2 {L : Nat} {M : pm_M} {Q : pm_P} {a1 a2 : Int}
    (h : ((a1 < a2 → (0 ≤ a1 ∧ a1 < 2000) ∧ (pm_bit (M 10 a1)) ∧ Q (.inl (some (.inl (M 10 a1)))) M) ∧ (¬ (a1 < a2) → (0 ≤ a2 ∧ a2 < 2000) ∧ ((M 7 a2 = -1 → (pm_R (a2 + 1)) ∧ pm_X L (26, 2, [some (.inr (.inl 1)), some (.inl a1), some (.inl (a2 + 1))], [], M) Q) ∧ (¬ (M 7 a2 = -1) → pm_X L (27, 0, [some (.inr (.inl 1)), some (.inl (M 7 a2))], [], M) (pm_back (pm_X L) 26 29 [some (.inr (.inl 1)), some (.inl a1), some (.inl a2)] [.inl a2, .inr (.inl 10)] Q)))))) :
    pm_X L (26, 2, [some (.inr (.inl 1)), some (.inl a1), some (.inl a2)], [], M) Q := by
  refine x_iload_n i_26_2 rfl rfl ?_
  refine x_iload_n i_26_3 rfl rfl ?_
  refine x_icmp (C := a1 < a2) i_26_4 rfl Iff.rfl rfl ⟨fun c1 => ?_, fun c1 => ?_⟩
  · replace h := h.1 c1
    refine x_aload_n i_26_65 rfl rfl ?_
    refine x_getr i_26_66 f_26_21 g_1 rfl rfl ?_
    refine x_iload_n i_26_69 rfl rfl ?_
    obtain ⟨q2, h⟩ := h
    refine x_baload (v := M 10 a1) i_26_70 g_10 (rfl) rfl q2 ?_
    obtain ⟨q3, h⟩ := h
    exact x_iretz i_26_71 r_26 q3 h
  · replace h := h.2 c1
    refine x_aload_n i_26_7 rfl rfl ?_
    refine x_getr i_26_8 f_26_9 g_1 rfl rfl ?_
    refine x_iload_n i_26_11 rfl rfl ?_
    obtain ⟨q4, h⟩ := h
    refine x_iaload (v := M 7 a2) i_26_12 g_7 (rfl) rfl q4 ?_
    refine x_iconst i_26_13 (by decide) rfl ?_
    refine x_icmp (C := M 7 a2 = -1) i_26_14 rfl Iff.rfl rfl ⟨fun c5 => ?_, fun c5 => ?_⟩
    · replace h := h.1 c5
      obtain ⟨q6, h⟩ := h
      refine x_iinc i_26_59 rfl (by decide) rfl rfl q6 ?_
      refine x_goto i_26_62 rfl ?_
      exact h
    · replace h := h.2 c5
      refine x_aload_n i_26_17 rfl rfl ?_
      refine x_getr i_26_18 f_26_21 g_1 rfl rfl ?_
      refine x_iload_n i_26_21 rfl rfl ?_
      refine x_aload_n i_26_22 rfl rfl ?_
      refine x_aload_n i_26_23 rfl rfl ?_
      refine x_getr i_26_24 f_26_9 g_1 rfl rfl ?_
      refine x_iload_n i_26_27 rfl rfl ?_
      refine x_iaload (v := M 7 a2) i_26_28 g_7 (rfl) rfl q4 ?_
      refine x_callv (as := [.inl (M 7 a2)]) (rest := [.inl a2, .inr (.inl 10)]) i_26_29 k_26_42 rfl rfl rfl g_1 (Nat.le_of_ble_eq_true rfl) m_27 rfl h
/-! GateBench$Circuit.evaluate at 32 -/
theorem s_26_32 {L : Nat} {M : pm_M} {Q : pm_P} {a1 a2 r t1 : Int}
    (h : ((r = 0 → (0 ≤ a2 ∧ a2 < 2000) ∧ pm_X L (27, 0, [some (.inr (.inl 1)), some (.inl (M 9 a2))], [], M) (pm_back (pm_X L) 26 55 [some (.inr (.inl 1)), some (.inl a1), some (.inl a2)] [.inl t1, .inr (.inl 10)] Q)) ∧ (¬ (r = 0) → (0 ≤ a2 ∧ a2 < 2000) ∧ pm_X L (27, 0, [some (.inr (.inl 1)), some (.inl (M 8 a2))], [], M) (pm_back (pm_X L) 26 42 [some (.inr (.inl 1)), some (.inl a1), some (.inl a2)] [.inl t1, .inr (.inl 10)] Q)))) :
    pm_X L (26, 32, [some (.inr (.inl 1)), some (.inl a1), some (.inl a2)], [.inl r, .inl t1, .inr (.inl 10)], M) Q := by
  refine x_if (C := r = 0) i_26_32 rfl Iff.rfl rfl ⟨fun c1 => ?_, fun c1 => ?_⟩
  · replace h := h.1 c1
    refine x_aload_n i_26_48 rfl rfl ?_
    refine x_aload_n i_26_49 rfl rfl ?_
    refine x_getr i_26_50 f_26_18 g_1 rfl rfl ?_
    refine x_iload_n i_26_53 rfl rfl ?_
    obtain ⟨q2, h⟩ := h
    refine x_iaload (v := M 9 a2) i_26_54 g_9 (rfl) rfl q2 ?_
    refine x_callv (as := [.inl (M 9 a2)]) (rest := [.inl t1, .inr (.inl 10)]) i_26_55 k_26_42 rfl rfl rfl g_1 (Nat.le_of_ble_eq_true rfl) m_27 rfl h
  · replace h := h.2 c1
    refine x_aload_n i_26_35 rfl rfl ?_
    refine x_aload_n i_26_36 rfl rfl ?_
    refine x_getr i_26_37 f_26_15 g_1 rfl rfl ?_
    refine x_iload_n i_26_40 rfl rfl ?_
    obtain ⟨q3, h⟩ := h
    refine x_iaload (v := M 8 a2) i_26_41 g_8 (rfl) rfl q3 ?_
    refine x_callv (as := [.inl (M 8 a2)]) (rest := [.inl t1, .inr (.inl 10)]) i_26_42 k_26_42 rfl rfl rfl g_1 (Nat.le_of_ble_eq_true rfl) m_27 rfl h
/-! GateBench$Circuit.evaluate at 45 -/
theorem s_26_45 {L : Nat} {M : pm_M} {Q : pm_P} {a1 a2 r t1 : Int}
    (h : pm_X L (26, 58, [some (.inr (.inl 1)), some (.inl a1), some (.inl a2)], [.inl r, .inl t1, .inr (.inl 10)], M) Q) :
    pm_X L (26, 45, [some (.inr (.inl 1)), some (.inl a1), some (.inl a2)], [.inl r, .inl t1, .inr (.inl 10)], M) Q := by
  refine x_goto i_26_45 rfl ?_
  exact h
/-! GateBench$Circuit.evaluate at 58 -/
theorem s_26_58 {L : Nat} {M : pm_M} {Q : pm_P} {a1 a2 r t1 : Int}
    (h : ((0 ≤ t1 ∧ t1 < 2000) ∧ pm_bit r) ∧ (pm_R (a2 + 1)) ∧ pm_X L (26, 2, [some (.inr (.inl 1)), some (.inl a1), some (.inl (a2 + 1))], [], pm_set M 10 t1 r) Q) :
    pm_X L (26, 58, [some (.inr (.inl 1)), some (.inl a1), some (.inl a2)], [.inl r, .inl t1, .inr (.inl 10)], M) Q := by
  obtain ⟨q1, h⟩ := h
  refine x_bastore i_26_58 g_10 rfl q1 ?_
  obtain ⟨q2, h⟩ := h
  refine x_iinc i_26_59 rfl (by decide) rfl rfl q2 ?_
  refine x_goto i_26_62 rfl ?_
  exact h
/-! GateBench$Circuit.isTrue at 0 -/
theorem s_27_0 {L : Nat} {M : pm_M} {Q : pm_P} {a1 : Int}
    (h : (0 ≤ a1 / 2 ∧ a1 / 2 < 2000) ∧ ((¬ a1 % 2 = 0 → ((¬ M 10 (a1 / 2) = 0 → Q (.inl (some (.inl 0))) M) ∧ (¬ (¬ M 10 (a1 / 2) = 0) → Q (.inl (some (.inl 1))) M))) ∧ (¬ (¬ a1 % 2 = 0) → ((¬ M 10 (a1 / 2) = 1 → Q (.inl (some (.inl 0))) M) ∧ (¬ (¬ M 10 (a1 / 2) = 1) → Q (.inl (some (.inl 1))) M))))) :
    pm_X L (27, 0, [some (.inr (.inl 1)), some (.inl a1)], [], M) Q := by
  refine x_aload_n i_27_0 rfl rfl ?_
  refine x_getr i_27_1 f_27_21 g_1 rfl rfl ?_
  refine x_iload_n i_27_4 rfl rfl ?_
  refine x_calls (as := [.inl a1]) (rest := [.inr (.inl 10)]) i_27_5 k_27_46 rfl rfl rfl (Nat.le_of_ble_eq_true rfl) m_16 rfl ?_
  refine x_iload_n i_16_0 rfl rfl ?_
  refine x_iconst i_16_1 (by decide) rfl ?_
  refine x_ishr i_16_2 rfl ?_
  refine x_ireti i_16_3 r_16 ?_
  refine x_bki rfl ?_
  obtain ⟨q1, h⟩ := h
  refine x_baload (v := M 10 (a1 / 2)) i_27_8 g_10 (rfl) rfl q1 ?_
  refine x_iload_n i_27_9 rfl rfl ?_
  refine x_iconst i_27_10 (by decide) rfl ?_
  refine x_iand1 i_27_11 rfl ?_
  refine x_if (C := ¬ a1 % 2 = 0) i_27_12 rfl Iff.rfl rfl ⟨fun c2 => ?_, fun c2 => ?_⟩
  · replace h := h.1 c2
    refine x_iconst i_27_19 (by decide) rfl ?_
    refine x_icmp (C := ¬ M 10 (a1 / 2) = 0) i_27_20 rfl Iff.rfl rfl ⟨fun c3 => ?_, fun c3 => ?_⟩
    · replace h := h.1 c3
      refine x_iconst i_27_27 (by decide) rfl ?_
      exact x_iretz i_27_28 r_27 (by unfold pm_bit; decide) h
    · replace h := h.2 c3
      refine x_iconst i_27_23 (by decide) rfl ?_
      refine x_goto i_27_24 rfl ?_
      exact x_iretz i_27_28 r_27 (by unfold pm_bit; decide) h
  · replace h := h.2 c2
    refine x_iconst i_27_15 (by decide) rfl ?_
    refine x_goto i_27_16 rfl ?_
    refine x_icmp (C := ¬ M 10 (a1 / 2) = 1) i_27_20 rfl Iff.rfl rfl ⟨fun c4 => ?_, fun c4 => ?_⟩
    · replace h := h.1 c4
      refine x_iconst i_27_27 (by decide) rfl ?_
      exact x_iretz i_27_28 r_27 (by unfold pm_bit; decide) h
    · replace h := h.2 c4
      refine x_iconst i_27_23 (by decide) rfl ?_
      refine x_goto i_27_24 rfl ?_
      exact x_iretz i_27_28 r_27 (by unfold pm_bit; decide) h
/-! GateBench$Circuit.forgetAims at 0 -/
theorem s_28_0 {L : Nat} {M : pm_M} {Q : pm_P}
    (h : pm_X L (28, 2, [some (.inr (.inl 1)), some (.inl 0)], [], M) Q) :
    pm_X L (28, 0, [some (.inr (.inl 1)), none], [], M) Q := by
  refine x_iconst i_28_0 (by decide) rfl ?_
  refine x_istore_n i_28_1 (Nat.le_of_ble_eq_true rfl) rfl rfl ?_
  exact h
/-! GateBench$Circuit.forgetAims at 2 -/
theorem s_28_2 {L : Nat} {M : pm_M} {Q : pm_P} {a1 : Int}
    (h : ((M 1 6 ≤ a1 → Q (.inl none) M) ∧ (¬ (M 1 6 ≤ a1) → (0 ≤ a1 ∧ a1 < 2000) ∧ (pm_R (a1 + 1)) ∧ pm_X L (28, 2, [some (.inr (.inl 1)), some (.inl (a1 + 1))], [], pm_set M 11 a1 0) Q))) :
    pm_X L (28, 2, [some (.inr (.inl 1)), some (.inl a1)], [], M) Q := by
  refine x_iload_n i_28_2 rfl rfl ?_
  refine x_aload_n i_28_3 rfl rfl ?_
  refine x_geti (v := M 1 6) i_28_4 f_28_31 g_1 rfl (rfl) rfl ?_
  refine x_icmp (C := M 1 6 ≤ a1) i_28_7 rfl Iff.rfl rfl ⟨fun c1 => ?_, fun c1 => ?_⟩
  · replace h := h.1 c1
    exact x_ret i_28_23 r_28 h
  · replace h := h.2 c1
    refine x_aload_n i_28_10 rfl rfl ?_
    refine x_getr i_28_11 f_28_25 g_1 rfl rfl ?_
    refine x_iload_n i_28_14 rfl rfl ?_
    refine x_iconst i_28_15 (by decide) rfl ?_
    obtain ⟨q2, h⟩ := h
    refine x_bastore i_28_16 g_11 rfl ⟨q2, by unfold pm_bit; decide⟩ ?_
    obtain ⟨q3, h⟩ := h
    refine x_iinc i_28_17 rfl (by decide) rfl rfl q3 ?_
    refine x_goto i_28_20 rfl ?_
    exact h
/-! GateBench$Circuit.aimAt at 0 -/
theorem s_29_0 {L : Nat} {M : pm_M} {Q : pm_P} {a1 : Int}
    (h : (0 ≤ a1 ∧ a1 < 2000) ∧ Q (.inl none) (pm_set M 11 a1 1)) :
    pm_X L (29, 0, [some (.inr (.inl 1)), some (.inl a1)], [], M) Q := by
  refine x_aload_n i_29_0 rfl rfl ?_
  refine x_getr i_29_1 f_29_25 g_1 rfl rfl ?_
  refine x_iload_n i_29_4 rfl rfl ?_
  refine x_iconst i_29_5 (by decide) rfl ?_
  obtain ⟨q1, h⟩ := h
  refine x_bastore i_29_6 g_11 rfl ⟨q1, by unfold pm_bit; decide⟩ ?_
  exact x_ret i_29_7 r_29 h
/-! GateBench$Circuit.describeAims at 0 -/
theorem s_30_0 {L : Nat} {M : pm_M} {Q : pm_P}
    (h : (pm_R (M 1 6 - 1)) ∧ pm_X L (30, 7, [some (.inr (.inl 1)), some (.inr (.inl 2)), some (.inl (M 1 6 - 1))], [], M) Q) :
    pm_X L (30, 0, [some (.inr (.inl 1)), some (.inr (.inl 2)), none], [], M) Q := by
  refine x_aload_n i_30_0 rfl rfl ?_
  refine x_geti (v := M 1 6) i_30_1 f_30_31 g_1 rfl (rfl) rfl ?_
  refine x_iconst i_30_4 (by decide) rfl ?_
  obtain ⟨q1, h⟩ := h
  refine x_isub i_30_5 rfl q1 ?_
  refine x_istore_n i_30_6 (Nat.le_of_ble_eq_true rfl) rfl rfl ?_
  exact h
/-! GateBench$Circuit.describeAims at 7 -/
theorem s_30_7 {L : Nat} {M : pm_M} {Q : pm_P} {a2 : Int}
    (h : ((a2 ≤ 0 → Q (.inl none) M) ∧ (¬ (a2 ≤ 0) → (0 ≤ a2 ∧ a2 < 2000) ∧ ((M 11 a2 = 0 → pm_X L (30, 75, [some (.inr (.inl 1)), some (.inr (.inl 2)), some (.inl a2)], [], M) Q) ∧ (¬ (M 11 a2 = 0) → ((M 7 a2 = -1 → pm_X L (30, 75, [some (.inr (.inl 1)), some (.inr (.inl 2)), some (.inl a2)], [], M) Q) ∧ (¬ (M 7 a2 = -1) → (0 ≤ (M 7 a2) / 2 ∧ (M 7 a2) / 2 < 2000) ∧ (0 ≤ (M 8 a2) / 2 ∧ (M 8 a2) / 2 < 2000) ∧ (0 ≤ (M 9 a2) / 2 ∧ (M 9 a2) / 2 < 2000) ∧ pm_X L (31, 0, [some (.inr (.inl 1)), some (.inl a2), some (.inr (.inl 2)), none, none, none, none], [], pm_set (pm_set (pm_set M 11 ((M 7 a2) / 2) 1) 11 ((M 8 a2) / 2) 1) 11 ((M 9 a2) / 2) 1) (pm_back (pm_X L) 30 72 [some (.inr (.inl 1)), some (.inr (.inl 2)), some (.inl a2)] [] Q)))))))) :
    pm_X L (30, 7, [some (.inr (.inl 1)), some (.inr (.inl 2)), some (.inl a2)], [], M) Q := by
  refine x_iload_n i_30_7 rfl rfl ?_
  refine x_if (C := a2 ≤ 0) i_30_8 rfl Iff.rfl rfl ⟨fun c1 => ?_, fun c1 => ?_⟩
  · replace h := h.1 c1
    exact x_ret i_30_81 r_30 h
  · replace h := h.2 c1
    refine x_aload_n i_30_11 rfl rfl ?_
    refine x_getr i_30_12 f_30_25 g_1 rfl rfl ?_
    refine x_iload_n i_30_15 rfl rfl ?_
    obtain ⟨q2, h⟩ := h
    refine x_baload (v := M 11 a2) i_30_16 g_11 (rfl) rfl q2 ?_
    refine x_if (C := M 11 a2 = 0) i_30_17 rfl Iff.rfl rfl ⟨fun c3 => ?_, fun c3 => ?_⟩
    · replace h := h.1 c3
      exact h
    · replace h := h.2 c3
      refine x_aload_n i_30_20 rfl rfl ?_
      refine x_getr i_30_21 f_30_9 g_1 rfl rfl ?_
      refine x_iload_n i_30_24 rfl rfl ?_
      refine x_iaload (v := M 7 a2) i_30_25 g_7 (rfl) rfl q2 ?_
      refine x_iconst i_30_26 (by decide) rfl ?_
      refine x_icmp (C := M 7 a2 = -1) i_30_27 rfl Iff.rfl rfl ⟨fun c4 => ?_, fun c4 => ?_⟩
      · replace h := h.1 c4
        exact h
      · replace h := h.2 c4
        refine x_aload_n i_30_30 rfl rfl ?_
        refine x_aload_n i_30_31 rfl rfl ?_
        refine x_getr i_30_32 f_30_9 g_1 rfl rfl ?_
        refine x_iload_n i_30_35 rfl rfl ?_
        refine x_iaload (v := M 7 a2) i_30_36 g_7 (rfl) rfl q2 ?_
        refine x_calls (as := [.inl (M 7 a2)]) (rest := [.inr (.inl 1)]) i_30_37 k_30_46 rfl rfl rfl (Nat.le_of_ble_eq_true rfl) m_16 rfl ?_
        refine x_iload_n i_16_0 rfl rfl ?_
        refine x_iconst i_16_1 (by decide) rfl ?_
        refine x_ishr i_16_2 rfl ?_
        refine x_ireti i_16_3 r_16 ?_
        refine x_bki rfl ?_
        refine x_callv (as := [.inl ((M 7 a2) / 2)]) (rest := []) i_30_40 k_30_50 rfl rfl rfl g_1 (Nat.le_of_ble_eq_true rfl) m_29 rfl ?_
        refine x_aload_n i_29_0 rfl rfl ?_
        refine x_getr i_29_1 f_29_25 g_1 rfl rfl ?_
        refine x_iload_n i_29_4 rfl rfl ?_
        refine x_iconst i_29_5 (by decide) rfl ?_
        obtain ⟨q5, h⟩ := h
        refine x_bastore i_29_6 g_11 rfl ⟨q5, by unfold pm_bit; decide⟩ ?_
        refine x_ret i_29_7 r_29 ?_
        refine x_bkv rfl ?_
        refine x_aload_n i_30_43 rfl rfl ?_
        refine x_aload_n i_30_44 rfl rfl ?_
        refine x_getr i_30_45 f_30_15 g_1 rfl rfl ?_
        refine x_iload_n i_30_48 rfl rfl ?_
        refine x_iaload (v := M 8 a2) i_30_49 g_8 (pm_get_c (by decide) rfl) rfl q2 ?_
        refine x_calls (as := [.inl (M 8 a2)]) (rest := [.inr (.inl 1)]) i_30_50 k_30_46 rfl rfl rfl (Nat.le_of_ble_eq_true rfl) m_16 rfl ?_
        refine x_iload_n i_16_0 rfl rfl ?_
        refine x_iconst i_16_1 (by decide) rfl ?_
        refine x_ishr i_16_2 rfl ?_
        refine x_ireti i_16_3 r_16 ?_
        refine x_bki rfl ?_
        refine x_callv (as := [.inl ((M 8 a2) / 2)]) (rest := []) i_30_53 k_30_50 rfl rfl rfl g_1 (Nat.le_of_ble_eq_true rfl) m_29 rfl ?_
        refine x_aload_n i_29_0 rfl rfl ?_
        refine x_getr i_29_1 f_29_25 g_1 rfl rfl ?_
        refine x_iload_n i_29_4 rfl rfl ?_
        refine x_iconst i_29_5 (by decide) rfl ?_
        obtain ⟨q6, h⟩ := h
        refine x_bastore i_29_6 g_11 rfl ⟨q6, by unfold pm_bit; decide⟩ ?_
        refine x_ret i_29_7 r_29 ?_
        refine x_bkv rfl ?_
        refine x_aload_n i_30_56 rfl rfl ?_
        refine x_aload_n i_30_57 rfl rfl ?_
        refine x_getr i_30_58 f_30_18 g_1 rfl rfl ?_
        refine x_iload_n i_30_61 rfl rfl ?_
        refine x_iaload (v := M 9 a2) i_30_62 g_9 (pm_get_c (by decide) (pm_get_c (by decide) rfl)) rfl q2 ?_
        refine x_calls (as := [.inl (M 9 a2)]) (rest := [.inr (.inl 1)]) i_30_63 k_30_46 rfl rfl rfl (Nat.le_of_ble_eq_true rfl) m_16 rfl ?_
        refine x_iload_n i_16_0 rfl rfl ?_
        refine x_iconst i_16_1 (by decide) rfl ?_
        refine x_ishr i_16_2 rfl ?_
        refine x_ireti i_16_3 r_16 ?_
        refine x_bki rfl ?_
        refine x_callv (as := [.inl ((M 9 a2) / 2)]) (rest := []) i_30_66 k_30_50 rfl rfl rfl g_1 (Nat.le_of_ble_eq_true rfl) m_29 rfl ?_
        refine x_aload_n i_29_0 rfl rfl ?_
        refine x_getr i_29_1 f_29_25 g_1 rfl rfl ?_
        refine x_iload_n i_29_4 rfl rfl ?_
        refine x_iconst i_29_5 (by decide) rfl ?_
        obtain ⟨q7, h⟩ := h
        refine x_bastore i_29_6 g_11 rfl ⟨q7, by unfold pm_bit; decide⟩ ?_
        refine x_ret i_29_7 r_29 ?_
        refine x_bkv rfl ?_
        refine x_aload_n i_30_69 rfl rfl ?_
        refine x_iload_n i_30_70 rfl rfl ?_
        refine x_aload_n i_30_71 rfl rfl ?_
        refine x_callv (as := [.inl a2, .inr (.inl 2)]) (rest := []) i_30_72 k_30_54 rfl rfl rfl g_1 (Nat.le_of_ble_eq_true rfl) m_31 rfl h
/-! GateBench$Circuit.describeAims at 75 -/
theorem s_30_75 {L : Nat} {M : pm_M} {Q : pm_P} {a2 : Int}
    (h : (pm_R (a2 + (-1))) ∧ pm_X L (30, 7, [some (.inr (.inl 1)), some (.inr (.inl 2)), some (.inl (a2 + (-1)))], [], M) Q) :
    pm_X L (30, 75, [some (.inr (.inl 1)), some (.inr (.inl 2)), some (.inl a2)], [], M) Q := by
  obtain ⟨q1, h⟩ := h
  refine x_iinc i_30_75 rfl (by decide) rfl rfl q1 ?_
  refine x_goto i_30_78 rfl ?_
  exact h
/-! GateBench$Circuit.describeGate at 0 -/
theorem s_31_0 {L : Nat} {M : pm_M} {Q : pm_P} {a1 : Int}
    (h : (pm_R (2 * a1)) ∧ (0 ≤ a1 ∧ a1 < 2000) ∧ pm_X L (33, 0, [some (.inr (.inl 2)), some (.inl (pm_op (M 7 a1))), some (.inl (pm_op (M 8 a1))), some (.inl (2 * a1))], [], M) (pm_back (pm_X L) 31 41 [some (.inr (.inl 1)), some (.inl a1), some (.inr (.inl 2)), some (.inl (2 * a1)), some (.inl (M 7 a1)), some (.inl (M 8 a1)), some (.inl (M 9 a1))] [] Q)) :
    pm_X L (31, 0, [some (.inr (.inl 1)), some (.inl a1), some (.inr (.inl 2)), none, none, none, none], [], M) Q := by
  refine x_iload_n i_31_0 rfl rfl ?_
  refine x_calls (as := [.inl a1]) (rest := []) i_31_1 k_31_58 rfl rfl rfl (Nat.le_of_ble_eq_true rfl) m_14 rfl ?_
  refine x_iconst i_14_0 (by decide) rfl ?_
  refine x_iload_n i_14_1 rfl rfl ?_
  obtain ⟨q1, h⟩ := h
  refine x_imul i_14_2 rfl q1 ?_
  refine x_ireti i_14_3 r_14 ?_
  refine x_bki rfl ?_
  refine x_istore_n i_31_4 (Nat.le_of_ble_eq_true rfl) rfl rfl ?_
  refine x_aload_n i_31_5 rfl rfl ?_
  refine x_getr i_31_6 f_31_9 g_1 rfl rfl ?_
  refine x_iload_n i_31_9 rfl rfl ?_
  obtain ⟨q2, h⟩ := h
  refine x_iaload (v := M 7 a1) i_31_10 g_7 (rfl) rfl q2 ?_
  refine x_istore i_31_11 (Nat.le_of_ble_eq_true rfl) rfl rfl ?_
  refine x_aload_n i_31_13 rfl rfl ?_
  refine x_getr i_31_14 f_31_15 g_1 rfl rfl ?_
  refine x_iload_n i_31_17 rfl rfl ?_
  refine x_iaload (v := M 8 a1) i_31_18 g_8 (rfl) rfl q2 ?_
  refine x_istore i_31_19 (Nat.le_of_ble_eq_true rfl) rfl rfl ?_
  refine x_aload_n i_31_21 rfl rfl ?_
  refine x_getr i_31_22 f_31_18 g_1 rfl rfl ?_
  refine x_iload_n i_31_25 rfl rfl ?_
  refine x_iaload (v := M 9 a1) i_31_26 g_9 (rfl) rfl q2 ?_
  refine x_istore i_31_27 (Nat.le_of_ble_eq_true rfl) rfl rfl ?_
  refine x_aload_n i_31_29 rfl rfl ?_
  refine x_iload i_31_30 rfl rfl ?_
  refine x_calls (as := [.inl (M 7 a1)]) (rest := [.inr (.inl 2)]) i_31_32 k_31_61 rfl rfl rfl (Nat.le_of_ble_eq_true rfl) m_15 rfl ?_
  refine x_iload_n i_15_0 rfl rfl ?_
  refine x_iconst i_15_1 (by decide) rfl ?_
  refine x_ixor i_15_2 rfl ?_
  refine x_ireti i_15_3 r_15 ?_
  refine x_bki rfl ?_
  refine x_iload i_31_35 rfl rfl ?_
  refine x_calls (as := [.inl (M 8 a1)]) (rest := [.inl (pm_op (M 7 a1)), .inr (.inl 2)]) i_31_37 k_31_61 rfl rfl rfl (Nat.le_of_ble_eq_true rfl) m_15 rfl ?_
  refine x_iload_n i_15_0 rfl rfl ?_
  refine x_iconst i_15_1 (by decide) rfl ?_
  refine x_ixor i_15_2 rfl ?_
  refine x_ireti i_15_3 r_15 ?_
  refine x_bki rfl ?_
  refine x_iload_n i_31_40 rfl rfl ?_
  refine x_callv (as := [.inl (pm_op (M 7 a1)), .inl (pm_op (M 8 a1)), .inl (2 * a1)]) (rest := []) i_31_41 k_31_64 rfl rfl rfl g_2 (Nat.le_of_ble_eq_true rfl) m_33 rfl h
/-! GateBench$Circuit.describeGate at 44 -/
theorem s_31_44 {L : Nat} {M : pm_M} {Q : pm_P} {a1 a3 a4 a5 a6 : Int}
    (h : pm_X L (33, 0, [some (.inr (.inl 2)), some (.inl (pm_op a4)), some (.inl a5), some (.inl (pm_op a3))], [], M) (pm_back (pm_X L) 31 56 [some (.inr (.inl 1)), some (.inl a1), some (.inr (.inl 2)), some (.inl a3), some (.inl a4), some (.inl a5), some (.inl a6)] [] Q)) :
    pm_X L (31, 44, [some (.inr (.inl 1)), some (.inl a1), some (.inr (.inl 2)), some (.inl a3), some (.inl a4), some (.inl a5), some (.inl a6)], [], M) Q := by
  refine x_aload_n i_31_44 rfl rfl ?_
  refine x_iload i_31_45 rfl rfl ?_
  refine x_calls (as := [.inl a4]) (rest := [.inr (.inl 2)]) i_31_47 k_31_61 rfl rfl rfl (Nat.le_of_ble_eq_true rfl) m_15 rfl ?_
  refine x_iload_n i_15_0 rfl rfl ?_
  refine x_iconst i_15_1 (by decide) rfl ?_
  refine x_ixor i_15_2 rfl ?_
  refine x_ireti i_15_3 r_15 ?_
  refine x_bki rfl ?_
  refine x_iload i_31_50 rfl rfl ?_
  refine x_iload_n i_31_52 rfl rfl ?_
  refine x_calls (as := [.inl a3]) (rest := [.inl a5, .inl (pm_op a4), .inr (.inl 2)]) i_31_53 k_31_61 rfl rfl rfl (Nat.le_of_ble_eq_true rfl) m_15 rfl ?_
  refine x_iload_n i_15_0 rfl rfl ?_
  refine x_iconst i_15_1 (by decide) rfl ?_
  refine x_ixor i_15_2 rfl ?_
  refine x_ireti i_15_3 r_15 ?_
  refine x_bki rfl ?_
  refine x_callv (as := [.inl (pm_op a4), .inl a5, .inl (pm_op a3)]) (rest := []) i_31_56 k_31_64 rfl rfl rfl g_2 (Nat.le_of_ble_eq_true rfl) m_33 rfl h
/-! GateBench$Circuit.describeGate at 59 -/
theorem s_31_59 {L : Nat} {M : pm_M} {Q : pm_P} {a1 a3 a4 a5 a6 : Int}
    (h : pm_X L (33, 0, [some (.inr (.inl 2)), some (.inl a4), some (.inl (pm_op a6)), some (.inl a3)], [], M) (pm_back (pm_X L) 31 68 [some (.inr (.inl 1)), some (.inl a1), some (.inr (.inl 2)), some (.inl a3), some (.inl a4), some (.inl a5), some (.inl a6)] [] Q)) :
    pm_X L (31, 59, [some (.inr (.inl 1)), some (.inl a1), some (.inr (.inl 2)), some (.inl a3), some (.inl a4), some (.inl a5), some (.inl a6)], [], M) Q := by
  refine x_aload_n i_31_59 rfl rfl ?_
  refine x_iload i_31_60 rfl rfl ?_
  refine x_iload i_31_62 rfl rfl ?_
  refine x_calls (as := [.inl a6]) (rest := [.inl a4, .inr (.inl 2)]) i_31_64 k_31_61 rfl rfl rfl (Nat.le_of_ble_eq_true rfl) m_15 rfl ?_
  refine x_iload_n i_15_0 rfl rfl ?_
  refine x_iconst i_15_1 (by decide) rfl ?_
  refine x_ixor i_15_2 rfl ?_
  refine x_ireti i_15_3 r_15 ?_
  refine x_bki rfl ?_
  refine x_iload_n i_31_67 rfl rfl ?_
  refine x_callv (as := [.inl a4, .inl (pm_op a6), .inl a3]) (rest := []) i_31_68 k_31_64 rfl rfl rfl g_2 (Nat.le_of_ble_eq_true rfl) m_33 rfl h
/-! GateBench$Circuit.describeGate at 71 -/
theorem s_31_71 {L : Nat} {M : pm_M} {Q : pm_P} {a1 a3 a4 a5 a6 : Int}
    (h : pm_X L (33, 0, [some (.inr (.inl 2)), some (.inl a4), some (.inl a6), some (.inl (pm_op a3))], [], M) (pm_back (pm_X L) 31 80 [some (.inr (.inl 1)), some (.inl a1), some (.inr (.inl 2)), some (.inl a3), some (.inl a4), some (.inl a5), some (.inl a6)] [] Q)) :
    pm_X L (31, 71, [some (.inr (.inl 1)), some (.inl a1), some (.inr (.inl 2)), some (.inl a3), some (.inl a4), some (.inl a5), some (.inl a6)], [], M) Q := by
  refine x_aload_n i_31_71 rfl rfl ?_
  refine x_iload i_31_72 rfl rfl ?_
  refine x_iload i_31_74 rfl rfl ?_
  refine x_iload_n i_31_76 rfl rfl ?_
  refine x_calls (as := [.inl a3]) (rest := [.inl a6, .inl a4, .inr (.inl 2)]) i_31_77 k_31_61 rfl rfl rfl (Nat.le_of_ble_eq_true rfl) m_15 rfl ?_
  refine x_iload_n i_15_0 rfl rfl ?_
  refine x_iconst i_15_1 (by decide) rfl ?_
  refine x_ixor i_15_2 rfl ?_
  refine x_ireti i_15_3 r_15 ?_
  refine x_bki rfl ?_
  refine x_callv (as := [.inl a4, .inl a6, .inl (pm_op a3)]) (rest := []) i_31_80 k_31_64 rfl rfl rfl g_2 (Nat.le_of_ble_eq_true rfl) m_33 rfl h
/-! GateBench$Circuit.describeGate at 83 -/
theorem s_31_83 {L : Nat} {M : pm_M} {Q : pm_P} {a1 a3 a4 a5 a6 : Int}
    (h : pm_X L (33, 0, [some (.inr (.inl 2)), some (.inl (pm_op a5)), some (.inl (pm_op a6)), some (.inl a3)], [], M) (pm_back (pm_X L) 31 95 [some (.inr (.inl 1)), some (.inl a1), some (.inr (.inl 2)), some (.inl a3), some (.inl a4), some (.inl a5), some (.inl a6)] [] Q)) :
    pm_X L (31, 83, [some (.inr (.inl 1)), some (.inl a1), some (.inr (.inl 2)), some (.inl a3), some (.inl a4), some (.inl a5), some (.inl a6)], [], M) Q := by
  refine x_aload_n i_31_83 rfl rfl ?_
  refine x_iload i_31_84 rfl rfl ?_
  refine x_calls (as := [.inl a5]) (rest := [.inr (.inl 2)]) i_31_86 k_31_61 rfl rfl rfl (Nat.le_of_ble_eq_true rfl) m_15 rfl ?_
  refine x_iload_n i_15_0 rfl rfl ?_
  refine x_iconst i_15_1 (by decide) rfl ?_
  refine x_ixor i_15_2 rfl ?_
  refine x_ireti i_15_3 r_15 ?_
  refine x_bki rfl ?_
  refine x_iload i_31_89 rfl rfl ?_
  refine x_calls (as := [.inl a6]) (rest := [.inl (pm_op a5), .inr (.inl 2)]) i_31_91 k_31_61 rfl rfl rfl (Nat.le_of_ble_eq_true rfl) m_15 rfl ?_
  refine x_iload_n i_15_0 rfl rfl ?_
  refine x_iconst i_15_1 (by decide) rfl ?_
  refine x_ixor i_15_2 rfl ?_
  refine x_ireti i_15_3 r_15 ?_
  refine x_bki rfl ?_
  refine x_iload_n i_31_94 rfl rfl ?_
  refine x_callv (as := [.inl (pm_op a5), .inl (pm_op a6), .inl a3]) (rest := []) i_31_95 k_31_64 rfl rfl rfl g_2 (Nat.le_of_ble_eq_true rfl) m_33 rfl h
/-! GateBench$Circuit.describeGate at 98 -/
theorem s_31_98 {L : Nat} {M : pm_M} {Q : pm_P} {a1 a3 a4 a5 a6 : Int}
    (h : pm_X L (33, 0, [some (.inr (.inl 2)), some (.inl a5), some (.inl a6), some (.inl (pm_op a3))], [], M) (pm_back (pm_X L) 31 107 [some (.inr (.inl 1)), some (.inl a1), some (.inr (.inl 2)), some (.inl a3), some (.inl a4), some (.inl a5), some (.inl a6)] [] Q)) :
    pm_X L (31, 98, [some (.inr (.inl 1)), some (.inl a1), some (.inr (.inl 2)), some (.inl a3), some (.inl a4), some (.inl a5), some (.inl a6)], [], M) Q := by
  refine x_aload_n i_31_98 rfl rfl ?_
  refine x_iload i_31_99 rfl rfl ?_
  refine x_iload i_31_101 rfl rfl ?_
  refine x_iload_n i_31_103 rfl rfl ?_
  refine x_calls (as := [.inl a3]) (rest := [.inl a6, .inl a5, .inr (.inl 2)]) i_31_104 k_31_61 rfl rfl rfl (Nat.le_of_ble_eq_true rfl) m_15 rfl ?_
  refine x_iload_n i_15_0 rfl rfl ?_
  refine x_iconst i_15_1 (by decide) rfl ?_
  refine x_ixor i_15_2 rfl ?_
  refine x_ireti i_15_3 r_15 ?_
  refine x_bki rfl ?_
  refine x_callv (as := [.inl a5, .inl a6, .inl (pm_op a3)]) (rest := []) i_31_107 k_31_64 rfl rfl rfl g_2 (Nat.le_of_ble_eq_true rfl) m_33 rfl h
/-! GateBench$Circuit.describeGate at 110 -/
theorem s_31_110 {L : Nat} {M : pm_M} {Q : pm_P} {a1 a3 a4 a5 a6 : Int}
    (h : Q (.inl none) M) :
    pm_X L (31, 110, [some (.inr (.inl 1)), some (.inl a1), some (.inr (.inl 2)), some (.inl a3), some (.inl a4), some (.inl a5), some (.inl a6)], [], M) Q := by
  exact x_ret i_31_110 r_31 h
/-! GateBench$Clauses.removeAll at 0 -/
theorem s_32_0 {L : Nat} {M : pm_M} {Q : pm_P}
    (h : Q (.inl none) (pm_set (pm_set M 2 2 0) 2 3 0)) :
    pm_X L (32, 0, [some (.inr (.inl 2))], [], M) Q := by
  refine x_aload_n i_32_0 rfl rfl ?_
  refine x_iconst i_32_1 (by decide) rfl ?_
  refine x_puti i_32_2 f_32_19 g_2 rfl rfl ?_
  refine x_aload_n i_32_5 rfl rfl ?_
  refine x_iconst i_32_6 (by decide) rfl ?_
  refine x_puti i_32_7 f_32_23 g_2 rfl rfl ?_
  exact x_ret i_32_10 r_32 h
