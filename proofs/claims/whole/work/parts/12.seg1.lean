/-! GateBench$Clauses.add at 0 -/
theorem s_33_0 {L : Nat} {M : pm_M} {Q : pm_P} {a1 a2 a3 : Int}
    (h : ((a1 = 1 → Q (.inl none) M) ∧ (¬ (a1 = 1) → ((a2 = 1 → Q (.inl none) M) ∧ (¬ (a2 = 1) → ((¬ a3 = 1 → ((a1 = pm_op a2 → Q (.inl none) M) ∧ (¬ (a1 = pm_op a2) → ((a1 = pm_op a3 → Q (.inl none) M) ∧ (¬ (a1 = pm_op a3) → ((¬ a2 = pm_op a3 → pm_X L (33, 41, [some (.inr (.inl 2)), some (.inl a1), some (.inl a2), some (.inl a3)], [], M) Q) ∧ (¬ (¬ a2 = pm_op a3) → Q (.inl none) M))))))) ∧ (¬ (¬ a3 = 1) → Q (.inl none) M))))))) :
    pm_X L (33, 0, [some (.inr (.inl 2)), some (.inl a1), some (.inl a2), some (.inl a3)], [], M) Q := by
  refine x_iload_n i_33_0 rfl rfl ?_
  refine x_iconst i_33_1 (by decide) rfl ?_
  refine x_icmp (C := a1 = 1) i_33_2 rfl Iff.rfl rfl ⟨fun c1 => ?_, fun c1 => ?_⟩
  · replace h := h.1 c1
    exact x_ret i_33_15 r_33 h
  · replace h := h.2 c1
    refine x_iload_n i_33_5 rfl rfl ?_
    refine x_iconst i_33_6 (by decide) rfl ?_
    refine x_icmp (C := a2 = 1) i_33_7 rfl Iff.rfl rfl ⟨fun c2 => ?_, fun c2 => ?_⟩
    · replace h := h.1 c2
      exact x_ret i_33_15 r_33 h
    · replace h := h.2 c2
      refine x_iload_n i_33_10 rfl rfl ?_
      refine x_iconst i_33_11 (by decide) rfl ?_
      refine x_icmp (C := ¬ a3 = 1) i_33_12 rfl Iff.rfl rfl ⟨fun c3 => ?_, fun c3 => ?_⟩
      · replace h := h.1 c3
        refine x_iload_n i_33_16 rfl rfl ?_
        refine x_iload_n i_33_17 rfl rfl ?_
        refine x_calls (as := [.inl a2]) (rest := [.inl a1]) i_33_18 k_33_26 rfl rfl rfl (Nat.le_of_ble_eq_true rfl) m_15 rfl ?_
        refine x_iload_n i_15_0 rfl rfl ?_
        refine x_iconst i_15_1 (by decide) rfl ?_
        refine x_ixor i_15_2 rfl ?_
        refine x_ireti i_15_3 r_15 ?_
        refine x_bki rfl ?_
        refine x_icmp (C := a1 = pm_op a2) i_33_21 rfl Iff.rfl rfl ⟨fun c4 => ?_, fun c4 => ?_⟩
        · replace h := h.1 c4
          exact x_ret i_33_40 r_33 h
        · replace h := h.2 c4
          refine x_iload_n i_33_24 rfl rfl ?_
          refine x_iload_n i_33_25 rfl rfl ?_
          refine x_calls (as := [.inl a3]) (rest := [.inl a1]) i_33_26 k_33_26 rfl rfl rfl (Nat.le_of_ble_eq_true rfl) m_15 rfl ?_
          refine x_iload_n i_15_0 rfl rfl ?_
          refine x_iconst i_15_1 (by decide) rfl ?_
          refine x_ixor i_15_2 rfl ?_
          refine x_ireti i_15_3 r_15 ?_
          refine x_bki rfl ?_
          refine x_icmp (C := a1 = pm_op a3) i_33_29 rfl Iff.rfl rfl ⟨fun c5 => ?_, fun c5 => ?_⟩
          · replace h := h.1 c5
            exact x_ret i_33_40 r_33 h
          · replace h := h.2 c5
            refine x_iload_n i_33_32 rfl rfl ?_
            refine x_iload_n i_33_33 rfl rfl ?_
            refine x_calls (as := [.inl a3]) (rest := [.inl a2]) i_33_34 k_33_26 rfl rfl rfl (Nat.le_of_ble_eq_true rfl) m_15 rfl ?_
            refine x_iload_n i_15_0 rfl rfl ?_
            refine x_iconst i_15_1 (by decide) rfl ?_
            refine x_ixor i_15_2 rfl ?_
            refine x_ireti i_15_3 r_15 ?_
            refine x_bki rfl ?_
            refine x_icmp (C := ¬ a2 = pm_op a3) i_33_37 rfl Iff.rfl rfl ⟨fun c6 => ?_, fun c6 => ?_⟩
            · replace h := h.1 c6
              exact h
            · replace h := h.2 c6
              exact x_ret i_33_40 r_33 h
      · replace h := h.2 c3
        exact x_ret i_33_15 r_33 h
/-! GateBench$Clauses.add at 41 -/
theorem s_33_41 {L : Nat} {M : pm_M} {Q : pm_P} {a1 a2 a3 : Int}
    (h : ((a1 = 0 → pm_X L (33, 50, [some (.inr (.inl 2)), some (.inl a1), some (.inl a2), some (.inl a3)], [], M) Q) ∧ (¬ (a1 = 0) → (0 ≤ M 2 3 ∧ M 2 3 < 85212) ∧ (pm_R (M 2 3 + 1)) ∧ pm_X L (33, 50, [some (.inr (.inl 2)), some (.inl a1), some (.inl a2), some (.inl a3)], [], pm_set (pm_set M 13 (M 2 3) a1) 2 3 (M 2 3 + 1)) Q))) :
    pm_X L (33, 41, [some (.inr (.inl 2)), some (.inl a1), some (.inl a2), some (.inl a3)], [], M) Q := by
  refine x_iload_n i_33_41 rfl rfl ?_
  refine x_if (C := a1 = 0) i_33_42 rfl Iff.rfl rfl ⟨fun c1 => ?_, fun c1 => ?_⟩
  · replace h := h.1 c1
    exact h
  · replace h := h.2 c1
    refine x_aload_n i_33_45 rfl rfl ?_
    refine x_iload_n i_33_46 rfl rfl ?_
    refine x_callv (as := [.inl a1]) (rest := []) i_33_47 k_33_30 rfl rfl rfl g_2 (Nat.le_of_ble_eq_true rfl) m_34 rfl ?_
    refine x_aload_n i_34_0 rfl rfl ?_
    refine x_getr i_34_1 f_34_10 g_2 rfl rfl ?_
    refine x_aload_n i_34_4 rfl rfl ?_
    refine x_geti (v := M 2 3) i_34_5 f_34_23 g_2 rfl (rfl) rfl ?_
    refine x_iload_n i_34_8 rfl rfl ?_
    obtain ⟨q2, h⟩ := h
    refine x_iastore i_34_9 g_13 rfl q2 ?_
    refine x_aload_n i_34_10 rfl rfl ?_
    refine x_dup i_34_11 rfl rfl ?_
    refine x_geti (v := M 2 3) i_34_12 f_34_23 g_2 rfl (pm_get_c (by decide) rfl) rfl ?_
    refine x_iconst i_34_15 (by decide) rfl ?_
    obtain ⟨q3, h⟩ := h
    refine x_iadd i_34_16 rfl q3 ?_
    refine x_puti i_34_17 f_34_23 g_2 rfl rfl ?_
    refine x_ret i_34_20 r_34 ?_
    refine x_bkv rfl ?_
    exact h
/-! GateBench$Clauses.add at 50 -/
theorem s_33_50 {L : Nat} {M : pm_M} {Q : pm_P} {a1 a2 a3 : Int}
    (h : ((a2 = 0 → pm_X L (33, 64, [some (.inr (.inl 2)), some (.inl a1), some (.inl a2), some (.inl a3)], [], M) Q) ∧ (¬ (a2 = 0) → ((a2 = a1 → pm_X L (33, 64, [some (.inr (.inl 2)), some (.inl a1), some (.inl a2), some (.inl a3)], [], M) Q) ∧ (¬ (a2 = a1) → (0 ≤ M 2 3 ∧ M 2 3 < 85212) ∧ (pm_R (M 2 3 + 1)) ∧ pm_X L (33, 64, [some (.inr (.inl 2)), some (.inl a1), some (.inl a2), some (.inl a3)], [], pm_set (pm_set M 13 (M 2 3) a2) 2 3 (M 2 3 + 1)) Q))))) :
    pm_X L (33, 50, [some (.inr (.inl 2)), some (.inl a1), some (.inl a2), some (.inl a3)], [], M) Q := by
  refine x_iload_n i_33_50 rfl rfl ?_
  refine x_if (C := a2 = 0) i_33_51 rfl Iff.rfl rfl ⟨fun c1 => ?_, fun c1 => ?_⟩
  · replace h := h.1 c1
    exact h
  · replace h := h.2 c1
    refine x_iload_n i_33_54 rfl rfl ?_
    refine x_iload_n i_33_55 rfl rfl ?_
    refine x_icmp (C := a2 = a1) i_33_56 rfl Iff.rfl rfl ⟨fun c2 => ?_, fun c2 => ?_⟩
    · replace h := h.1 c2
      exact h
    · replace h := h.2 c2
      refine x_aload_n i_33_59 rfl rfl ?_
      refine x_iload_n i_33_60 rfl rfl ?_
      refine x_callv (as := [.inl a2]) (rest := []) i_33_61 k_33_30 rfl rfl rfl g_2 (Nat.le_of_ble_eq_true rfl) m_34 rfl ?_
      refine x_aload_n i_34_0 rfl rfl ?_
      refine x_getr i_34_1 f_34_10 g_2 rfl rfl ?_
      refine x_aload_n i_34_4 rfl rfl ?_
      refine x_geti (v := M 2 3) i_34_5 f_34_23 g_2 rfl (rfl) rfl ?_
      refine x_iload_n i_34_8 rfl rfl ?_
      obtain ⟨q3, h⟩ := h
      refine x_iastore i_34_9 g_13 rfl q3 ?_
      refine x_aload_n i_34_10 rfl rfl ?_
      refine x_dup i_34_11 rfl rfl ?_
      refine x_geti (v := M 2 3) i_34_12 f_34_23 g_2 rfl (pm_get_c (by decide) rfl) rfl ?_
      refine x_iconst i_34_15 (by decide) rfl ?_
      obtain ⟨q4, h⟩ := h
      refine x_iadd i_34_16 rfl q4 ?_
      refine x_puti i_34_17 f_34_23 g_2 rfl rfl ?_
      refine x_ret i_34_20 r_34 ?_
      refine x_bkv rfl ?_
      exact h
/-! GateBench$Clauses.add at 64 -/
theorem s_33_64 {L : Nat} {M : pm_M} {Q : pm_P} {a1 a2 a3 : Int}
    (h : ((a3 = 0 → pm_X L (33, 83, [some (.inr (.inl 2)), some (.inl a1), some (.inl a2), some (.inl a3)], [], M) Q) ∧ (¬ (a3 = 0) → ((a3 = a1 → pm_X L (33, 83, [some (.inr (.inl 2)), some (.inl a1), some (.inl a2), some (.inl a3)], [], M) Q) ∧ (¬ (a3 = a1) → ((a3 = a2 → pm_X L (33, 83, [some (.inr (.inl 2)), some (.inl a1), some (.inl a2), some (.inl a3)], [], M) Q) ∧ (¬ (a3 = a2) → (0 ≤ M 2 3 ∧ M 2 3 < 85212) ∧ (pm_R (M 2 3 + 1)) ∧ pm_X L (33, 83, [some (.inr (.inl 2)), some (.inl a1), some (.inl a2), some (.inl a3)], [], pm_set (pm_set M 13 (M 2 3) a3) 2 3 (M 2 3 + 1)) Q))))))) :
    pm_X L (33, 64, [some (.inr (.inl 2)), some (.inl a1), some (.inl a2), some (.inl a3)], [], M) Q := by
  refine x_iload_n i_33_64 rfl rfl ?_
  refine x_if (C := a3 = 0) i_33_65 rfl Iff.rfl rfl ⟨fun c1 => ?_, fun c1 => ?_⟩
  · replace h := h.1 c1
    exact h
  · replace h := h.2 c1
    refine x_iload_n i_33_68 rfl rfl ?_
    refine x_iload_n i_33_69 rfl rfl ?_
    refine x_icmp (C := a3 = a1) i_33_70 rfl Iff.rfl rfl ⟨fun c2 => ?_, fun c2 => ?_⟩
    · replace h := h.1 c2
      exact h
    · replace h := h.2 c2
      refine x_iload_n i_33_73 rfl rfl ?_
      refine x_iload_n i_33_74 rfl rfl ?_
      refine x_icmp (C := a3 = a2) i_33_75 rfl Iff.rfl rfl ⟨fun c3 => ?_, fun c3 => ?_⟩
      · replace h := h.1 c3
        exact h
      · replace h := h.2 c3
        refine x_aload_n i_33_78 rfl rfl ?_
        refine x_iload_n i_33_79 rfl rfl ?_
        refine x_callv (as := [.inl a3]) (rest := []) i_33_80 k_33_30 rfl rfl rfl g_2 (Nat.le_of_ble_eq_true rfl) m_34 rfl ?_
        refine x_aload_n i_34_0 rfl rfl ?_
        refine x_getr i_34_1 f_34_10 g_2 rfl rfl ?_
        refine x_aload_n i_34_4 rfl rfl ?_
        refine x_geti (v := M 2 3) i_34_5 f_34_23 g_2 rfl (rfl) rfl ?_
        refine x_iload_n i_34_8 rfl rfl ?_
        obtain ⟨q4, h⟩ := h
        refine x_iastore i_34_9 g_13 rfl q4 ?_
        refine x_aload_n i_34_10 rfl rfl ?_
        refine x_dup i_34_11 rfl rfl ?_
        refine x_geti (v := M 2 3) i_34_12 f_34_23 g_2 rfl (pm_get_c (by decide) rfl) rfl ?_
        refine x_iconst i_34_15 (by decide) rfl ?_
        obtain ⟨q5, h⟩ := h
        refine x_iadd i_34_16 rfl q5 ?_
        refine x_puti i_34_17 f_34_23 g_2 rfl rfl ?_
        refine x_ret i_34_20 r_34 ?_
        refine x_bkv rfl ?_
        exact h
/-! GateBench$Clauses.add at 83 -/
theorem s_33_83 {L : Nat} {M : pm_M} {Q : pm_P} {a1 a2 a3 : Int}
    (h : (pm_R (M 2 2 + 1)) ∧ (0 ≤ M 2 2 + 1 ∧ M 2 2 + 1 < 16117) ∧ Q (.inl none) (pm_set (pm_set M 2 2 (M 2 2 + 1)) 14 (M 2 2 + 1) (M 2 3))) :
    pm_X L (33, 83, [some (.inr (.inl 2)), some (.inl a1), some (.inl a2), some (.inl a3)], [], M) Q := by
  refine x_aload_n i_33_83 rfl rfl ?_
  refine x_callv (as := []) (rest := []) i_33_84 k_33_34 rfl rfl rfl g_2 (Nat.le_of_ble_eq_true rfl) m_35 rfl ?_
  refine x_aload_n i_35_0 rfl rfl ?_
  refine x_geti (v := M 2 2) i_35_1 f_35_19 g_2 rfl (rfl) rfl ?_
  refine x_istore_n i_35_4 (Nat.le_of_ble_eq_true rfl) rfl rfl ?_
  refine x_aload_n i_35_5 rfl rfl ?_
  refine x_dup i_35_6 rfl rfl ?_
  refine x_geti (v := M 2 2) i_35_7 f_35_19 g_2 rfl (rfl) rfl ?_
  refine x_iconst i_35_10 (by decide) rfl ?_
  obtain ⟨q1, h⟩ := h
  refine x_iadd i_35_11 rfl q1 ?_
  refine x_puti i_35_12 f_35_19 g_2 rfl rfl ?_
  refine x_aload_n i_35_15 rfl rfl ?_
  refine x_getr i_35_16 f_35_16 g_2 rfl rfl ?_
  refine x_aload_n i_35_19 rfl rfl ?_
  refine x_geti (v := M 2 2 + 1) i_35_20 f_35_19 g_2 rfl (pm_get_e) rfl ?_
  refine x_aload_n i_35_23 rfl rfl ?_
  refine x_geti (v := M 2 3) i_35_24 f_35_23 g_2 rfl (pm_get_j (by decide) rfl) rfl ?_
  obtain ⟨q2, h⟩ := h
  refine x_iastore i_35_27 g_14 rfl q2 ?_
  refine x_iload_n i_35_28 rfl rfl ?_
  refine x_ireti i_35_29 r_35 ?_
  refine x_bki rfl ?_
  refine x_pop i_33_87 rfl rfl ?_
  exact x_ret i_33_88 r_33 h
/-! GateBench$Clauses.append at 0 -/
theorem s_34_0 {L : Nat} {M : pm_M} {Q : pm_P} {a1 : Int}
    (h : (0 ≤ M 2 3 ∧ M 2 3 < 85212) ∧ (pm_R (M 2 3 + 1)) ∧ Q (.inl none) (pm_set (pm_set M 13 (M 2 3) a1) 2 3 (M 2 3 + 1))) :
    pm_X L (34, 0, [some (.inr (.inl 2)), some (.inl a1)], [], M) Q := by
  refine x_aload_n i_34_0 rfl rfl ?_
  refine x_getr i_34_1 f_34_10 g_2 rfl rfl ?_
  refine x_aload_n i_34_4 rfl rfl ?_
  refine x_geti (v := M 2 3) i_34_5 f_34_23 g_2 rfl (rfl) rfl ?_
  refine x_iload_n i_34_8 rfl rfl ?_
  obtain ⟨q1, h⟩ := h
  refine x_iastore i_34_9 g_13 rfl q1 ?_
  refine x_aload_n i_34_10 rfl rfl ?_
  refine x_dup i_34_11 rfl rfl ?_
  refine x_geti (v := M 2 3) i_34_12 f_34_23 g_2 rfl (pm_get_c (by decide) rfl) rfl ?_
  refine x_iconst i_34_15 (by decide) rfl ?_
  obtain ⟨q2, h⟩ := h
  refine x_iadd i_34_16 rfl q2 ?_
  refine x_puti i_34_17 f_34_23 g_2 rfl rfl ?_
  exact x_ret i_34_20 r_34 h
/-! GateBench$Clauses.close at 0 -/
theorem s_35_0 {L : Nat} {M : pm_M} {Q : pm_P}
    (h : (pm_R (M 2 2 + 1)) ∧ (0 ≤ M 2 2 + 1 ∧ M 2 2 + 1 < 16117) ∧ Q (.inl (some (.inl (M 2 2)))) (pm_set (pm_set M 2 2 (M 2 2 + 1)) 14 (M 2 2 + 1) (M 2 3))) :
    pm_X L (35, 0, [some (.inr (.inl 2)), none], [], M) Q := by
  refine x_aload_n i_35_0 rfl rfl ?_
  refine x_geti (v := M 2 2) i_35_1 f_35_19 g_2 rfl (rfl) rfl ?_
  refine x_istore_n i_35_4 (Nat.le_of_ble_eq_true rfl) rfl rfl ?_
  refine x_aload_n i_35_5 rfl rfl ?_
  refine x_dup i_35_6 rfl rfl ?_
  refine x_geti (v := M 2 2) i_35_7 f_35_19 g_2 rfl (rfl) rfl ?_
  refine x_iconst i_35_10 (by decide) rfl ?_
  obtain ⟨q1, h⟩ := h
  refine x_iadd i_35_11 rfl q1 ?_
  refine x_puti i_35_12 f_35_19 g_2 rfl rfl ?_
  refine x_aload_n i_35_15 rfl rfl ?_
  refine x_getr i_35_16 f_35_16 g_2 rfl rfl ?_
  refine x_aload_n i_35_19 rfl rfl ?_
  refine x_geti (v := M 2 2 + 1) i_35_20 f_35_19 g_2 rfl (pm_get_e) rfl ?_
  refine x_aload_n i_35_23 rfl rfl ?_
  refine x_geti (v := M 2 3) i_35_24 f_35_23 g_2 rfl (pm_get_j (by decide) rfl) rfl ?_
  obtain ⟨q2, h⟩ := h
  refine x_iastore i_35_27 g_14 rfl q2 ?_
  refine x_iload_n i_35_28 rfl rfl ?_
  exact x_ireti i_35_29 r_35 h
/-! GateBench$Clauses.sizeOf at 0 -/
theorem s_36_0 {L : Nat} {M : pm_M} {Q : pm_P} {a1 : Int}
    (h : (pm_R (a1 + 1)) ∧ (0 ≤ a1 + 1 ∧ a1 + 1 < 16117) ∧ (0 ≤ a1 ∧ a1 < 16117) ∧ (pm_R (M 14 (a1 + 1) - M 14 a1)) ∧ Q (.inl (some (.inl (M 14 (a1 + 1) - M 14 a1)))) M) :
    pm_X L (36, 0, [some (.inr (.inl 2)), some (.inl a1)], [], M) Q := by
  refine x_aload_n i_36_0 rfl rfl ?_
  refine x_getr i_36_1 f_36_16 g_2 rfl rfl ?_
  refine x_iload_n i_36_4 rfl rfl ?_
  refine x_iconst i_36_5 (by decide) rfl ?_
  obtain ⟨q1, h⟩ := h
  refine x_iadd i_36_6 rfl q1 ?_
  obtain ⟨q2, h⟩ := h
  refine x_iaload (v := M 14 (a1 + 1)) i_36_7 g_14 (rfl) rfl q2 ?_
  refine x_aload_n i_36_8 rfl rfl ?_
  refine x_getr i_36_9 f_36_16 g_2 rfl rfl ?_
  refine x_iload_n i_36_12 rfl rfl ?_
  obtain ⟨q3, h⟩ := h
  refine x_iaload (v := M 14 a1) i_36_13 g_14 (rfl) rfl q3 ?_
  obtain ⟨q4, h⟩ := h
  refine x_isub i_36_14 rfl q4 ?_
  exact x_ireti i_36_15 r_36 h
/-! GateBench$Checker.begin at 0 -/
theorem s_37_0 {L : Nat} {M : pm_M} {Q : pm_P}
    (h : Q (.inl none) (pm_set (pm_set M 3 3 (M 2 2)) 3 4 0)) :
    pm_X L (37, 0, [some (.inr (.inl 3))], [], M) Q := by
  refine x_aload_n i_37_0 rfl rfl ?_
  refine x_aload_n i_37_1 rfl rfl ?_
  refine x_getr i_37_2 f_37_15 g_3 rfl rfl ?_
  refine x_geti (v := M 2 2) i_37_5 f_37_19 g_2 rfl (rfl) rfl ?_
  refine x_puti i_37_8 f_37_25 g_3 rfl rfl ?_
  refine x_aload_n i_37_11 rfl rfl ?_
  refine x_iconst i_37_12 (by decide) rfl ?_
  refine x_putz i_37_13 f_37_28 g_3 rfl rfl (by unfold pm_bit; decide) ?_
  exact x_ret i_37_16 r_37 h
/-! GateBench$Checker.hasRefutation at 0 -/
theorem s_38_0 {L : Nat} {M : pm_M} {Q : pm_P}
    (h : (pm_bit (M 3 4)) ∧ Q (.inl (some (.inl (M 3 4)))) M) :
    pm_X L (38, 0, [some (.inr (.inl 3))], [], M) Q := by
  refine x_aload_n i_38_0 rfl rfl ?_
  refine x_geti (v := M 3 4) i_38_1 f_38_28 g_3 rfl (rfl) rfl ?_
  obtain ⟨q1, h⟩ := h
  exact x_iretz i_38_4 r_38 q1 h
/-! GateBench$Checker.goThrough at 0 -/
theorem s_39_0 {L : Nat} {M : pm_M} {Q : pm_P} {a1 a3 : Int}
    (h : ((¬ a1 = M 3 3 → Q (.inl none) M) ∧ (¬ (¬ a1 = M 3 3) → pm_X L (40, 0, [some (.inr (.inl 3)), some (.inl a1), some (.inr (.inl 19)), some (.inl a3), none, none], [], M) (pm_back (pm_X L) 39 12 [some (.inr (.inl 3)), some (.inl a1), some (.inr (.inl 19)), some (.inl a3)] [] Q)))) :
    pm_X L (39, 0, [some (.inr (.inl 3)), some (.inl a1), some (.inr (.inl 19)), some (.inl a3)], [], M) Q := by
  refine x_iload_n i_39_0 rfl rfl ?_
  refine x_aload_n i_39_1 rfl rfl ?_
  refine x_geti (v := M 3 3) i_39_2 f_39_25 g_3 rfl (rfl) rfl ?_
  refine x_icmp (C := ¬ a1 = M 3 3) i_39_5 rfl Iff.rfl rfl ⟨fun c1 => ?_, fun c1 => ?_⟩
  · replace h := h.1 c1
    exact x_ret i_39_55 r_39 h
  · replace h := h.2 c1
    refine x_aload_n i_39_8 rfl rfl ?_
    refine x_iload_n i_39_9 rfl rfl ?_
    refine x_aload_n i_39_10 rfl rfl ?_
    refine x_iload_n i_39_11 rfl rfl ?_
    refine x_callv (as := [.inl a1, .inr (.inl 19), .inl a3]) (rest := []) i_39_12 k_39_32 rfl rfl rfl g_3 (Nat.le_of_ble_eq_true rfl) m_40 rfl h
/-! GateBench$Checker.goThrough at 15 -/
theorem s_39_15 {L : Nat} {M : pm_M} {Q : pm_P} {a1 a3 r : Int}
    (h : ((r = 0 → Q (.inl none) M) ∧ (¬ (r = 0) → (pm_R (M 3 3 + 1)) ∧ ((¬ M 3 4 = 0 → Q (.inl none) (pm_set (pm_set M 3 3 (M 3 3 + 1)) 3 4 1)) ∧ (¬ (¬ M 3 4 = 0) → (pm_R (a1 + 1)) ∧ (0 ≤ a1 + 1 ∧ a1 + 1 < 16117) ∧ (0 ≤ a1 ∧ a1 < 16117) ∧ (pm_R (M 14 (a1 + 1) - M 14 a1)) ∧ ((¬ M 14 (a1 + 1) - M 14 a1 = 0 → Q (.inl none) (pm_set (pm_set M 3 3 (M 3 3 + 1)) 3 4 0)) ∧ (¬ (¬ M 14 (a1 + 1) - M 14 a1 = 0) → Q (.inl none) (pm_set (pm_set M 3 3 (M 3 3 + 1)) 3 4 1)))))))) :
    pm_X L (39, 15, [some (.inr (.inl 3)), some (.inl a1), some (.inr (.inl 19)), some (.inl a3)], [.inl r], M) Q := by
  refine x_if (C := r = 0) i_39_15 rfl Iff.rfl rfl ⟨fun c1 => ?_, fun c1 => ?_⟩
  · replace h := h.1 c1
    exact x_ret i_39_55 r_39 h
  · replace h := h.2 c1
    refine x_aload_n i_39_18 rfl rfl ?_
    refine x_dup i_39_19 rfl rfl ?_
    refine x_geti (v := M 3 3) i_39_20 f_39_25 g_3 rfl (rfl) rfl ?_
    refine x_iconst i_39_23 (by decide) rfl ?_
    obtain ⟨q2, h⟩ := h
    refine x_iadd i_39_24 rfl q2 ?_
    refine x_puti i_39_25 f_39_25 g_3 rfl rfl ?_
    refine x_aload_n i_39_28 rfl rfl ?_
    refine x_aload_n i_39_29 rfl rfl ?_
    refine x_geti (v := M 3 4) i_39_30 f_39_28 g_3 rfl (pm_get_j (by decide) rfl) rfl ?_
    refine x_if (C := ¬ M 3 4 = 0) i_39_33 rfl Iff.rfl rfl ⟨fun c3 => ?_, fun c3 => ?_⟩
    · replace h := h.1 c3
      refine x_iconst i_39_47 (by decide) rfl ?_
      refine x_goto i_39_48 rfl ?_
      refine x_putz i_39_52 f_39_28 g_3 rfl rfl (by unfold pm_bit; decide) ?_
      exact x_ret i_39_55 r_39 h
    · replace h := h.2 c3
      refine x_aload_n i_39_36 rfl rfl ?_
      refine x_getr i_39_37 f_39_15 g_3 rfl rfl ?_
      refine x_iload_n i_39_40 rfl rfl ?_
      refine x_callv (as := [.inl a1]) (rest := [.inr (.inl 3)]) i_39_41 k_39_36 rfl rfl rfl g_2 (Nat.le_of_ble_eq_true rfl) m_36 rfl ?_
      refine x_aload_n i_36_0 rfl rfl ?_
      refine x_getr i_36_1 f_36_16 g_2 rfl rfl ?_
      refine x_iload_n i_36_4 rfl rfl ?_
      refine x_iconst i_36_5 (by decide) rfl ?_
      obtain ⟨q4, h⟩ := h
      refine x_iadd i_36_6 rfl q4 ?_
      obtain ⟨q5, h⟩ := h
      refine x_iaload (v := M 14 (a1 + 1)) i_36_7 g_14 (pm_get_c (by decide) rfl) rfl q5 ?_
      refine x_aload_n i_36_8 rfl rfl ?_
      refine x_getr i_36_9 f_36_16 g_2 rfl rfl ?_
      refine x_iload_n i_36_12 rfl rfl ?_
      obtain ⟨q6, h⟩ := h
      refine x_iaload (v := M 14 a1) i_36_13 g_14 (pm_get_c (by decide) rfl) rfl q6 ?_
      obtain ⟨q7, h⟩ := h
      refine x_isub i_36_14 rfl q7 ?_
      refine x_ireti i_36_15 r_36 ?_
      refine x_bki rfl ?_
      refine x_if (C := ¬ M 14 (a1 + 1) - M 14 a1 = 0) i_39_44 rfl Iff.rfl rfl ⟨fun c8 => ?_, fun c8 => ?_⟩
      · replace h := h.1 c8
        refine x_iconst i_39_51 (by decide) rfl ?_
        refine x_putz i_39_52 f_39_28 g_3 rfl rfl (by unfold pm_bit; decide) ?_
        exact x_ret i_39_55 r_39 h
      · replace h := h.2 c8
        refine x_iconst i_39_47 (by decide) rfl ?_
        refine x_goto i_39_48 rfl ?_
        refine x_putz i_39_52 f_39_28 g_3 rfl rfl (by unfold pm_bit; decide) ?_
        exact x_ret i_39_55 r_39 h
/-! GateBench$Checker.follows at 0 -/
theorem s_40_0 {L : Nat} {M : pm_M} {Q : pm_P} {a1 a3 : Int}
    (h : (pm_R (M 3 2 + 1)) ∧ (0 ≤ a1 ∧ a1 < 16117) ∧ pm_X L (40, 21, [some (.inr (.inl 3)), some (.inl a1), some (.inr (.inl 19)), some (.inl a3), some (.inl (M 14 a1)), none], [], pm_set M 3 2 (M 3 2 + 1)) Q) :
    pm_X L (40, 0, [some (.inr (.inl 3)), some (.inl a1), some (.inr (.inl 19)), some (.inl a3), none, none], [], M) Q := by
  refine x_aload_n i_40_0 rfl rfl ?_
  refine x_dup i_40_1 rfl rfl ?_
  refine x_geti (v := M 3 2) i_40_2 f_40_40 g_3 rfl (rfl) rfl ?_
  refine x_iconst i_40_5 (by decide) rfl ?_
  obtain ⟨q1, h⟩ := h
  refine x_iadd i_40_6 rfl q1 ?_
  refine x_puti i_40_7 f_40_40 g_3 rfl rfl ?_
  refine x_aload_n i_40_10 rfl rfl ?_
  refine x_getr i_40_11 f_40_15 g_3 rfl rfl ?_
  refine x_getr i_40_14 f_40_43 g_2 rfl rfl ?_
  refine x_iload_n i_40_17 rfl rfl ?_
  obtain ⟨q2, h⟩ := h
  refine x_iaload (v := M 14 a1) i_40_18 g_14 (pm_get_c (by decide) rfl) rfl q2 ?_
  refine x_istore i_40_19 (Nat.le_of_ble_eq_true rfl) rfl rfl ?_
  exact h
/-! GateBench$Checker.follows at 21 -/
theorem s_40_21 {L : Nat} {M : pm_M} {Q : pm_P} {a1 a3 a4 : Int}
    (h : (pm_R (a1 + 1)) ∧ (0 ≤ a1 + 1 ∧ a1 + 1 < 16117) ∧ ((M 14 (a1 + 1) ≤ a4 → pm_X L (40, 65, [some (.inr (.inl 3)), some (.inl a1), some (.inr (.inl 19)), some (.inl a3), some (.inl 0), none], [], M) Q) ∧ (¬ (M 14 (a1 + 1) ≤ a4) → (0 ≤ a4 ∧ a4 < 85212) ∧ (0 ≤ M 13 a4 ∧ M 13 a4 < 4000) ∧ (pm_R (a4 + 1)) ∧ pm_X L (40, 21, [some (.inr (.inl 3)), some (.inl a1), some (.inr (.inl 19)), some (.inl a3), some (.inl (a4 + 1)), none], [], pm_set M 15 (M 13 a4) (M 3 2)) Q))) :
    pm_X L (40, 21, [some (.inr (.inl 3)), some (.inl a1), some (.inr (.inl 19)), some (.inl a3), some (.inl a4), none], [], M) Q := by
  refine x_iload i_40_21 rfl rfl ?_
  refine x_aload_n i_40_23 rfl rfl ?_
  refine x_getr i_40_24 f_40_15 g_3 rfl rfl ?_
  refine x_getr i_40_27 f_40_43 g_2 rfl rfl ?_
  refine x_iload_n i_40_30 rfl rfl ?_
  refine x_iconst i_40_31 (by decide) rfl ?_
  obtain ⟨q1, h⟩ := h
  refine x_iadd i_40_32 rfl q1 ?_
  obtain ⟨q2, h⟩ := h
  refine x_iaload (v := M 14 (a1 + 1)) i_40_33 g_14 (rfl) rfl q2 ?_
  refine x_icmp (C := M 14 (a1 + 1) ≤ a4) i_40_34 rfl Iff.rfl rfl ⟨fun c3 => ?_, fun c3 => ?_⟩
  · replace h := h.1 c3
    refine x_iconst i_40_62 (by decide) rfl ?_
    refine x_istore i_40_63 (Nat.le_of_ble_eq_true rfl) rfl rfl ?_
    exact h
  · replace h := h.2 c3
    refine x_aload_n i_40_37 rfl rfl ?_
    refine x_getr i_40_38 f_40_9 g_3 rfl rfl ?_
    refine x_aload_n i_40_41 rfl rfl ?_
    refine x_getr i_40_42 f_40_15 g_3 rfl rfl ?_
    refine x_getr i_40_45 f_40_46 g_2 rfl rfl ?_
    refine x_iload i_40_48 rfl rfl ?_
    obtain ⟨q4, h⟩ := h
    refine x_iaload (v := M 13 a4) i_40_50 g_13 (rfl) rfl q4 ?_
    refine x_aload_n i_40_51 rfl rfl ?_
    refine x_geti (v := M 3 2) i_40_52 f_40_40 g_3 rfl (rfl) rfl ?_
    obtain ⟨q5, h⟩ := h
    refine x_iastore i_40_55 g_15 rfl q5 ?_
    obtain ⟨q6, h⟩ := h
    refine x_iinc i_40_56 rfl (by decide) rfl rfl q6 ?_
    refine x_goto i_40_59 rfl ?_
    exact h
/-! GateBench$Checker.follows at 65 -/
theorem s_40_65 {L : Nat} {M : pm_M} {Q : pm_P} {a1 a3 a4 : Int} {o5 : Option pm_V}
    (h : ((a3 ≤ a4 → Q (.inl (some (.inl 0))) M) ∧ (¬ (a3 ≤ a4) → (0 ≤ a4 ∧ a4 < 2001) ∧ ((M 19 a4 < 0 → Q (.inl (some (.inl 0))) M) ∧ (¬ (M 19 a4 < 0) → ((M 19 a4 < M 3 3 → pm_X L (41, 0, [some (.inr (.inl 3)), some (.inl (M 19 a4)), none, none], [], M) (pm_back (pm_X L) 40 96 [some (.inr (.inl 3)), some (.inl a1), some (.inr (.inl 19)), some (.inl a3), some (.inl a4), o5] [] Q)) ∧ (¬ (M 19 a4 < M 3 3) → Q (.inl (some (.inl 0))) M))))))) :
    pm_X L (40, 65, [some (.inr (.inl 3)), some (.inl a1), some (.inr (.inl 19)), some (.inl a3), some (.inl a4), o5], [], M) Q := by
  refine x_iload i_40_65 rfl rfl ?_
  refine x_iload_n i_40_67 rfl rfl ?_
  refine x_icmp (C := a3 ≤ a4) i_40_68 rfl Iff.rfl rfl ⟨fun c1 => ?_, fun c1 => ?_⟩
  · replace h := h.1 c1
    refine x_iconst i_40_138 (by decide) rfl ?_
    exact x_iretz i_40_139 r_40 (by unfold pm_bit; decide) h
  · replace h := h.2 c1
    refine x_aload_n i_40_71 rfl rfl ?_
    refine x_iload i_40_72 rfl rfl ?_
    obtain ⟨q2, h⟩ := h
    refine x_iaload (v := M 19 a4) i_40_74 g_19 (rfl) rfl q2 ?_
    refine x_if (C := M 19 a4 < 0) i_40_75 rfl Iff.rfl rfl ⟨fun c3 => ?_, fun c3 => ?_⟩
    · replace h := h.1 c3
      refine x_iconst i_40_89 (by decide) rfl ?_
      exact x_iretz i_40_90 r_40 (by unfold pm_bit; decide) h
    · replace h := h.2 c3
      refine x_aload_n i_40_78 rfl rfl ?_
      refine x_iload i_40_79 rfl rfl ?_
      refine x_iaload (v := M 19 a4) i_40_81 g_19 (rfl) rfl q2 ?_
      refine x_aload_n i_40_82 rfl rfl ?_
      refine x_geti (v := M 3 3) i_40_83 f_40_25 g_3 rfl (rfl) rfl ?_
      refine x_icmp (C := M 19 a4 < M 3 3) i_40_86 rfl Iff.rfl rfl ⟨fun c4 => ?_, fun c4 => ?_⟩
      · replace h := h.1 c4
        refine x_aload_n i_40_91 rfl rfl ?_
        refine x_aload_n i_40_92 rfl rfl ?_
        refine x_iload i_40_93 rfl rfl ?_
        refine x_iaload (v := M 19 a4) i_40_95 g_19 (rfl) rfl q2 ?_
        refine x_callv (as := [.inl (M 19 a4)]) (rest := []) i_40_96 k_40_49 rfl rfl rfl g_3 (Nat.le_of_ble_eq_true rfl) m_41 rfl h
      · replace h := h.2 c4
        refine x_iconst i_40_89 (by decide) rfl ?_
        exact x_iretz i_40_90 r_40 (by unfold pm_bit; decide) h
/-! GateBench$Checker.follows at 99 -/
theorem s_40_99 {L : Nat} {M : pm_M} {Q : pm_P} {a1 a3 a4 r : Int} {o5 : Option pm_V}
    (h : ((0 ≤ r → (0 ≤ pm_op r ∧ pm_op r < 4000) ∧ (pm_R (a4 + 1)) ∧ pm_X L (40, 65, [some (.inr (.inl 3)), some (.inl a1), some (.inr (.inl 19)), some (.inl a3), some (.inl (a4 + 1)), some (.inl r)], [], pm_set M 15 (pm_op r) (M 3 2)) Q) ∧ (¬ (0 ≤ r) → ((¬ r = -1 → Q (.inl (some (.inl 0))) M) ∧ (¬ (¬ r = -1) → Q (.inl (some (.inl 1))) M))))) :
    pm_X L (40, 99, [some (.inr (.inl 3)), some (.inl a1), some (.inr (.inl 19)), some (.inl a3), some (.inl a4), o5], [.inl r], M) Q := by
  refine x_istore i_40_99 (Nat.le_of_ble_eq_true rfl) rfl rfl ?_
  refine x_iload i_40_101 rfl rfl ?_
  refine x_if (C := 0 ≤ r) i_40_103 rfl Iff.rfl rfl ⟨fun c1 => ?_, fun c1 => ?_⟩
  · replace h := h.1 c1
    refine x_aload_n i_40_118 rfl rfl ?_
    refine x_getr i_40_119 f_40_9 g_3 rfl rfl ?_
    refine x_iload i_40_122 rfl rfl ?_
    refine x_calls (as := [.inl r]) (rest := [.inr (.inl 15)]) i_40_124 k_40_52 rfl rfl rfl (Nat.le_of_ble_eq_true rfl) m_15 rfl ?_
    refine x_iload_n i_15_0 rfl rfl ?_
    refine x_iconst i_15_1 (by decide) rfl ?_
    refine x_ixor i_15_2 rfl ?_
    refine x_ireti i_15_3 r_15 ?_
    refine x_bki rfl ?_
    refine x_aload_n i_40_127 rfl rfl ?_
    refine x_geti (v := M 3 2) i_40_128 f_40_40 g_3 rfl (rfl) rfl ?_
    obtain ⟨q2, h⟩ := h
    refine x_iastore i_40_131 g_15 rfl q2 ?_
    obtain ⟨q3, h⟩ := h
    refine x_iinc i_40_132 rfl (by decide) rfl rfl q3 ?_
    refine x_goto i_40_135 rfl ?_
    exact h
  · replace h := h.2 c1
    refine x_iload i_40_106 rfl rfl ?_
    refine x_iconst i_40_108 (by decide) rfl ?_
    refine x_icmp (C := ¬ r = -1) i_40_109 rfl Iff.rfl rfl ⟨fun c4 => ?_, fun c4 => ?_⟩
    · replace h := h.1 c4
      refine x_iconst i_40_116 (by decide) rfl ?_
      exact x_iretz i_40_117 r_40 (by unfold pm_bit; decide) h
    · replace h := h.2 c4
      refine x_iconst i_40_112 (by decide) rfl ?_
      refine x_goto i_40_113 rfl ?_
      exact x_iretz i_40_117 r_40 (by unfold pm_bit; decide) h
/-! GateBench$Checker.literalLeft at 0 -/
theorem s_41_0 {L : Nat} {M : pm_M} {Q : pm_P} {a1 : Int}
    (h : (0 ≤ a1 ∧ a1 < 16117) ∧ pm_X L (41, 12, [some (.inr (.inl 3)), some (.inl a1), some (.inl (-1)), some (.inl (M 14 a1))], [], M) Q) :
    pm_X L (41, 0, [some (.inr (.inl 3)), some (.inl a1), none, none], [], M) Q := by
  refine x_iconst i_41_0 (by decide) rfl ?_
  refine x_istore_n i_41_1 (Nat.le_of_ble_eq_true rfl) rfl rfl ?_
  refine x_aload_n i_41_2 rfl rfl ?_
  refine x_getr i_41_3 f_41_15 g_3 rfl rfl ?_
  refine x_getr i_41_6 f_41_43 g_2 rfl rfl ?_
  refine x_iload_n i_41_9 rfl rfl ?_
  obtain ⟨q1, h⟩ := h
  refine x_iaload (v := M 14 a1) i_41_10 g_14 (rfl) rfl q1 ?_
  refine x_istore_n i_41_11 (Nat.le_of_ble_eq_true rfl) rfl rfl ?_
  exact h
/-! GateBench$Checker.literalLeft at 12 -/
theorem s_41_12 {L : Nat} {M : pm_M} {Q : pm_P} {a1 a2 a3 : Int}
    (h : (pm_R (a1 + 1)) ∧ (0 ≤ a1 + 1 ∧ a1 + 1 < 16117) ∧ ((M 14 (a1 + 1) ≤ a3 → Q (.inl (some (.inl a2))) M) ∧ (¬ (M 14 (a1 + 1) ≤ a3) → (0 ≤ a3 ∧ a3 < 85212) ∧ (0 ≤ M 13 a3 ∧ M 13 a3 < 4000) ∧ ((M 15 (M 13 a3) = M 3 2 → (pm_R (a3 + 1)) ∧ pm_X L (41, 12, [some (.inr (.inl 3)), some (.inl a1), some (.inl a2), some (.inl (a3 + 1))], [], M) Q) ∧ (¬ (M 15 (M 13 a3) = M 3 2) → ((¬ a2 = -1 → (pm_R (a3 + 1)) ∧ pm_X L (41, 12, [some (.inr (.inl 3)), some (.inl a1), some (.inl (-2)), some (.inl (a3 + 1))], [], M) Q) ∧ (¬ (¬ a2 = -1) → (pm_R (a3 + 1)) ∧ pm_X L (41, 12, [some (.inr (.inl 3)), some (.inl a1), some (.inl (M 13 a3)), some (.inl (a3 + 1))], [], M) Q))))))) :
    pm_X L (41, 12, [some (.inr (.inl 3)), some (.inl a1), some (.inl a2), some (.inl a3)], [], M) Q := by
  refine x_iload_n i_41_12 rfl rfl ?_
  refine x_aload_n i_41_13 rfl rfl ?_
  refine x_getr i_41_14 f_41_15 g_3 rfl rfl ?_
  refine x_getr i_41_17 f_41_43 g_2 rfl rfl ?_
  refine x_iload_n i_41_20 rfl rfl ?_
  refine x_iconst i_41_21 (by decide) rfl ?_
  obtain ⟨q1, h⟩ := h
  refine x_iadd i_41_22 rfl q1 ?_
  obtain ⟨q2, h⟩ := h
  refine x_iaload (v := M 14 (a1 + 1)) i_41_23 g_14 (rfl) rfl q2 ?_
  refine x_icmp (C := M 14 (a1 + 1) ≤ a3) i_41_24 rfl Iff.rfl rfl ⟨fun c3 => ?_, fun c3 => ?_⟩
  · replace h := h.1 c3
    refine x_iload_n i_41_74 rfl rfl ?_
    exact x_ireti i_41_75 r_41 h
  · replace h := h.2 c3
    refine x_aload_n i_41_27 rfl rfl ?_
    refine x_getr i_41_28 f_41_9 g_3 rfl rfl ?_
    refine x_aload_n i_41_31 rfl rfl ?_
    refine x_getr i_41_32 f_41_15 g_3 rfl rfl ?_
    refine x_getr i_41_35 f_41_46 g_2 rfl rfl ?_
    refine x_iload_n i_41_38 rfl rfl ?_
    obtain ⟨q4, h⟩ := h
    refine x_iaload (v := M 13 a3) i_41_39 g_13 (rfl) rfl q4 ?_
    obtain ⟨q5, h⟩ := h
    refine x_iaload (v := M 15 (M 13 a3)) i_41_40 g_15 (rfl) rfl q5 ?_
    refine x_aload_n i_41_41 rfl rfl ?_
    refine x_geti (v := M 3 2) i_41_42 f_41_40 g_3 rfl (rfl) rfl ?_
    refine x_icmp (C := M 15 (M 13 a3) = M 3 2) i_41_45 rfl Iff.rfl rfl ⟨fun c6 => ?_, fun c6 => ?_⟩
    · replace h := h.1 c6
      obtain ⟨q7, h⟩ := h
      refine x_iinc i_41_68 rfl (by decide) rfl rfl q7 ?_
      refine x_goto i_41_71 rfl ?_
      exact h
    · replace h := h.2 c6
      refine x_iload_n i_41_48 rfl rfl ?_
      refine x_iconst i_41_49 (by decide) rfl ?_
      refine x_icmp (C := ¬ a2 = -1) i_41_50 rfl Iff.rfl rfl ⟨fun c8 => ?_, fun c8 => ?_⟩
      · replace h := h.1 c8
        refine x_bipush i_41_65 (by decide) rfl ?_
        refine x_istore_n i_41_67 (Nat.le_of_ble_eq_true rfl) rfl rfl ?_
        obtain ⟨q9, h⟩ := h
        refine x_iinc i_41_68 rfl (by decide) rfl rfl q9 ?_
        refine x_goto i_41_71 rfl ?_
        exact h
      · replace h := h.2 c8
        refine x_aload_n i_41_53 rfl rfl ?_
        refine x_getr i_41_54 f_41_15 g_3 rfl rfl ?_
        refine x_getr i_41_57 f_41_46 g_2 rfl rfl ?_
        refine x_iload_n i_41_60 rfl rfl ?_
        refine x_iaload (v := M 13 a3) i_41_61 g_13 (rfl) rfl q4 ?_
        refine x_goto i_41_62 rfl ?_
        refine x_istore_n i_41_67 (Nat.le_of_ble_eq_true rfl) rfl rfl ?_
        obtain ⟨q10, h⟩ := h
        refine x_iinc i_41_68 rfl (by decide) rfl rfl q10 ?_
        refine x_goto i_41_71 rfl ?_
        exact h
/-! GateBench$Search.makesTrue at 0 -/
theorem s_42_0 {L : Nat} {M : pm_M} {Q : pm_P} {a1 : Int}
    (h : (pm_R (2 * a1)) ∧ (0 ≤ 2 * a1 ∧ 2 * a1 < 4000) ∧ (pm_bit (M 20 (2 * a1))) ∧ Q (.inl (some (.inl (M 20 (2 * a1))))) M) :
    pm_X L (42, 0, [some (.inr (.inl 4)), some (.inl a1)], [], M) Q := by
  refine x_aload_n i_42_0 rfl rfl ?_
  refine x_getr i_42_1 f_42_12 g_4 rfl rfl ?_
  refine x_getr i_42_4 f_42_44 g_5 rfl rfl ?_
  refine x_iload_n i_42_7 rfl rfl ?_
  refine x_calls (as := [.inl a1]) (rest := [.inr (.inl 20)]) i_42_8 k_42_47 rfl rfl rfl (Nat.le_of_ble_eq_true rfl) m_14 rfl ?_
  refine x_iconst i_14_0 (by decide) rfl ?_
  refine x_iload_n i_14_1 rfl rfl ?_
  obtain ⟨q1, h⟩ := h
  refine x_imul i_14_2 rfl q1 ?_
  refine x_ireti i_14_3 r_14 ?_
  refine x_bki rfl ?_
  obtain ⟨q2, h⟩ := h
  refine x_baload (v := M 20 (2 * a1)) i_42_11 g_20 (rfl) rfl q2 ?_
  obtain ⟨q3, h⟩ := h
  exact x_iretz i_42_12 r_42 q3 h
/-! GateBench$Search.findsLeast at 0 -/
theorem s_43_0 {L : Nat} {M : pm_M} {Q : pm_P}
    (h : pm_X L (45, 0, [some (.inr (.inl 4)), none, none, none, none], [], M) (pm_back (pm_X L) 43 1 [some (.inr (.inl 4)), none, none, none] [] Q)) :
    pm_X L (43, 0, [some (.inr (.inl 4)), none, none, none], [], M) Q := by
  refine x_aload_n i_43_0 rfl rfl ?_
  refine x_callv (as := []) (rest := []) i_43_1 k_43_51 rfl rfl rfl g_4 (Nat.le_of_ble_eq_true rfl) m_45 rfl h
/-! GateBench$Search.findsLeast at 4 -/
theorem s_43_4 {L : Nat} {M : pm_M} {Q : pm_P} {r : Int}
    (h : pm_X L (43, 7, [some (.inr (.inl 4)), some (.inl r), some (.inl 0), none], [], M) Q) :
    pm_X L (43, 4, [some (.inr (.inl 4)), none, none, none], [.inl r], M) Q := by
  refine x_istore_n i_43_4 (Nat.le_of_ble_eq_true rfl) rfl rfl ?_
  refine x_iconst i_43_5 (by decide) rfl ?_
  refine x_istore_n i_43_6 (Nat.le_of_ble_eq_true rfl) rfl rfl ?_
  exact h
/-! GateBench$Search.findsLeast at 7 -/
theorem s_43_7 {L : Nat} {M : pm_M} {Q : pm_P} {a1 a2 : Int} {o3 : Option pm_V}
    (h : ((4096 ≤ a2 → Q (.inl (some (.inl 0))) M) ∧ (¬ (4096 ≤ a2) → ((¬ a1 = -1 → pm_X L (53, 0, [some (.inr (.inl 4)), some (.inl a1), none, none], [], M) (pm_back (pm_X L) 43 33 [some (.inr (.inl 4)), some (.inl a1), some (.inl a2), o3] [] Q)) ∧ (¬ (¬ a1 = -1) → pm_X L (46, 0, [some (.inr (.inl 4)), none, none, none], [], M) (pm_back (pm_X L) 43 20 [some (.inr (.inl 4)), some (.inl a1), some (.inl a2), o3] [] Q)))))) :
    pm_X L (43, 7, [some (.inr (.inl 4)), some (.inl a1), some (.inl a2), o3], [], M) Q := by
  refine x_iload_n i_43_7 rfl rfl ?_
  refine x_sipush i_43_8 (by decide) rfl ?_
  refine x_icmp (C := 4096 ≤ a2) i_43_11 rfl Iff.rfl rfl ⟨fun c1 => ?_, fun c1 => ?_⟩
  · replace h := h.1 c1
    refine x_iconst i_43_63 (by decide) rfl ?_
    exact x_iretz i_43_64 r_43 (by unfold pm_bit; decide) h
  · replace h := h.2 c1
    refine x_iload_n i_43_14 rfl rfl ?_
    refine x_iconst i_43_15 (by decide) rfl ?_
    refine x_icmp (C := ¬ a1 = -1) i_43_16 rfl Iff.rfl rfl ⟨fun c2 => ?_, fun c2 => ?_⟩
    · replace h := h.1 c2
      refine x_iload_n i_43_24 rfl rfl ?_
      refine x_iconst i_43_25 (by decide) rfl ?_
      refine x_icmpT i_43_26 rfl c2 ?_
      refine x_aload_n i_43_31 rfl rfl ?_
      refine x_iload_n i_43_32 rfl rfl ?_
      refine x_callv (as := [.inl a1]) (rest := []) i_43_33 k_43_58 rfl rfl rfl g_4 (Nat.le_of_ble_eq_true rfl) m_53 rfl h
    · replace h := h.2 c2
      refine x_aload_n i_43_19 rfl rfl ?_
      refine x_callv (as := []) (rest := []) i_43_20 k_43_55 rfl rfl rfl g_4 (Nat.le_of_ble_eq_true rfl) m_46 rfl h
/-! GateBench$Search.findsLeast at 23 -/
theorem s_43_23 {L : Nat} {M : pm_M} {Q : pm_P} {a1 a2 r : Int} {o3 : Option pm_V}
    (h : ((¬ r = -1 → pm_X L (53, 0, [some (.inr (.inl 4)), some (.inl r), none, none], [], M) (pm_back (pm_X L) 43 33 [some (.inr (.inl 4)), some (.inl r), some (.inl a2), o3] [] Q)) ∧ (¬ (¬ r = -1) → Q (.inl (some (.inl 1))) M))) :
    pm_X L (43, 23, [some (.inr (.inl 4)), some (.inl a1), some (.inl a2), o3], [.inl r], M) Q := by
  refine x_istore_n i_43_23 (Nat.le_of_ble_eq_true rfl) rfl rfl ?_
  refine x_iload_n i_43_24 rfl rfl ?_
  refine x_iconst i_43_25 (by decide) rfl ?_
  refine x_icmp (C := ¬ r = -1) i_43_26 rfl Iff.rfl rfl ⟨fun c1 => ?_, fun c1 => ?_⟩
  · replace h := h.1 c1
    refine x_aload_n i_43_31 rfl rfl ?_
    refine x_iload_n i_43_32 rfl rfl ?_
    refine x_callv (as := [.inl r]) (rest := []) i_43_33 k_43_58 rfl rfl rfl g_4 (Nat.le_of_ble_eq_true rfl) m_53 rfl h
  · replace h := h.2 c1
    refine x_iconst i_43_29 (by decide) rfl ?_
    exact x_iretz i_43_30 r_43 (by unfold pm_bit; decide) h
/-! GateBench$Search.findsLeast at 36 -/
theorem s_43_36 {L : Nat} {M : pm_M} {Q : pm_P} {a1 a2 r : Int} {o3 : Option pm_V}
    (h : (pm_R (r + 1)) ∧ (0 ≤ r + 1 ∧ r + 1 < 16117) ∧ (0 ≤ r ∧ r < 16117) ∧ (pm_R (M 14 (r + 1) - M 14 r)) ∧ ((¬ M 14 (r + 1) - M 14 r = 0 → pm_X L (56, 0, [some (.inr (.inl 4)), some (.inl r), none], [], M) (pm_back (pm_X L) 43 52 [some (.inr (.inl 4)), some (.inl a1), some (.inl a2), some (.inl r)] [] Q)) ∧ (¬ (¬ M 14 (r + 1) - M 14 r = 0) → Q (.inl (some (.inl 0))) M))) :
    pm_X L (43, 36, [some (.inr (.inl 4)), some (.inl a1), some (.inl a2), o3], [.inl r], M) Q := by
  refine x_istore_n i_43_36 (Nat.le_of_ble_eq_true rfl) rfl rfl ?_
  refine x_aload_n i_43_37 rfl rfl ?_
  refine x_getr i_43_38 f_43_36 g_4 rfl rfl ?_
  refine x_iload_n i_43_41 rfl rfl ?_
  refine x_callv (as := [.inl r]) (rest := []) i_43_42 k_43_61 rfl rfl rfl g_2 (Nat.le_of_ble_eq_true rfl) m_36 rfl ?_
  refine x_aload_n i_36_0 rfl rfl ?_
  refine x_getr i_36_1 f_36_16 g_2 rfl rfl ?_
  refine x_iload_n i_36_4 rfl rfl ?_
  refine x_iconst i_36_5 (by decide) rfl ?_
  obtain ⟨q1, h⟩ := h
  refine x_iadd i_36_6 rfl q1 ?_
  obtain ⟨q2, h⟩ := h
  refine x_iaload (v := M 14 (r + 1)) i_36_7 g_14 (rfl) rfl q2 ?_
  refine x_aload_n i_36_8 rfl rfl ?_
  refine x_getr i_36_9 f_36_16 g_2 rfl rfl ?_
  refine x_iload_n i_36_12 rfl rfl ?_
  obtain ⟨q3, h⟩ := h
  refine x_iaload (v := M 14 r) i_36_13 g_14 (rfl) rfl q3 ?_
  obtain ⟨q4, h⟩ := h
  refine x_isub i_36_14 rfl q4 ?_
  refine x_ireti i_36_15 r_36 ?_
  refine x_bki rfl ?_
  refine x_if (C := ¬ M 14 (r + 1) - M 14 r = 0) i_43_45 rfl Iff.rfl rfl ⟨fun c5 => ?_, fun c5 => ?_⟩
  · replace h := h.1 c5
    refine x_aload_n i_43_50 rfl rfl ?_
    refine x_iload_n i_43_51 rfl rfl ?_
    refine x_callv (as := [.inl r]) (rest := []) i_43_52 k_43_66 rfl rfl rfl g_4 (Nat.le_of_ble_eq_true rfl) m_56 rfl h
  · replace h := h.2 c5
    refine x_iconst i_43_48 (by decide) rfl ?_
    exact x_iretz i_43_49 r_43 (by unfold pm_bit; decide) h
/-! GateBench$Search.findsLeast at 55 -/
theorem s_43_55 {L : Nat} {M : pm_M} {Q : pm_P} {a1 a2 a3 : Int}
    (h : (pm_R (a2 + 1)) ∧ pm_X L (43, 7, [some (.inr (.inl 4)), some (.inl (-1)), some (.inl (a2 + 1)), some (.inl a3)], [], M) Q) :
    pm_X L (43, 55, [some (.inr (.inl 4)), some (.inl a1), some (.inl a2), some (.inl a3)], [], M) Q := by
  refine x_iconst i_43_55 (by decide) rfl ?_
  refine x_istore_n i_43_56 (Nat.le_of_ble_eq_true rfl) rfl rfl ?_
  obtain ⟨q1, h⟩ := h
  refine x_iinc i_43_57 rfl (by decide) rfl rfl q1 ?_
  refine x_goto i_43_60 rfl ?_
  exact h
/-! GateBench$Search.startAnew at 0 -/
theorem s_44_0 {L : Nat} {M : pm_M} {Q : pm_P}
    (h : pm_X L (57, 0, [some (.inr (.inl 5))], [], M) (pm_back (pm_X L) 44 4 [some (.inr (.inl 4)), none] [] Q)) :
    pm_X L (44, 0, [some (.inr (.inl 4)), none], [], M) Q := by
  refine x_aload_n i_44_0 rfl rfl ?_
  refine x_getr i_44_1 f_44_12 g_4 rfl rfl ?_
  refine x_callv (as := []) (rest := []) i_44_4 k_44_70 rfl rfl rfl g_5 (Nat.le_of_ble_eq_true rfl) m_57 rfl h
/-! GateBench$Search.startAnew at 7 -/
theorem s_44_7 {L : Nat} {M : pm_M} {Q : pm_P}
    (h : pm_X L (44, 14, [some (.inr (.inl 4)), some (.inl 0)], [], pm_set M 4 9 0) Q) :
    pm_X L (44, 7, [some (.inr (.inl 4)), none], [], M) Q := by
  refine x_aload_n i_44_7 rfl rfl ?_
  refine x_iconst i_44_8 (by decide) rfl ?_
  refine x_puti i_44_9 f_44_73 g_4 rfl rfl ?_
  refine x_iconst i_44_12 (by decide) rfl ?_
  refine x_istore_n i_44_13 (Nat.le_of_ble_eq_true rfl) rfl rfl ?_
  exact h
/-! GateBench$Search.startAnew at 14 -/
theorem s_44_14 {L : Nat} {M : pm_M} {Q : pm_P} {a1 : Int}
    (h : (pm_R (2 * M 1 6)) ∧ ((2 * M 1 6 ≤ a1 → Q (.inl none) M) ∧ (¬ (2 * M 1 6 ≤ a1) → (0 ≤ a1 ∧ a1 < 4000) ∧ (pm_R (a1 + 1)) ∧ pm_X L (44, 14, [some (.inr (.inl 4)), some (.inl (a1 + 1))], [], pm_set M 16 a1 (-1)) Q))) :
    pm_X L (44, 14, [some (.inr (.inl 4)), some (.inl a1)], [], M) Q := by
  refine x_iload_n i_44_14 rfl rfl ?_
  refine x_iconst i_44_15 (by decide) rfl ?_
  refine x_aload_n i_44_16 rfl rfl ?_
  refine x_getr i_44_17 f_44_32 g_4 rfl rfl ?_
  refine x_geti (v := M 1 6) i_44_20 f_44_77 g_1 rfl (rfl) rfl ?_
  obtain ⟨q1, h⟩ := h
  refine x_imul i_44_23 rfl q1 ?_
  refine x_icmp (C := 2 * M 1 6 ≤ a1) i_44_24 rfl Iff.rfl rfl ⟨fun c2 => ?_, fun c2 => ?_⟩
  · replace h := h.1 c2
    exact x_ret i_44_40 r_44 h
  · replace h := h.2 c2
    refine x_aload_n i_44_27 rfl rfl ?_
    refine x_getr i_44_28 f_44_18 g_4 rfl rfl ?_
    refine x_iload_n i_44_31 rfl rfl ?_
    refine x_iconst i_44_32 (by decide) rfl ?_
    obtain ⟨q3, h⟩ := h
    refine x_iastore i_44_33 g_16 rfl q3 ?_
    obtain ⟨q4, h⟩ := h
    refine x_iinc i_44_34 rfl (by decide) rfl rfl q4 ?_
    refine x_goto i_44_37 rfl ?_
    exact h
/-! GateBench$Search.takeUpClauses at 0 -/
theorem s_45_0 {L : Nat} {M : pm_M} {Q : pm_P}
    (h : pm_X L (44, 0, [some (.inr (.inl 4)), none], [], M) (pm_back (pm_X L) 45 1 [some (.inr (.inl 4)), none, none, none, none] [] Q)) :
    pm_X L (45, 0, [some (.inr (.inl 4)), none, none, none, none], [], M) Q := by
  refine x_aload_n i_45_0 rfl rfl ?_
  refine x_callv (as := []) (rest := []) i_45_1 k_45_82 rfl rfl rfl g_4 (Nat.le_of_ble_eq_true rfl) m_44 rfl h
/-! GateBench$Search.takeUpClauses at 4 -/
theorem s_45_4 {L : Nat} {M : pm_M} {Q : pm_P}
    (h : pm_X L (45, 8, [some (.inr (.inl 4)), some (.inl (-1)), some (.inl 0), none, none], [], M) Q) :
    pm_X L (45, 4, [some (.inr (.inl 4)), none, none, none, none], [], M) Q := by
  refine x_iconst i_45_4 (by decide) rfl ?_
  refine x_istore_n i_45_5 (Nat.le_of_ble_eq_true rfl) rfl rfl ?_
  refine x_iconst i_45_6 (by decide) rfl ?_
  refine x_istore_n i_45_7 (Nat.le_of_ble_eq_true rfl) rfl rfl ?_
  exact h
/-! GateBench$Search.takeUpClauses at 8 -/
theorem s_45_8 {L : Nat} {M : pm_M} {Q : pm_P} {a1 a2 : Int} {o3 o4 : Option pm_V}
    (h : ((M 2 2 ≤ a2 → Q (.inl (some (.inl a1))) M) ∧ (¬ (M 2 2 ≤ a2) → (pm_R (a2 + 1)) ∧ (0 ≤ a2 + 1 ∧ a2 + 1 < 16117) ∧ (0 ≤ a2 ∧ a2 < 16117) ∧ (pm_R (M 14 (a2 + 1) - M 14 a2)) ∧ ((¬ M 14 (a2 + 1) - M 14 a2 = 0 → (0 ≤ M 14 a2 ∧ M 14 a2 < 85212) ∧ ((M 14 (a2 + 1) - M 14 a2 ≤ 1 → (0 ≤ pm_op (M 13 (M 14 a2)) ∧ pm_op (M 13 (M 14 a2)) < 4000) ∧ ((M 20 (pm_op (M 13 (M 14 a2))) = 0 → (0 ≤ M 13 (M 14 a2) ∧ M 13 (M 14 a2) < 4000) ∧ ((¬ M 20 (M 13 (M 14 a2)) = 0 → pm_X L (45, 8, [some (.inr (.inl 4)), some (.inl a1), some (.inl (a2 + 1)), some (.inl (M 14 (a2 + 1) - M 14 a2)), some (.inl (M 13 (M 14 a2)))], [], M) Q) ∧ (¬ (¬ M 20 (M 13 (M 14 a2)) = 0) → ((¬ M 20 (pm_op (M 13 (M 14 a2))) = 0 → pm_X L (45, 8, [some (.inr (.inl 4)), some (.inl a1), some (.inl (a2 + 1)), some (.inl (M 14 (a2 + 1) - M 14 a2)), some (.inl (M 13 (M 14 a2)))], [], M) Q) ∧ (¬ (¬ M 20 (pm_op (M 13 (M 14 a2))) = 0) → (0 ≤ M 5 4 ∧ M 5 4 < 2000) ∧ (pm_R (M 5 4 + 1)) ∧ pm_X L (45, 8, [some (.inr (.inl 4)), some (.inl a1), some (.inl (a2 + 1)), some (.inl (M 14 (a2 + 1) - M 14 a2)), some (.inl (M 13 (M 14 a2)))], [], pm_set (pm_set (pm_set (pm_set M 20 (M 13 (M 14 a2)) 1) 21 (M 13 (M 14 a2)) a2) 22 (M 5 4) (M 13 (M 14 a2))) 5 4 (M 5 4 + 1)) Q))))) ∧ (¬ (M 20 (pm_op (M 13 (M 14 a2))) = 0) → pm_X L (45, 8, [some (.inr (.inl 4)), some (.inl a2), some (.inl (a2 + 1)), some (.inl (M 14 (a2 + 1) - M 14 a2)), some (.inl (M 13 (M 14 a2)))], [], M) Q))) ∧ (¬ (M 14 (a2 + 1) - M 14 a2 ≤ 1) → pm_X L (52, 0, [some (.inr (.inl 4)), some (.inl a2), none, none, none], [], M) (pm_back (pm_X L) 45 62 [some (.inr (.inl 4)), some (.inl a1), some (.inl a2), some (.inl (M 14 (a2 + 1) - M 14 a2)), some (.inl (M 13 (M 14 a2)))] [] Q)))) ∧ (¬ (¬ M 14 (a2 + 1) - M 14 a2 = 0) → ((M 14 (a2 + 1) - M 14 a2 ≤ 1 → ((M 14 (a2 + 1) - M 14 a2 = 0 → pm_X L (45, 8, [some (.inr (.inl 4)), some (.inl a2), some (.inl (a2 + 1)), some (.inl (M 14 (a2 + 1) - M 14 a2)), some (.inl 0)], [], M) Q) ∧ (¬ (M 14 (a2 + 1) - M 14 a2 = 0) → (0 ≤ pm_op 0 ∧ pm_op 0 < 4000) ∧ ((M 20 (pm_op 0) = 0 → ((¬ M 20 0 = 0 → pm_X L (45, 8, [some (.inr (.inl 4)), some (.inl a1), some (.inl (a2 + 1)), some (.inl (M 14 (a2 + 1) - M 14 a2)), some (.inl 0)], [], M) Q) ∧ (¬ (¬ M 20 0 = 0) → ((¬ M 20 (pm_op 0) = 0 → pm_X L (45, 8, [some (.inr (.inl 4)), some (.inl a1), some (.inl (a2 + 1)), some (.inl (M 14 (a2 + 1) - M 14 a2)), some (.inl 0)], [], M) Q) ∧ (¬ (¬ M 20 (pm_op 0) = 0) → (0 ≤ M 5 4 ∧ M 5 4 < 2000) ∧ (pm_R (M 5 4 + 1)) ∧ pm_X L (45, 8, [some (.inr (.inl 4)), some (.inl a1), some (.inl (a2 + 1)), some (.inl (M 14 (a2 + 1) - M 14 a2)), some (.inl 0)], [], pm_set (pm_set (pm_set (pm_set M 20 0 1) 21 0 a2) 22 (M 5 4) 0) 5 4 (M 5 4 + 1)) Q))))) ∧ (¬ (M 20 (pm_op 0) = 0) → pm_X L (45, 8, [some (.inr (.inl 4)), some (.inl a2), some (.inl (a2 + 1)), some (.inl (M 14 (a2 + 1) - M 14 a2)), some (.inl 0)], [], M) Q))))) ∧ (¬ (M 14 (a2 + 1) - M 14 a2 ≤ 1) → pm_X L (52, 0, [some (.inr (.inl 4)), some (.inl a2), none, none, none], [], M) (pm_back (pm_X L) 45 62 [some (.inr (.inl 4)), some (.inl a1), some (.inl a2), some (.inl (M 14 (a2 + 1) - M 14 a2)), some (.inl 0)] [] Q)))))))) :
    pm_X L (45, 8, [some (.inr (.inl 4)), some (.inl a1), some (.inl a2), o3, o4], [], M) Q := by
  refine x_iload_n i_45_8 rfl rfl ?_
  refine x_aload_n i_45_9 rfl rfl ?_
  refine x_getr i_45_10 f_45_36 g_4 rfl rfl ?_
  refine x_geti (v := M 2 2) i_45_13 f_45_85 g_2 rfl (rfl) rfl ?_
  refine x_icmp (C := M 2 2 ≤ a2) i_45_16 rfl Iff.rfl rfl ⟨fun c1 => ?_, fun c1 => ?_⟩
  · replace h := h.1 c1
    refine x_iload_n i_45_121 rfl rfl ?_
    exact x_ireti i_45_122 r_45 h
  · replace h := h.2 c1
    refine x_aload_n i_45_19 rfl rfl ?_
    refine x_getr i_45_20 f_45_36 g_4 rfl rfl ?_
    refine x_iload_n i_45_23 rfl rfl ?_
    refine x_callv (as := [.inl a2]) (rest := []) i_45_24 k_45_61 rfl rfl rfl g_2 (Nat.le_of_ble_eq_true rfl) m_36 rfl ?_
    refine x_aload_n i_36_0 rfl rfl ?_
    refine x_getr i_36_1 f_36_16 g_2 rfl rfl ?_
    refine x_iload_n i_36_4 rfl rfl ?_
    refine x_iconst i_36_5 (by decide) rfl ?_
    obtain ⟨q2, h⟩ := h
    refine x_iadd i_36_6 rfl q2 ?_
    obtain ⟨q3, h⟩ := h
    refine x_iaload (v := M 14 (a2 + 1)) i_36_7 g_14 (rfl) rfl q3 ?_
    refine x_aload_n i_36_8 rfl rfl ?_
    refine x_getr i_36_9 f_36_16 g_2 rfl rfl ?_
    refine x_iload_n i_36_12 rfl rfl ?_
    obtain ⟨q4, h⟩ := h
    refine x_iaload (v := M 14 a2) i_36_13 g_14 (rfl) rfl q4 ?_
    obtain ⟨q5, h⟩ := h
    refine x_isub i_36_14 rfl q5 ?_
    refine x_ireti i_36_15 r_36 ?_
    refine x_bki rfl ?_
    refine x_istore_n i_45_27 (Nat.le_of_ble_eq_true rfl) rfl rfl ?_
    refine x_iload_n i_45_28 rfl rfl ?_
    refine x_if (C := ¬ M 14 (a2 + 1) - M 14 a2 = 0) i_45_29 rfl Iff.rfl rfl ⟨fun c6 => ?_, fun c6 => ?_⟩
    · replace h := h.1 c6
      refine x_aload_n i_45_36 rfl rfl ?_
      refine x_getr i_45_37 f_45_36 g_4 rfl rfl ?_
      refine x_getr i_45_40 f_45_88 g_2 rfl rfl ?_
      refine x_aload_n i_45_43 rfl rfl ?_
      refine x_getr i_45_44 f_45_36 g_4 rfl rfl ?_
      refine x_getr i_45_47 f_45_91 g_2 rfl rfl ?_
      refine x_iload_n i_45_50 rfl rfl ?_
      refine x_iaload (v := M 14 a2) i_45_51 g_14 (rfl) rfl q4 ?_
      obtain ⟨q7, h⟩ := h
      refine x_iaload (v := M 13 (M 14 a2)) i_45_52 g_13 (rfl) rfl q7 ?_
      refine x_istore i_45_53 (Nat.le_of_ble_eq_true rfl) rfl rfl ?_
      refine x_iload_n i_45_55 rfl rfl ?_
      refine x_iconst i_45_56 (by decide) rfl ?_
      refine x_icmp (C := M 14 (a2 + 1) - M 14 a2 ≤ 1) i_45_57 rfl Iff.rfl rfl ⟨fun c8 => ?_, fun c8 => ?_⟩
      · replace h := h.1 c8
        refine x_iload_n i_45_68 rfl rfl ?_
        refine x_ifF i_45_69 rfl c6 rfl ?_
        refine x_aload_n i_45_72 rfl rfl ?_
        refine x_getr i_45_73 f_45_12 g_4 rfl rfl ?_
        refine x_getr i_45_76 f_45_44 g_5 rfl rfl ?_
        refine x_iload i_45_79 rfl rfl ?_
        refine x_calls (as := [.inl (M 13 (M 14 a2))]) (rest := [.inr (.inl 20)]) i_45_81 k_45_97 rfl rfl rfl (Nat.le_of_ble_eq_true rfl) m_15 rfl ?_
        refine x_iload_n i_15_0 rfl rfl ?_
        refine x_iconst i_15_1 (by decide) rfl ?_
        refine x_ixor i_15_2 rfl ?_
        refine x_ireti i_15_3 r_15 ?_
        refine x_bki rfl ?_
        obtain ⟨q9, h⟩ := h
        refine x_baload (v := M 20 (pm_op (M 13 (M 14 a2)))) i_45_84 g_20 (rfl) rfl q9 ?_
        refine x_if (C := M 20 (pm_op (M 13 (M 14 a2))) = 0) i_45_85 rfl Iff.rfl rfl ⟨fun c10 => ?_, fun c10 => ?_⟩
        · replace h := h.1 c10
          refine x_aload_n i_45_93 rfl rfl ?_
          refine x_getr i_45_94 f_45_12 g_4 rfl rfl ?_
          refine x_iload i_45_97 rfl rfl ?_
          refine x_callv (as := [.inl (M 13 (M 14 a2))]) (rest := []) i_45_99 k_45_100 rfl rfl rfl g_5 (Nat.le_of_ble_eq_true rfl) m_58 rfl ?_
          refine x_aload_n i_58_0 rfl rfl ?_
          refine x_getr i_58_1 f_58_9 g_5 rfl rfl ?_
          refine x_iload_n i_58_4 rfl rfl ?_
          obtain ⟨q11, h⟩ := h
          refine x_baload (v := M 20 (M 13 (M 14 a2))) i_58_5 g_20 (rfl) rfl q11 ?_
          refine x_if (C := ¬ M 20 (M 13 (M 14 a2)) = 0) i_58_6 rfl Iff.rfl rfl ⟨fun c12 => ?_, fun c12 => ?_⟩
          · replace h := h.1 c12
            refine x_iconst i_58_25 (by decide) rfl ?_
            refine x_iretz i_58_26 r_58 (by unfold pm_bit; decide) ?_
            refine x_bki rfl ?_
            refine x_ifT i_45_102 rfl (by unfold pm_cmp; decide) ?_
            refine x_iinc i_45_115 rfl (by decide) rfl rfl q2 ?_
            refine x_goto i_45_118 rfl ?_
            exact h
          · replace h := h.2 c12
            refine x_aload_n i_58_9 rfl rfl ?_
            refine x_getr i_58_10 f_58_9 g_5 rfl rfl ?_
            refine x_iload_n i_58_13 rfl rfl ?_
            refine x_calls (as := [.inl (M 13 (M 14 a2))]) (rest := [.inr (.inl 20)]) i_58_14 k_58_33 rfl rfl rfl (Nat.le_of_ble_eq_true rfl) m_15 rfl ?_
            refine x_iload_n i_15_0 rfl rfl ?_
            refine x_iconst i_15_1 (by decide) rfl ?_
            refine x_ixor i_15_2 rfl ?_
            refine x_ireti i_15_3 r_15 ?_
            refine x_bki rfl ?_
            refine x_baload (v := M 20 (pm_op (M 13 (M 14 a2)))) i_58_17 g_20 (rfl) rfl q9 ?_
            refine x_if (C := ¬ M 20 (pm_op (M 13 (M 14 a2))) = 0) i_58_18 rfl Iff.rfl rfl ⟨fun c13 => ?_, fun c13 => ?_⟩
            · replace h := h.1 c13
              refine x_iconst i_58_25 (by decide) rfl ?_
              refine x_iretz i_58_26 r_58 (by unfold pm_bit; decide) ?_
              refine x_bki rfl ?_
              refine x_ifT i_45_102 rfl (by unfold pm_cmp; decide) ?_
              refine x_iinc i_45_115 rfl (by decide) rfl rfl q2 ?_
              refine x_goto i_45_118 rfl ?_
              exact h
            · replace h := h.2 c13
              refine x_iconst i_58_21 (by decide) rfl ?_
              refine x_goto i_58_22 rfl ?_
              refine x_iretz i_58_26 r_58 (by unfold pm_bit; decide) ?_
              refine x_bki rfl ?_
              refine x_ifF i_45_102 rfl (by unfold pm_cmp; decide) rfl ?_
              refine x_aload_n i_45_105 rfl rfl ?_
              refine x_getr i_45_106 f_45_12 g_4 rfl rfl ?_
              refine x_iload i_45_109 rfl rfl ?_
              refine x_iload_n i_45_111 rfl rfl ?_
              refine x_callv (as := [.inl (M 13 (M 14 a2)), .inl a2]) (rest := []) i_45_112 k_45_104 rfl rfl rfl g_5 (Nat.le_of_ble_eq_true rfl) m_60 rfl ?_
              refine x_aload_n i_60_0 rfl rfl ?_
              refine x_getr i_60_1 f_60_9 g_5 rfl rfl ?_
              refine x_iload_n i_60_4 rfl rfl ?_
              refine x_iconst i_60_5 (by decide) rfl ?_
              refine x_bastore i_60_6 g_20 rfl ⟨q11, by unfold pm_bit; decide⟩ ?_
              refine x_aload_n i_60_7 rfl rfl ?_
              refine x_getr i_60_8 f_60_15 g_5 rfl rfl ?_
              refine x_iload_n i_60_11 rfl rfl ?_
              refine x_iload_n i_60_12 rfl rfl ?_
              refine x_iastore i_60_13 g_21 rfl q11 ?_
              refine x_aload_n i_60_14 rfl rfl ?_
              refine x_getr i_60_15 f_60_19 g_5 rfl rfl ?_
              refine x_aload_n i_60_18 rfl rfl ?_
              refine x_geti (v := M 5 4) i_60_19 f_60_37 g_5 rfl (pm_get_c (by decide) (pm_get_c (by decide) rfl)) rfl ?_
              refine x_iload_n i_60_22 rfl rfl ?_
              obtain ⟨q14, h⟩ := h
              refine x_iastore i_60_23 g_22 rfl q14 ?_
              refine x_aload_n i_60_24 rfl rfl ?_
              refine x_dup i_60_25 rfl rfl ?_
              refine x_geti (v := M 5 4) i_60_26 f_60_37 g_5 rfl (pm_get_c (by decide) (pm_get_c (by decide) (pm_get_c (by decide) rfl))) rfl ?_
              refine x_iconst i_60_29 (by decide) rfl ?_
              obtain ⟨q15, h⟩ := h
              refine x_iadd i_60_30 rfl q15 ?_
              refine x_puti i_60_31 f_60_37 g_5 rfl rfl ?_
              refine x_ret i_60_34 r_60 ?_
              refine x_bkv rfl ?_
              refine x_iinc i_45_115 rfl (by decide) rfl rfl q2 ?_
              refine x_goto i_45_118 rfl ?_
              exact h
        · replace h := h.2 c10
          refine x_iload_n i_45_88 rfl rfl ?_
          refine x_istore_n i_45_89 (Nat.le_of_ble_eq_true rfl) rfl rfl ?_
          refine x_goto i_45_90 rfl ?_
          refine x_iinc i_45_115 rfl (by decide) rfl rfl q2 ?_
          refine x_goto i_45_118 rfl ?_
          exact h
      · replace h := h.2 c8
        refine x_aload_n i_45_60 rfl rfl ?_
        refine x_iload_n i_45_61 rfl rfl ?_
        refine x_callv (as := [.inl a2]) (rest := []) i_45_62 k_45_94 rfl rfl rfl g_4 (Nat.le_of_ble_eq_true rfl) m_52 rfl h
    · replace h := h.2 c6
      refine x_iconst i_45_32 (by decide) rfl ?_
      refine x_goto i_45_33 rfl ?_
      refine x_istore i_45_53 (Nat.le_of_ble_eq_true rfl) rfl rfl ?_
      refine x_iload_n i_45_55 rfl rfl ?_
      refine x_iconst i_45_56 (by decide) rfl ?_
      refine x_icmp (C := M 14 (a2 + 1) - M 14 a2 ≤ 1) i_45_57 rfl Iff.rfl rfl ⟨fun c16 => ?_, fun c16 => ?_⟩
      · replace h := h.1 c16
        refine x_iload_n i_45_68 rfl rfl ?_
        refine x_if (C := M 14 (a2 + 1) - M 14 a2 = 0) i_45_69 rfl Iff.rfl rfl ⟨fun c17 => ?_, fun c17 => ?_⟩
        · replace h := h.1 c17
          refine x_iload_n i_45_88 rfl rfl ?_
          refine x_istore_n i_45_89 (Nat.le_of_ble_eq_true rfl) rfl rfl ?_
          refine x_goto i_45_90 rfl ?_
          refine x_iinc i_45_115 rfl (by decide) rfl rfl q2 ?_
          refine x_goto i_45_118 rfl ?_
          exact h
        · replace h := h.2 c17
          refine x_aload_n i_45_72 rfl rfl ?_
          refine x_getr i_45_73 f_45_12 g_4 rfl rfl ?_
          refine x_getr i_45_76 f_45_44 g_5 rfl rfl ?_
          refine x_iload i_45_79 rfl rfl ?_
          refine x_calls (as := [.inl 0]) (rest := [.inr (.inl 20)]) i_45_81 k_45_97 rfl rfl rfl (Nat.le_of_ble_eq_true rfl) m_15 rfl ?_
          refine x_iload_n i_15_0 rfl rfl ?_
          refine x_iconst i_15_1 (by decide) rfl ?_
          refine x_ixor i_15_2 rfl ?_
          refine x_ireti i_15_3 r_15 ?_
          refine x_bki rfl ?_
          obtain ⟨q18, h⟩ := h
          refine x_baload (v := M 20 (pm_op 0)) i_45_84 g_20 (rfl) rfl q18 ?_
          refine x_if (C := M 20 (pm_op 0) = 0) i_45_85 rfl Iff.rfl rfl ⟨fun c19 => ?_, fun c19 => ?_⟩
          · replace h := h.1 c19
            refine x_aload_n i_45_93 rfl rfl ?_
            refine x_getr i_45_94 f_45_12 g_4 rfl rfl ?_
            refine x_iload i_45_97 rfl rfl ?_
            refine x_callv (as := [.inl 0]) (rest := []) i_45_99 k_45_100 rfl rfl rfl g_5 (Nat.le_of_ble_eq_true rfl) m_58 rfl ?_
            refine x_aload_n i_58_0 rfl rfl ?_
            refine x_getr i_58_1 f_58_9 g_5 rfl rfl ?_
            refine x_iload_n i_58_4 rfl rfl ?_
            refine x_baload (v := M 20 0) i_58_5 g_20 (rfl) rfl (by decide) ?_
            refine x_if (C := ¬ M 20 0 = 0) i_58_6 rfl Iff.rfl rfl ⟨fun c20 => ?_, fun c20 => ?_⟩
            · replace h := h.1 c20
              refine x_iconst i_58_25 (by decide) rfl ?_
              refine x_iretz i_58_26 r_58 (by unfold pm_bit; decide) ?_
              refine x_bki rfl ?_
              refine x_ifT i_45_102 rfl (by unfold pm_cmp; decide) ?_
              refine x_iinc i_45_115 rfl (by decide) rfl rfl q2 ?_
              refine x_goto i_45_118 rfl ?_
              exact h
            · replace h := h.2 c20
              refine x_aload_n i_58_9 rfl rfl ?_
              refine x_getr i_58_10 f_58_9 g_5 rfl rfl ?_
              refine x_iload_n i_58_13 rfl rfl ?_
              refine x_calls (as := [.inl 0]) (rest := [.inr (.inl 20)]) i_58_14 k_58_33 rfl rfl rfl (Nat.le_of_ble_eq_true rfl) m_15 rfl ?_
              refine x_iload_n i_15_0 rfl rfl ?_
              refine x_iconst i_15_1 (by decide) rfl ?_
              refine x_ixor i_15_2 rfl ?_
              refine x_ireti i_15_3 r_15 ?_
              refine x_bki rfl ?_
              refine x_baload (v := M 20 (pm_op 0)) i_58_17 g_20 (rfl) rfl q18 ?_
              refine x_if (C := ¬ M 20 (pm_op 0) = 0) i_58_18 rfl Iff.rfl rfl ⟨fun c21 => ?_, fun c21 => ?_⟩
              · replace h := h.1 c21
                refine x_iconst i_58_25 (by decide) rfl ?_
                refine x_iretz i_58_26 r_58 (by unfold pm_bit; decide) ?_
                refine x_bki rfl ?_
                refine x_ifT i_45_102 rfl (by unfold pm_cmp; decide) ?_
                refine x_iinc i_45_115 rfl (by decide) rfl rfl q2 ?_
                refine x_goto i_45_118 rfl ?_
                exact h
              · replace h := h.2 c21
                refine x_iconst i_58_21 (by decide) rfl ?_
                refine x_goto i_58_22 rfl ?_
                refine x_iretz i_58_26 r_58 (by unfold pm_bit; decide) ?_
                refine x_bki rfl ?_
                refine x_ifF i_45_102 rfl (by unfold pm_cmp; decide) rfl ?_
                refine x_aload_n i_45_105 rfl rfl ?_
                refine x_getr i_45_106 f_45_12 g_4 rfl rfl ?_
                refine x_iload i_45_109 rfl rfl ?_
                refine x_iload_n i_45_111 rfl rfl ?_
                refine x_callv (as := [.inl 0, .inl a2]) (rest := []) i_45_112 k_45_104 rfl rfl rfl g_5 (Nat.le_of_ble_eq_true rfl) m_60 rfl ?_
                refine x_aload_n i_60_0 rfl rfl ?_
                refine x_getr i_60_1 f_60_9 g_5 rfl rfl ?_
                refine x_iload_n i_60_4 rfl rfl ?_
                refine x_iconst i_60_5 (by decide) rfl ?_
                refine x_bastore i_60_6 g_20 rfl ⟨by decide, by unfold pm_bit; decide⟩ ?_
                refine x_aload_n i_60_7 rfl rfl ?_
                refine x_getr i_60_8 f_60_15 g_5 rfl rfl ?_
                refine x_iload_n i_60_11 rfl rfl ?_
                refine x_iload_n i_60_12 rfl rfl ?_
                refine x_iastore i_60_13 g_21 rfl (by decide) ?_
                refine x_aload_n i_60_14 rfl rfl ?_
                refine x_getr i_60_15 f_60_19 g_5 rfl rfl ?_
                refine x_aload_n i_60_18 rfl rfl ?_
                refine x_geti (v := M 5 4) i_60_19 f_60_37 g_5 rfl (pm_get_c (by decide) (pm_get_c (by decide) rfl)) rfl ?_
                refine x_iload_n i_60_22 rfl rfl ?_
                obtain ⟨q22, h⟩ := h
                refine x_iastore i_60_23 g_22 rfl q22 ?_
                refine x_aload_n i_60_24 rfl rfl ?_
                refine x_dup i_60_25 rfl rfl ?_
                refine x_geti (v := M 5 4) i_60_26 f_60_37 g_5 rfl (pm_get_c (by decide) (pm_get_c (by decide) (pm_get_c (by decide) rfl))) rfl ?_
                refine x_iconst i_60_29 (by decide) rfl ?_
                obtain ⟨q23, h⟩ := h
                refine x_iadd i_60_30 rfl q23 ?_
                refine x_puti i_60_31 f_60_37 g_5 rfl rfl ?_
                refine x_ret i_60_34 r_60 ?_
                refine x_bkv rfl ?_
                refine x_iinc i_45_115 rfl (by decide) rfl rfl q2 ?_
                refine x_goto i_45_118 rfl ?_
                exact h
          · replace h := h.2 c19
            refine x_iload_n i_45_88 rfl rfl ?_
            refine x_istore_n i_45_89 (Nat.le_of_ble_eq_true rfl) rfl rfl ?_
            refine x_goto i_45_90 rfl ?_
            refine x_iinc i_45_115 rfl (by decide) rfl rfl q2 ?_
            refine x_goto i_45_118 rfl ?_
            exact h
      · replace h := h.2 c16
        refine x_aload_n i_45_60 rfl rfl ?_
        refine x_iload_n i_45_61 rfl rfl ?_
        refine x_callv (as := [.inl a2]) (rest := []) i_45_62 k_45_94 rfl rfl rfl g_4 (Nat.le_of_ble_eq_true rfl) m_52 rfl h
/-! GateBench$Search.takeUpClauses at 65 -/
theorem s_45_65 {L : Nat} {M : pm_M} {Q : pm_P} {a1 a2 a3 a4 : Int}
    (h : (pm_R (a2 + 1)) ∧ pm_X L (45, 8, [some (.inr (.inl 4)), some (.inl a1), some (.inl (a2 + 1)), some (.inl a3), some (.inl a4)], [], M) Q) :
    pm_X L (45, 65, [some (.inr (.inl 4)), some (.inl a1), some (.inl a2), some (.inl a3), some (.inl a4)], [], M) Q := by
  refine x_goto i_45_65 rfl ?_
  obtain ⟨q1, h⟩ := h
  refine x_iinc i_45_115 rfl (by decide) rfl rfl q1 ?_
  refine x_goto i_45_118 rfl ?_
  exact h
/-! GateBench$Search.tryInputs at 0 -/
theorem s_46_0 {L : Nat} {M : pm_M} {Q : pm_P}
    (h : pm_X L (47, 0, [some (.inr (.inl 4)), none], [], M) (pm_back (pm_X L) 46 1 [some (.inr (.inl 4)), none, none, none] [] Q)) :
    pm_X L (46, 0, [some (.inr (.inl 4)), none, none, none], [], M) Q := by
  refine x_aload_n i_46_0 rfl rfl ?_
  refine x_callv (as := []) (rest := []) i_46_1 k_46_108 rfl rfl rfl g_4 (Nat.le_of_ble_eq_true rfl) m_47 rfl h
/-! GateBench$Search.tryInputs at 4 -/
theorem s_46_4 {L : Nat} {M : pm_M} {Q : pm_P} {r : Int}
    (h : pm_X L (46, 7, [some (.inr (.inl 4)), some (.inl r), some (.inl 0), none], [], M) Q) :
    pm_X L (46, 4, [some (.inr (.inl 4)), none, none, none], [.inl r], M) Q := by
  refine x_istore_n i_46_4 (Nat.le_of_ble_eq_true rfl) rfl rfl ?_
  refine x_iconst i_46_5 (by decide) rfl ?_
  refine x_istore_n i_46_6 (Nat.le_of_ble_eq_true rfl) rfl rfl ?_
  exact h
/-! GateBench$Search.tryInputs at 7 -/
theorem s_46_7 {L : Nat} {M : pm_M} {Q : pm_P} {a1 a2 : Int} {o3 : Option pm_V}
    (h : ((M 1 7 ≤ a2 → Q (.inl (some (.inl a1))) M) ∧ (¬ (M 1 7 ≤ a2) → ((¬ a1 = -1 → Q (.inl (some (.inl a1))) M) ∧ (¬ (¬ a1 = -1) → (0 ≤ a2 ∧ a2 < 12) ∧ (pm_R (2 * M 12 a2)) ∧ (0 ≤ 2 * M 12 a2 ∧ 2 * M 12 a2 < 4000) ∧ ((¬ M 20 (2 * M 12 a2) = 0 → (pm_R (a2 + 1)) ∧ pm_X L (46, 7, [some (.inr (.inl 4)), some (.inl a1), some (.inl (a2 + 1)), some (.inl (2 * M 12 a2))], [], M) Q) ∧ (¬ (¬ M 20 (2 * M 12 a2) = 0) → (0 ≤ pm_op (2 * M 12 a2) ∧ pm_op (2 * M 12 a2) < 4000) ∧ ((¬ M 20 (pm_op (2 * M 12 a2)) = 0 → (pm_R (a2 + 1)) ∧ pm_X L (46, 7, [some (.inr (.inl 4)), some (.inl a1), some (.inl (a2 + 1)), some (.inl (2 * M 12 a2))], [], M) Q) ∧ (¬ (¬ M 20 (pm_op (2 * M 12 a2)) = 0) → (0 ≤ M 5 5 ∧ M 5 5 < 12) ∧ (pm_R (M 5 5 + 1)) ∧ (0 ≤ M 5 4 ∧ M 5 4 < 2000) ∧ (pm_R (M 5 4 + 1)) ∧ pm_X L (47, 0, [some (.inr (.inl 4)), none], [], pm_set (pm_set (pm_set (pm_set (pm_set (pm_set M 23 (M 5 5) (M 5 4)) 5 5 (M 5 5 + 1)) 20 (pm_op (2 * M 12 a2)) 1) 21 (pm_op (2 * M 12 a2)) (-1)) 22 (M 5 4) (pm_op (2 * M 12 a2))) 5 4 (M 5 4 + 1)) (pm_back (pm_X L) 46 59 [some (.inr (.inl 4)), some (.inl a1), some (.inl a2), some (.inl (2 * M 12 a2))] [] Q)))))))))) :
    pm_X L (46, 7, [some (.inr (.inl 4)), some (.inl a1), some (.inl a2), o3], [], M) Q := by
  refine x_iload_n i_46_7 rfl rfl ?_
  refine x_aload_n i_46_8 rfl rfl ?_
  refine x_getr i_46_9 f_46_32 g_4 rfl rfl ?_
  refine x_geti (v := M 1 7) i_46_12 f_46_111 g_1 rfl (rfl) rfl ?_
  refine x_icmp (C := M 1 7 ≤ a2) i_46_15 rfl Iff.rfl rfl ⟨fun c1 => ?_, fun c1 => ?_⟩
  · replace h := h.1 c1
    refine x_iload_n i_46_69 rfl rfl ?_
    exact x_ireti i_46_70 r_46 h
  · replace h := h.2 c1
    refine x_iload_n i_46_18 rfl rfl ?_
    refine x_iconst i_46_19 (by decide) rfl ?_
    refine x_icmp (C := ¬ a1 = -1) i_46_20 rfl Iff.rfl rfl ⟨fun c2 => ?_, fun c2 => ?_⟩
    · replace h := h.1 c2
      refine x_iload_n i_46_69 rfl rfl ?_
      exact x_ireti i_46_70 r_46 h
    · replace h := h.2 c2
      refine x_aload_n i_46_23 rfl rfl ?_
      refine x_getr i_46_24 f_46_32 g_4 rfl rfl ?_
      refine x_getr i_46_27 f_46_114 g_1 rfl rfl ?_
      refine x_iload_n i_46_30 rfl rfl ?_
      obtain ⟨q3, h⟩ := h
      refine x_iaload (v := M 12 a2) i_46_31 g_12 (rfl) rfl q3 ?_
      refine x_calls (as := [.inl (M 12 a2)]) (rest := []) i_46_32 k_46_47 rfl rfl rfl (Nat.le_of_ble_eq_true rfl) m_14 rfl ?_
      refine x_iconst i_14_0 (by decide) rfl ?_
      refine x_iload_n i_14_1 rfl rfl ?_
      obtain ⟨q4, h⟩ := h
      refine x_imul i_14_2 rfl q4 ?_
      refine x_ireti i_14_3 r_14 ?_
      refine x_bki rfl ?_
      refine x_istore_n i_46_35 (Nat.le_of_ble_eq_true rfl) rfl rfl ?_
      refine x_aload_n i_46_36 rfl rfl ?_
      refine x_getr i_46_37 f_46_12 g_4 rfl rfl ?_
      refine x_iload_n i_46_40 rfl rfl ?_
      refine x_callv (as := [.inl (2 * M 12 a2)]) (rest := []) i_46_41 k_46_100 rfl rfl rfl g_5 (Nat.le_of_ble_eq_true rfl) m_58 rfl ?_
      refine x_aload_n i_58_0 rfl rfl ?_
      refine x_getr i_58_1 f_58_9 g_5 rfl rfl ?_
      refine x_iload_n i_58_4 rfl rfl ?_
      obtain ⟨q5, h⟩ := h
      refine x_baload (v := M 20 (2 * M 12 a2)) i_58_5 g_20 (rfl) rfl q5 ?_
      refine x_if (C := ¬ M 20 (2 * M 12 a2) = 0) i_58_6 rfl Iff.rfl rfl ⟨fun c6 => ?_, fun c6 => ?_⟩
      · replace h := h.1 c6
        refine x_iconst i_58_25 (by decide) rfl ?_
        refine x_iretz i_58_26 r_58 (by unfold pm_bit; decide) ?_
        refine x_bki rfl ?_
        refine x_ifT i_46_44 rfl (by unfold pm_cmp; decide) ?_
        obtain ⟨q7, h⟩ := h
        refine x_iinc i_46_63 rfl (by decide) rfl rfl q7 ?_
        refine x_goto i_46_66 rfl ?_
        exact h
      · replace h := h.2 c6
        refine x_aload_n i_58_9 rfl rfl ?_
        refine x_getr i_58_10 f_58_9 g_5 rfl rfl ?_
        refine x_iload_n i_58_13 rfl rfl ?_
        refine x_calls (as := [.inl (2 * M 12 a2)]) (rest := [.inr (.inl 20)]) i_58_14 k_58_33 rfl rfl rfl (Nat.le_of_ble_eq_true rfl) m_15 rfl ?_
        refine x_iload_n i_15_0 rfl rfl ?_
        refine x_iconst i_15_1 (by decide) rfl ?_
        refine x_ixor i_15_2 rfl ?_
        refine x_ireti i_15_3 r_15 ?_
        refine x_bki rfl ?_
        obtain ⟨q8, h⟩ := h
        refine x_baload (v := M 20 (pm_op (2 * M 12 a2))) i_58_17 g_20 (rfl) rfl q8 ?_
        refine x_if (C := ¬ M 20 (pm_op (2 * M 12 a2)) = 0) i_58_18 rfl Iff.rfl rfl ⟨fun c9 => ?_, fun c9 => ?_⟩
        · replace h := h.1 c9
          refine x_iconst i_58_25 (by decide) rfl ?_
          refine x_iretz i_58_26 r_58 (by unfold pm_bit; decide) ?_
          refine x_bki rfl ?_
          refine x_ifT i_46_44 rfl (by unfold pm_cmp; decide) ?_
          obtain ⟨q10, h⟩ := h
          refine x_iinc i_46_63 rfl (by decide) rfl rfl q10 ?_
          refine x_goto i_46_66 rfl ?_
          exact h
        · replace h := h.2 c9
          refine x_iconst i_58_21 (by decide) rfl ?_
          refine x_goto i_58_22 rfl ?_
          refine x_iretz i_58_26 r_58 (by unfold pm_bit; decide) ?_
          refine x_bki rfl ?_
          refine x_ifF i_46_44 rfl (by unfold pm_cmp; decide) rfl ?_
          refine x_aload_n i_46_47 rfl rfl ?_
          refine x_getr i_46_48 f_46_12 g_4 rfl rfl ?_
          refine x_iload_n i_46_51 rfl rfl ?_
          refine x_calls (as := [.inl (2 * M 12 a2)]) (rest := [.inr (.inl 5)]) i_46_52 k_46_97 rfl rfl rfl (Nat.le_of_ble_eq_true rfl) m_15 rfl ?_
          refine x_iload_n i_15_0 rfl rfl ?_
          refine x_iconst i_15_1 (by decide) rfl ?_
          refine x_ixor i_15_2 rfl ?_
          refine x_ireti i_15_3 r_15 ?_
          refine x_bki rfl ?_
          refine x_callv (as := [.inl (pm_op (2 * M 12 a2))]) (rest := []) i_46_55 k_46_117 rfl rfl rfl g_5 (Nat.le_of_ble_eq_true rfl) m_59 rfl ?_
          refine x_aload_n i_59_0 rfl rfl ?_
          refine x_getr i_59_1 f_59_22 g_5 rfl rfl ?_
          refine x_aload_n i_59_4 rfl rfl ?_
          refine x_geti (v := M 5 5) i_59_5 f_59_29 g_5 rfl (rfl) rfl ?_
          refine x_aload_n i_59_8 rfl rfl ?_
          refine x_geti (v := M 5 4) i_59_9 f_59_37 g_5 rfl (rfl) rfl ?_
          obtain ⟨q11, h⟩ := h
          refine x_iastore i_59_12 g_23 rfl q11 ?_
          refine x_aload_n i_59_13 rfl rfl ?_
          refine x_dup i_59_14 rfl rfl ?_
          refine x_geti (v := M 5 5) i_59_15 f_59_29 g_5 rfl (pm_get_c (by decide) rfl) rfl ?_
          refine x_iconst i_59_18 (by decide) rfl ?_
          obtain ⟨q12, h⟩ := h
          refine x_iadd i_59_19 rfl q12 ?_
          refine x_puti i_59_20 f_59_29 g_5 rfl rfl ?_
          refine x_aload_n i_59_23 rfl rfl ?_
          refine x_iload_n i_59_24 rfl rfl ?_
          refine x_iconst i_59_25 (by decide) rfl ?_
          refine x_callv (as := [.inl (pm_op (2 * M 12 a2)), .inl (-1)]) (rest := []) i_59_26 k_59_40 rfl rfl rfl g_5 (Nat.le_of_ble_eq_true rfl) m_60 rfl ?_
          refine x_aload_n i_60_0 rfl rfl ?_
          refine x_getr i_60_1 f_60_9 g_5 rfl rfl ?_
          refine x_iload_n i_60_4 rfl rfl ?_
          refine x_iconst i_60_5 (by decide) rfl ?_
          refine x_bastore i_60_6 g_20 rfl ⟨q8, by unfold pm_bit; decide⟩ ?_
          refine x_aload_n i_60_7 rfl rfl ?_
          refine x_getr i_60_8 f_60_15 g_5 rfl rfl ?_
          refine x_iload_n i_60_11 rfl rfl ?_
          refine x_iload_n i_60_12 rfl rfl ?_
          refine x_iastore i_60_13 g_21 rfl q8 ?_
          refine x_aload_n i_60_14 rfl rfl ?_
          refine x_getr i_60_15 f_60_19 g_5 rfl rfl ?_
          refine x_aload_n i_60_18 rfl rfl ?_
          refine x_geti (v := M 5 4) i_60_19 f_60_37 g_5 rfl (pm_get_c (by decide) (pm_get_c (by decide) (pm_get_j (by decide) (pm_get_c (by decide) rfl)))) rfl ?_
          refine x_iload_n i_60_22 rfl rfl ?_
          obtain ⟨q13, h⟩ := h
          refine x_iastore i_60_23 g_22 rfl q13 ?_
          refine x_aload_n i_60_24 rfl rfl ?_
          refine x_dup i_60_25 rfl rfl ?_
          refine x_geti (v := M 5 4) i_60_26 f_60_37 g_5 rfl (pm_get_c (by decide) (pm_get_c (by decide) (pm_get_c (by decide) (pm_get_j (by decide) (pm_get_c (by decide) rfl))))) rfl ?_
          refine x_iconst i_60_29 (by decide) rfl ?_
          obtain ⟨q14, h⟩ := h
          refine x_iadd i_60_30 rfl q14 ?_
          refine x_puti i_60_31 f_60_37 g_5 rfl rfl ?_
          refine x_ret i_60_34 r_60 ?_
          refine x_bkv rfl ?_
          refine x_ret i_59_29 r_59 ?_
          refine x_bkv rfl ?_
          refine x_aload_n i_46_58 rfl rfl ?_
          refine x_callv (as := []) (rest := []) i_46_59 k_46_108 rfl rfl rfl g_4 (Nat.le_of_ble_eq_true rfl) m_47 rfl h
/-! GateBench$Search.tryInputs at 62 -/
theorem s_46_62 {L : Nat} {M : pm_M} {Q : pm_P} {a1 a2 a3 r : Int}
    (h : (pm_R (a2 + 1)) ∧ pm_X L (46, 7, [some (.inr (.inl 4)), some (.inl r), some (.inl (a2 + 1)), some (.inl a3)], [], M) Q) :
    pm_X L (46, 62, [some (.inr (.inl 4)), some (.inl a1), some (.inl a2), some (.inl a3)], [.inl r], M) Q := by
  refine x_istore_n i_46_62 (Nat.le_of_ble_eq_true rfl) rfl rfl ?_
  obtain ⟨q1, h⟩ := h
  refine x_iinc i_46_63 rfl (by decide) rfl rfl q1 ?_
  refine x_goto i_46_66 rfl ?_
  exact h
/-! GateBench$Search.followAll at 0 -/
theorem s_47_0 {L : Nat} {M : pm_M} {Q : pm_P}
    (h : pm_X L (47, 2, [some (.inr (.inl 4)), some (.inl (-1))], [], M) Q) :
    pm_X L (47, 0, [some (.inr (.inl 4)), none], [], M) Q := by
  refine x_iconst i_47_0 (by decide) rfl ?_
  refine x_istore_n i_47_1 (Nat.le_of_ble_eq_true rfl) rfl rfl ?_
  exact h
/-! GateBench$Search.followAll at 2 -/
theorem s_47_2 {L : Nat} {M : pm_M} {Q : pm_P} {a1 : Int}
    (h : ((M 5 4 ≤ M 4 9 → Q (.inl (some (.inl a1))) M) ∧ (¬ (M 5 4 ≤ M 4 9) → ((2000 ≤ M 4 9 → Q (.inl (some (.inl a1))) M) ∧ (¬ (2000 ≤ M 4 9) → ((¬ a1 = -1 → Q (.inl (some (.inl a1))) M) ∧ (¬ (¬ a1 = -1) → (0 ≤ M 4 9 ∧ M 4 9 < 2000) ∧ pm_X L (48, 0, [some (.inr (.inl 4)), some (.inl (pm_op (M 22 (M 4 9)))), none, none, none, none, none, none, none], [], M) (pm_back (pm_X L) 47 47 [some (.inr (.inl 4)), some (.inl a1)] [] Q)))))))) :
    pm_X L (47, 2, [some (.inr (.inl 4)), some (.inl a1)], [], M) Q := by
  refine x_aload_n i_47_2 rfl rfl ?_
  refine x_geti (v := M 4 9) i_47_3 f_47_73 g_4 rfl (rfl) rfl ?_
  refine x_aload_n i_47_6 rfl rfl ?_
  refine x_getr i_47_7 f_47_12 g_4 rfl rfl ?_
  refine x_geti (v := M 5 4) i_47_10 f_47_120 g_5 rfl (rfl) rfl ?_
  refine x_icmp (C := M 5 4 ≤ M 4 9) i_47_13 rfl Iff.rfl rfl ⟨fun c1 => ?_, fun c1 => ?_⟩
  · replace h := h.1 c1
    refine x_iload_n i_47_64 rfl rfl ?_
    exact x_ireti i_47_65 r_47 h
  · replace h := h.2 c1
    refine x_aload_n i_47_16 rfl rfl ?_
    refine x_geti (v := M 4 9) i_47_17 f_47_73 g_4 rfl (rfl) rfl ?_
    refine x_sipush i_47_20 (by decide) rfl ?_
    refine x_icmp (C := 2000 ≤ M 4 9) i_47_23 rfl Iff.rfl rfl ⟨fun c2 => ?_, fun c2 => ?_⟩
    · replace h := h.1 c2
      refine x_iload_n i_47_64 rfl rfl ?_
      exact x_ireti i_47_65 r_47 h
    · replace h := h.2 c2
      refine x_iload_n i_47_26 rfl rfl ?_
      refine x_iconst i_47_27 (by decide) rfl ?_
      refine x_icmp (C := ¬ a1 = -1) i_47_28 rfl Iff.rfl rfl ⟨fun c3 => ?_, fun c3 => ?_⟩
      · replace h := h.1 c3
        refine x_iload_n i_47_64 rfl rfl ?_
        exact x_ireti i_47_65 r_47 h
      · replace h := h.2 c3
        refine x_aload_n i_47_31 rfl rfl ?_
        refine x_aload_n i_47_32 rfl rfl ?_
        refine x_getr i_47_33 f_47_12 g_4 rfl rfl ?_
        refine x_getr i_47_36 f_47_123 g_5 rfl rfl ?_
        refine x_aload_n i_47_39 rfl rfl ?_
        refine x_geti (v := M 4 9) i_47_40 f_47_73 g_4 rfl (rfl) rfl ?_
        obtain ⟨q4, h⟩ := h
        refine x_iaload (v := M 22 (M 4 9)) i_47_43 g_22 (rfl) rfl q4 ?_
        refine x_calls (as := [.inl (M 22 (M 4 9))]) (rest := [.inr (.inl 4)]) i_47_44 k_47_97 rfl rfl rfl (Nat.le_of_ble_eq_true rfl) m_15 rfl ?_
        refine x_iload_n i_15_0 rfl rfl ?_
        refine x_iconst i_15_1 (by decide) rfl ?_
        refine x_ixor i_15_2 rfl ?_
        refine x_ireti i_15_3 r_15 ?_
        refine x_bki rfl ?_
        refine x_callv (as := [.inl (pm_op (M 22 (M 4 9)))]) (rest := []) i_47_47 k_47_126 rfl rfl rfl g_4 (Nat.le_of_ble_eq_true rfl) m_48 rfl h
/-! GateBench$Search.followAll at 50 -/
theorem s_47_50 {L : Nat} {M : pm_M} {Q : pm_P} {a1 r : Int}
    (h : (pm_R (M 4 9 + 1)) ∧ pm_X L (47, 2, [some (.inr (.inl 4)), some (.inl r)], [], pm_set M 4 9 (M 4 9 + 1)) Q) :
    pm_X L (47, 50, [some (.inr (.inl 4)), some (.inl a1)], [.inl r], M) Q := by
  refine x_istore_n i_47_50 (Nat.le_of_ble_eq_true rfl) rfl rfl ?_
  refine x_aload_n i_47_51 rfl rfl ?_
  refine x_dup i_47_52 rfl rfl ?_
  refine x_geti (v := M 4 9) i_47_53 f_47_73 g_4 rfl (rfl) rfl ?_
  refine x_iconst i_47_56 (by decide) rfl ?_
  obtain ⟨q1, h⟩ := h
  refine x_iadd i_47_57 rfl q1 ?_
  refine x_puti i_47_58 f_47_73 g_4 rfl rfl ?_
  refine x_goto i_47_61 rfl ?_
  exact h
/-! GateBench$Search.leaveFailing at 0 -/
theorem s_48_0 {L : Nat} {M : pm_M} {Q : pm_P} {a1 : Int}
    (h : (0 ≤ a1 ∧ a1 < 4000) ∧ pm_X L (48, 12, [some (.inr (.inl 4)), some (.inl a1), some (.inl (-1)), some (.inl (M 16 a1)), some (.inl 0), none, none, none, none], [], M) Q) :
    pm_X L (48, 0, [some (.inr (.inl 4)), some (.inl a1), none, none, none, none, none, none, none], [], M) Q := by
  refine x_iconst i_48_0 (by decide) rfl ?_
  refine x_istore_n i_48_1 (Nat.le_of_ble_eq_true rfl) rfl rfl ?_
  refine x_aload_n i_48_2 rfl rfl ?_
  refine x_getr i_48_3 f_48_18 g_4 rfl rfl ?_
  refine x_iload_n i_48_6 rfl rfl ?_
  obtain ⟨q1, h⟩ := h
  refine x_iaload (v := M 16 a1) i_48_7 g_16 (rfl) rfl q1 ?_
  refine x_istore_n i_48_8 (Nat.le_of_ble_eq_true rfl) rfl rfl ?_
  refine x_iconst i_48_9 (by decide) rfl ?_
  refine x_istore i_48_10 (Nat.le_of_ble_eq_true rfl) rfl rfl ?_
  exact h
/-! GateBench$Search.leaveFailing at 12 -/
theorem s_48_12 {L : Nat} {M : pm_M} {Q : pm_P} {a1 a2 a3 a4 : Int} {o5 o6 o7 o8 : Option pm_V}
    (h : ((32232 ≤ a4 → Q (.inl (some (.inl (-1)))) M) ∧ (¬ (32232 ≤ a4) → ((a3 = -1 → Q (.inl (some (.inl (-1)))) M) ∧ (¬ (a3 = -1) → (0 ≤ a3 ∧ a3 < 32232) ∧ (0 ≤ a3 / 2 ∧ a3 / 2 < 16117) ∧ (pm_R (M 14 (a3 / 2) + ((pm_op a3) % 2))) ∧ (0 ≤ M 14 (a3 / 2) + ((pm_op a3) % 2) ∧ M 14 (a3 / 2) + ((pm_op a3) % 2) < 85212) ∧ (0 ≤ M 13 (M 14 (a3 / 2) + ((pm_op a3) % 2)) ∧ M 13 (M 14 (a3 / 2) + ((pm_op a3) % 2)) < 4000) ∧ ((M 20 (M 13 (M 14 (a3 / 2) + ((pm_op a3) % 2))) = 0 → pm_X L (49, 0, [some (.inr (.inl 4)), some (.inl (a3 / 2)), none], [], M) (pm_back (pm_X L) 48 87 [some (.inr (.inl 4)), some (.inl a1), some (.inl a2), some (.inl a3), some (.inl a4), some (.inl (M 17 a3)), some (.inl (a3 / 2)), some (.inl (M 13 (M 14 (a3 / 2) + ((pm_op a3) % 2)))), o8] [] Q)) ∧ (¬ (M 20 (M 13 (M 14 (a3 / 2) + ((pm_op a3) % 2))) = 0) → pm_X L (48, 90, [some (.inr (.inl 4)), some (.inl a1), some (.inl a2), some (.inl a3), some (.inl a4), some (.inl (M 17 a3)), some (.inl (a3 / 2)), some (.inl (M 13 (M 14 (a3 / 2) + ((pm_op a3) % 2)))), o8], [.inl (-1)], M) Q))))))) :
    pm_X L (48, 12, [some (.inr (.inl 4)), some (.inl a1), some (.inl a2), some (.inl a3), some (.inl a4), o5, o6, o7, o8], [], M) Q := by
  refine x_iload i_48_12 rfl rfl ?_
  refine x_aload_n i_48_14 rfl rfl ?_
  refine x_getr i_48_15 f_48_22 g_4 rfl rfl ?_
  refine x_alen (n := 32232) i_48_18 g_17 rfl (by decide) ?_
  refine x_icmp (C := 32232 ≤ a4) i_48_19 rfl Iff.rfl rfl ⟨fun c1 => ?_, fun c1 => ?_⟩
  · replace h := h.1 c1
    refine x_iconst i_48_170 (by decide) rfl ?_
    exact x_ireti i_48_171 r_48 h
  · replace h := h.2 c1
    refine x_iload_n i_48_22 rfl rfl ?_
    refine x_iconst i_48_23 (by decide) rfl ?_
    refine x_icmp (C := a3 = -1) i_48_24 rfl Iff.rfl rfl ⟨fun c2 => ?_, fun c2 => ?_⟩
    · replace h := h.1 c2
      refine x_iconst i_48_170 (by decide) rfl ?_
      exact x_ireti i_48_171 r_48 h
    · replace h := h.2 c2
      refine x_aload_n i_48_27 rfl rfl ?_
      refine x_getr i_48_28 f_48_22 g_4 rfl rfl ?_
      refine x_iload_n i_48_31 rfl rfl ?_
      obtain ⟨q3, h⟩ := h
      refine x_iaload (v := M 17 a3) i_48_32 g_17 (rfl) rfl q3 ?_
      refine x_istore i_48_33 (Nat.le_of_ble_eq_true rfl) rfl rfl ?_
      refine x_iload_n i_48_35 rfl rfl ?_
      refine x_iconst i_48_36 (by decide) rfl ?_
      refine x_ishr i_48_37 rfl ?_
      refine x_istore i_48_38 (Nat.le_of_ble_eq_true rfl) rfl rfl ?_
      refine x_aload_n i_48_40 rfl rfl ?_
      refine x_getr i_48_41 f_48_36 g_4 rfl rfl ?_
      refine x_getr i_48_44 f_48_88 g_2 rfl rfl ?_
      refine x_aload_n i_48_47 rfl rfl ?_
      refine x_getr i_48_48 f_48_36 g_4 rfl rfl ?_
      refine x_getr i_48_51 f_48_91 g_2 rfl rfl ?_
      refine x_iload i_48_54 rfl rfl ?_
      obtain ⟨q4, h⟩ := h
      refine x_iaload (v := M 14 (a3 / 2)) i_48_56 g_14 (rfl) rfl q4 ?_
      refine x_iload_n i_48_57 rfl rfl ?_
      refine x_calls (as := [.inl a3]) (rest := [.inl (M 14 (a3 / 2)), .inr (.inl 13)]) i_48_58 k_48_97 rfl rfl rfl (Nat.le_of_ble_eq_true rfl) m_15 rfl ?_
      refine x_iload_n i_15_0 rfl rfl ?_
      refine x_iconst i_15_1 (by decide) rfl ?_
      refine x_ixor i_15_2 rfl ?_
      refine x_ireti i_15_3 r_15 ?_
      refine x_bki rfl ?_
      refine x_iconst i_48_61 (by decide) rfl ?_
      refine x_iand1 i_48_62 rfl ?_
      obtain ⟨q5, h⟩ := h
      refine x_iadd i_48_63 rfl q5 ?_
      obtain ⟨q6, h⟩ := h
      refine x_iaload (v := M 13 (M 14 (a3 / 2) + ((pm_op a3) % 2))) i_48_64 g_13 (rfl) rfl q6 ?_
      refine x_istore i_48_65 (Nat.le_of_ble_eq_true rfl) rfl rfl ?_
      refine x_aload_n i_48_67 rfl rfl ?_
      refine x_getr i_48_68 f_48_12 g_4 rfl rfl ?_
      refine x_getr i_48_71 f_48_44 g_5 rfl rfl ?_
      refine x_iload i_48_74 rfl rfl ?_
      obtain ⟨q7, h⟩ := h
      refine x_baload (v := M 20 (M 13 (M 14 (a3 / 2) + ((pm_op a3) % 2)))) i_48_76 g_20 (rfl) rfl q7 ?_
      refine x_if (C := M 20 (M 13 (M 14 (a3 / 2) + ((pm_op a3) % 2))) = 0) i_48_77 rfl Iff.rfl rfl ⟨fun c8 => ?_, fun c8 => ?_⟩
      · replace h := h.1 c8
        refine x_aload_n i_48_84 rfl rfl ?_
        refine x_iload i_48_85 rfl rfl ?_
        refine x_callv (as := [.inl (a3 / 2)]) (rest := []) i_48_87 k_48_129 rfl rfl rfl g_4 (Nat.le_of_ble_eq_true rfl) m_49 rfl h
      · replace h := h.2 c8
        refine x_iconst i_48_80 (by decide) rfl ?_
        refine x_goto i_48_81 rfl ?_
        exact h
/-! GateBench$Search.leaveFailing at 90 -/
theorem s_48_90 {L : Nat} {M : pm_M} {Q : pm_P} {a1 a2 a3 a4 a5 a6 a7 r : Int} {o8 : Option pm_V}
    (h : ((r = -1 → (0 ≤ pm_op a7 ∧ pm_op a7 < 4000) ∧ ((M 20 (pm_op a7) = 0 → (0 ≤ a7 ∧ a7 < 4000) ∧ ((¬ M 20 a7 = 0 → (pm_R (a4 + 1)) ∧ pm_X L (48, 12, [some (.inr (.inl 4)), some (.inl a1), some (.inl a3), some (.inl a5), some (.inl (a4 + 1)), some (.inl a5), some (.inl a6), some (.inl a7), some (.inl r)], [], M) Q) ∧ (¬ (¬ M 20 a7 = 0) → (0 ≤ M 5 4 ∧ M 5 4 < 2000) ∧ (pm_R (M 5 4 + 1)) ∧ (pm_R (a4 + 1)) ∧ pm_X L (48, 12, [some (.inr (.inl 4)), some (.inl a1), some (.inl a3), some (.inl a5), some (.inl (a4 + 1)), some (.inl a5), some (.inl a6), some (.inl a7), some (.inl r)], [], pm_set (pm_set (pm_set (pm_set M 20 a7 1) 21 a7 a6) 22 (M 5 4) a7) 5 4 (M 5 4 + 1)) Q))) ∧ (¬ (M 20 (pm_op a7) = 0) → Q (.inl (some (.inl a6))) M))) ∧ (¬ (r = -1) → (0 ≤ a3 / 2 ∧ a3 / 2 < 16117) ∧ (pm_R (M 14 (a3 / 2) + (a3 % 2))) ∧ (0 ≤ r ∧ r < 85212) ∧ (0 ≤ M 14 (a3 / 2) + (a3 % 2) ∧ M 14 (a3 / 2) + (a3 % 2) < 85212) ∧ (0 ≤ M 13 r ∧ M 13 r < 4000) ∧ (0 ≤ a3 ∧ a3 < 32232) ∧ ((¬ a2 = -1 → (0 ≤ a2 ∧ a2 < 32232) ∧ (pm_R (a4 + 1)) ∧ pm_X L (48, 12, [some (.inr (.inl 4)), some (.inl a1), some (.inl a2), some (.inl a5), some (.inl (a4 + 1)), some (.inl a5), some (.inl a6), some (.inl a7), some (.inl r)], [], pm_set (pm_set (pm_set (pm_set (pm_set M 13 r (M 13 (M 14 (a3 / 2) + (a3 % 2)))) 13 (M 14 (a3 / 2) + (a3 % 2)) (M 13 r)) 17 a3 (M 16 (M 13 r))) 16 (M 13 r) a3) 17 a2 a5) Q) ∧ (¬ (¬ a2 = -1) → (0 ≤ a1 ∧ a1 < 4000) ∧ (pm_R (a4 + 1)) ∧ pm_X L (48, 12, [some (.inr (.inl 4)), some (.inl a1), some (.inl a2), some (.inl a5), some (.inl (a4 + 1)), some (.inl a5), some (.inl a6), some (.inl a7), some (.inl r)], [], pm_set (pm_set (pm_set (pm_set (pm_set M 13 r (M 13 (M 14 (a3 / 2) + (a3 % 2)))) 13 (M 14 (a3 / 2) + (a3 % 2)) (M 13 r)) 17 a3 (M 16 (M 13 r))) 16 (M 13 r) a3) 16 a1 a5) Q))))) :
    pm_X L (48, 90, [some (.inr (.inl 4)), some (.inl a1), some (.inl a2), some (.inl a3), some (.inl a4), some (.inl a5), some (.inl a6), some (.inl a7), o8], [.inl r], M) Q := by
  refine x_istore i_48_90 (Nat.le_of_ble_eq_true rfl) rfl rfl ?_
  refine x_iload i_48_92 rfl rfl ?_
  refine x_iconst i_48_94 (by decide) rfl ?_
  refine x_icmp (C := r = -1) i_48_95 rfl Iff.rfl rfl ⟨fun c1 => ?_, fun c1 => ?_⟩
  · replace h := h.1 c1
    refine x_iload_n i_48_116 rfl rfl ?_
    refine x_istore_n i_48_117 (Nat.le_of_ble_eq_true rfl) rfl rfl ?_
    refine x_aload_n i_48_118 rfl rfl ?_
    refine x_getr i_48_119 f_48_12 g_4 rfl rfl ?_
    refine x_getr i_48_122 f_48_44 g_5 rfl rfl ?_
    refine x_iload i_48_125 rfl rfl ?_
    refine x_calls (as := [.inl a7]) (rest := [.inr (.inl 20)]) i_48_127 k_48_97 rfl rfl rfl (Nat.le_of_ble_eq_true rfl) m_15 rfl ?_
    refine x_iload_n i_15_0 rfl rfl ?_
    refine x_iconst i_15_1 (by decide) rfl ?_
    refine x_ixor i_15_2 rfl ?_
    refine x_ireti i_15_3 r_15 ?_
    refine x_bki rfl ?_
    obtain ⟨q2, h⟩ := h
    refine x_baload (v := M 20 (pm_op a7)) i_48_130 g_20 (rfl) rfl q2 ?_
    refine x_if (C := M 20 (pm_op a7) = 0) i_48_131 rfl Iff.rfl rfl ⟨fun c3 => ?_, fun c3 => ?_⟩
    · replace h := h.1 c3
      refine x_aload_n i_48_137 rfl rfl ?_
      refine x_getr i_48_138 f_48_12 g_4 rfl rfl ?_
      refine x_getr i_48_141 f_48_44 g_5 rfl rfl ?_
      refine x_iload i_48_144 rfl rfl ?_
      obtain ⟨q4, h⟩ := h
      refine x_baload (v := M 20 a7) i_48_146 g_20 (rfl) rfl q4 ?_
      refine x_if (C := ¬ M 20 a7 = 0) i_48_147 rfl Iff.rfl rfl ⟨fun c5 => ?_, fun c5 => ?_⟩
      · replace h := h.1 c5
        refine x_iload i_48_161 rfl rfl ?_
        refine x_istore_n i_48_163 (Nat.le_of_ble_eq_true rfl) rfl rfl ?_
        obtain ⟨q6, h⟩ := h
        refine x_iinc i_48_164 rfl (by decide) rfl rfl q6 ?_
        refine x_goto i_48_167 rfl ?_
        exact h
      · replace h := h.2 c5
        refine x_aload_n i_48_150 rfl rfl ?_
        refine x_getr i_48_151 f_48_12 g_4 rfl rfl ?_
        refine x_iload i_48_154 rfl rfl ?_
        refine x_iload i_48_156 rfl rfl ?_
        refine x_callv (as := [.inl a7, .inl a6]) (rest := []) i_48_158 k_48_104 rfl rfl rfl g_5 (Nat.le_of_ble_eq_true rfl) m_60 rfl ?_
        refine x_aload_n i_60_0 rfl rfl ?_
        refine x_getr i_60_1 f_60_9 g_5 rfl rfl ?_
        refine x_iload_n i_60_4 rfl rfl ?_
        refine x_iconst i_60_5 (by decide) rfl ?_
        refine x_bastore i_60_6 g_20 rfl ⟨q4, by unfold pm_bit; decide⟩ ?_
        refine x_aload_n i_60_7 rfl rfl ?_
        refine x_getr i_60_8 f_60_15 g_5 rfl rfl ?_
        refine x_iload_n i_60_11 rfl rfl ?_
        refine x_iload_n i_60_12 rfl rfl ?_
        refine x_iastore i_60_13 g_21 rfl q4 ?_
        refine x_aload_n i_60_14 rfl rfl ?_
        refine x_getr i_60_15 f_60_19 g_5 rfl rfl ?_
        refine x_aload_n i_60_18 rfl rfl ?_
        refine x_geti (v := M 5 4) i_60_19 f_60_37 g_5 rfl (pm_get_c (by decide) (pm_get_c (by decide) rfl)) rfl ?_
        refine x_iload_n i_60_22 rfl rfl ?_
        obtain ⟨q7, h⟩ := h
        refine x_iastore i_60_23 g_22 rfl q7 ?_
        refine x_aload_n i_60_24 rfl rfl ?_
        refine x_dup i_60_25 rfl rfl ?_
        refine x_geti (v := M 5 4) i_60_26 f_60_37 g_5 rfl (pm_get_c (by decide) (pm_get_c (by decide) (pm_get_c (by decide) rfl))) rfl ?_
        refine x_iconst i_60_29 (by decide) rfl ?_
        obtain ⟨q8, h⟩ := h
        refine x_iadd i_60_30 rfl q8 ?_
        refine x_puti i_60_31 f_60_37 g_5 rfl rfl ?_
        refine x_ret i_60_34 r_60 ?_
        refine x_bkv rfl ?_
        refine x_iload i_48_161 rfl rfl ?_
        refine x_istore_n i_48_163 (Nat.le_of_ble_eq_true rfl) rfl rfl ?_
        obtain ⟨q9, h⟩ := h
        refine x_iinc i_48_164 rfl (by decide) rfl rfl q9 ?_
        refine x_goto i_48_167 rfl ?_
        exact h
    · replace h := h.2 c3
      refine x_iload i_48_134 rfl rfl ?_
      exact x_ireti i_48_136 r_48 h
  · replace h := h.2 c1
    refine x_aload_n i_48_98 rfl rfl ?_
    refine x_iload_n i_48_99 rfl rfl ?_
    refine x_iload i_48_100 rfl rfl ?_
    refine x_callv (as := [.inl a3, .inl r]) (rest := []) i_48_102 k_48_132 rfl rfl rfl g_4 (Nat.le_of_ble_eq_true rfl) m_50 rfl ?_
    refine x_aload_n i_50_0 rfl rfl ?_
    refine x_getr i_50_1 f_50_36 g_4 rfl rfl ?_
    refine x_getr i_50_4 f_50_91 g_2 rfl rfl ?_
    refine x_iload_n i_50_7 rfl rfl ?_
    refine x_iconst i_50_8 (by decide) rfl ?_
    refine x_ishr i_50_9 rfl ?_
    obtain ⟨q10, h⟩ := h
    refine x_iaload (v := M 14 (a3 / 2)) i_50_10 g_14 (rfl) rfl q10 ?_
    refine x_iload_n i_50_11 rfl rfl ?_
    refine x_iconst i_50_12 (by decide) rfl ?_
    refine x_iand1 i_50_13 rfl ?_
    obtain ⟨q11, h⟩ := h
    refine x_iadd i_50_14 rfl q11 ?_
    refine x_istore_n i_50_15 (Nat.le_of_ble_eq_true rfl) rfl rfl ?_
    refine x_aload_n i_50_16 rfl rfl ?_
    refine x_getr i_50_17 f_50_36 g_4 rfl rfl ?_
    refine x_getr i_50_20 f_50_88 g_2 rfl rfl ?_
    refine x_iload_n i_50_23 rfl rfl ?_
    obtain ⟨q12, h⟩ := h
    refine x_iaload (v := M 13 r) i_50_24 g_13 (rfl) rfl q12 ?_
    refine x_istore i_50_25 (Nat.le_of_ble_eq_true rfl) rfl rfl ?_
    refine x_aload_n i_50_27 rfl rfl ?_
    refine x_getr i_50_28 f_50_36 g_4 rfl rfl ?_
    refine x_getr i_50_31 f_50_88 g_2 rfl rfl ?_
    refine x_iload_n i_50_34 rfl rfl ?_
    refine x_aload_n i_50_35 rfl rfl ?_
    refine x_getr i_50_36 f_50_36 g_4 rfl rfl ?_
    refine x_getr i_50_39 f_50_88 g_2 rfl rfl ?_
    refine x_iload_n i_50_42 rfl rfl ?_
    obtain ⟨q13, h⟩ := h
    refine x_iaload (v := M 13 (M 14 (a3 / 2) + (a3 % 2))) i_50_43 g_13 (rfl) rfl q13 ?_
    refine x_iastore i_50_44 g_13 rfl q12 ?_
    refine x_aload_n i_50_45 rfl rfl ?_
    refine x_getr i_50_46 f_50_36 g_4 rfl rfl ?_
    refine x_getr i_50_49 f_50_88 g_2 rfl rfl ?_
    refine x_iload_n i_50_52 rfl rfl ?_
    refine x_iload i_50_53 rfl rfl ?_
    refine x_iastore i_50_55 g_13 rfl q13 ?_
    refine x_aload_n i_50_56 rfl rfl ?_
    refine x_getr i_50_57 f_50_22 g_4 rfl rfl ?_
    refine x_iload_n i_50_60 rfl rfl ?_
    refine x_aload_n i_50_61 rfl rfl ?_
    refine x_getr i_50_62 f_50_18 g_4 rfl rfl ?_
    refine x_iload i_50_65 rfl rfl ?_
    obtain ⟨q14, h⟩ := h
    refine x_iaload (v := M 16 (M 13 r)) i_50_67 g_16 (pm_get_c (by decide) (pm_get_c (by decide) rfl)) rfl q14 ?_
    obtain ⟨q15, h⟩ := h
    refine x_iastore i_50_68 g_17 rfl q15 ?_
    refine x_aload_n i_50_69 rfl rfl ?_
    refine x_getr i_50_70 f_50_18 g_4 rfl rfl ?_
    refine x_iload i_50_73 rfl rfl ?_
    refine x_iload_n i_50_75 rfl rfl ?_
    refine x_iastore i_50_76 g_16 rfl q14 ?_
    refine x_ret i_50_77 r_50 ?_
    refine x_bkv rfl ?_
    refine x_aload_n i_48_105 rfl rfl ?_
    refine x_iload_n i_48_106 rfl rfl ?_
    refine x_iload_n i_48_107 rfl rfl ?_
    refine x_iload i_48_108 rfl rfl ?_
    refine x_callv (as := [.inl a1, .inl a2, .inl a5]) (rest := []) i_48_110 k_48_135 rfl rfl rfl g_4 (Nat.le_of_ble_eq_true rfl) m_51 rfl ?_
    refine x_iload_n i_51_0 rfl rfl ?_
    refine x_iconst i_51_1 (by decide) rfl ?_
    refine x_icmp (C := ¬ a2 = -1) i_51_2 rfl Iff.rfl rfl ⟨fun c16 => ?_, fun c16 => ?_⟩
    · replace h := h.1 c16
      refine x_aload_n i_51_15 rfl rfl ?_
      refine x_getr i_51_16 f_51_22 g_4 rfl rfl ?_
      refine x_iload_n i_51_19 rfl rfl ?_
      refine x_iload_n i_51_20 rfl rfl ?_
      obtain ⟨q17, h⟩ := h
      refine x_iastore i_51_21 g_17 rfl q17 ?_
      refine x_ret i_51_22 r_51 ?_
      refine x_bkv rfl ?_
      refine x_goto i_48_113 rfl ?_
      refine x_iload i_48_161 rfl rfl ?_
      refine x_istore_n i_48_163 (Nat.le_of_ble_eq_true rfl) rfl rfl ?_
      obtain ⟨q18, h⟩ := h
      refine x_iinc i_48_164 rfl (by decide) rfl rfl q18 ?_
      refine x_goto i_48_167 rfl ?_
      exact h
    · replace h := h.2 c16
      refine x_aload_n i_51_5 rfl rfl ?_
      refine x_getr i_51_6 f_51_18 g_4 rfl rfl ?_
      refine x_iload_n i_51_9 rfl rfl ?_
      refine x_iload_n i_51_10 rfl rfl ?_
      obtain ⟨q19, h⟩ := h
      refine x_iastore i_51_11 g_16 rfl q19 ?_
      refine x_goto i_51_12 rfl ?_
      refine x_ret i_51_22 r_51 ?_
      refine x_bkv rfl ?_
      refine x_goto i_48_113 rfl ?_
      refine x_iload i_48_161 rfl rfl ?_
      refine x_istore_n i_48_163 (Nat.le_of_ble_eq_true rfl) rfl rfl ?_
      obtain ⟨q20, h⟩ := h
      refine x_iinc i_48_164 rfl (by decide) rfl rfl q20 ?_
      refine x_goto i_48_167 rfl ?_
      exact h
