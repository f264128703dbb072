/-! GateBenchModel.thrown at 0 -/
theorem s_63_0 {L : Nat} {M : pm_M} {Q : pm_P}
    (h : Q (.inl (some (.inl (M 24 0)))) M) :
    pm_X L (63, 0, [some (.inr (.inl 24))], [], M) Q := by
  refine x_aload_n i_63_0 rfl rfl ?_
  refine x_geti (v := M 24 0) i_63_1 f_63_7 g_24 rfl (rfl) rfl ?_
  exact x_ireti i_63_4 r_63 h
/-! GateBenchModel.refuse at 0 -/
theorem s_64_0 {L : Nat} {M : pm_M} {Q : pm_P} {a1 a2 : Int}
    (h : ((a2 = 0 → (pm_bit a2) ∧ Q (.inl (some (.inl a2))) M) ∧ (¬ (a2 = 0) → (pm_bit a2) ∧ Q (.inl (some (.inl a2))) (pm_set M 24 0 a1)))) :
    pm_X L (64, 0, [some (.inr (.inl 24)), some (.inl a1), some (.inl a2)], [], M) Q := by
  refine x_iload_n i_64_0 rfl rfl ?_
  refine x_if (C := a2 = 0) i_64_1 rfl Iff.rfl rfl ⟨fun c1 => ?_, fun c1 => ?_⟩
  · replace h := h.1 c1
    refine x_iload_n i_64_9 rfl rfl ?_
    obtain ⟨q2, h⟩ := h
    exact x_iretz i_64_10 r_64 q2 h
  · replace h := h.2 c1
    refine x_aload_n i_64_4 rfl rfl ?_
    refine x_iload_n i_64_5 rfl rfl ?_
    refine x_puti i_64_6 f_64_7 g_24 rfl rfl ?_
    refine x_iload_n i_64_9 rfl rfl ?_
    obtain ⟨q3, h⟩ := h
    exact x_iretz i_64_10 r_64 q3 h
/-! GateBenchModel.none at 0 -/
theorem s_65_0 {L : Nat} {M : pm_M} {Q : pm_P} {a1 : Int}
    (h : ((a1 < 0 → Q (.inl (some (.inl 1))) M) ∧ (¬ (a1 < 0) → ((a1 < M 24 1 → Q (.inl (some (.inl 0))) M) ∧ (¬ (a1 < M 24 1) → Q (.inl (some (.inl 1))) M))))) :
    pm_X L (65, 0, [some (.inr (.inl 24)), some (.inl a1)], [], M) Q := by
  refine x_iload_n i_65_0 rfl rfl ?_
  refine x_if (C := a1 < 0) i_65_1 rfl Iff.rfl rfl ⟨fun c1 => ?_, fun c1 => ?_⟩
  · replace h := h.1 c1
    refine x_iconst i_65_12 (by decide) rfl ?_
    refine x_goto i_65_13 rfl ?_
    exact x_iretz i_65_17 r_65 (by unfold pm_bit; decide) h
  · replace h := h.2 c1
    refine x_iload_n i_65_4 rfl rfl ?_
    refine x_aload_n i_65_5 rfl rfl ?_
    refine x_geti (v := M 24 1) i_65_6 f_65_13 g_24 rfl (rfl) rfl ?_
    refine x_icmp (C := a1 < M 24 1) i_65_9 rfl Iff.rfl rfl ⟨fun c2 => ?_, fun c2 => ?_⟩
    · replace h := h.1 c2
      refine x_iconst i_65_16 (by decide) rfl ?_
      exact x_iretz i_65_17 r_65 (by unfold pm_bit; decide) h
    · replace h := h.2 c2
      refine x_iconst i_65_12 (by decide) rfl ?_
      refine x_goto i_65_13 rfl ?_
      exact x_iretz i_65_17 r_65 (by unfold pm_bit; decide) h
/-! GateBenchModel.make at 0 -/
theorem s_66_0 {L : Nat} {M : pm_M} {Q : pm_P} {a1 a2 a3 a4 : Int}
    (h : (0 ≤ M 24 1 ∧ M 24 1 < 2000) ∧ (pm_R (M 24 1 + 1)) ∧ Q (.inl (some (.inl (M 24 1)))) (pm_set (pm_set (pm_set (pm_set (pm_set M 25 (M 24 1) a1) 26 (M 24 1) a2) 27 (M 24 1) a3) 28 (M 24 1) a4) 24 1 (M 24 1 + 1))) :
    pm_X L (66, 0, [some (.inr (.inl 24)), some (.inl a1), some (.inl a2), some (.inl a3), some (.inl a4)], [], M) Q := by
  refine x_aload_n i_66_0 rfl rfl ?_
  refine x_getr i_66_1 f_66_22 g_24 rfl rfl ?_
  refine x_aload_n i_66_4 rfl rfl ?_
  refine x_geti (v := M 24 1) i_66_5 f_66_13 g_24 rfl (rfl) rfl ?_
  refine x_iload_n i_66_8 rfl rfl ?_
  obtain ⟨q1, h⟩ := h
  refine x_iastore i_66_9 g_25 rfl q1 ?_
  refine x_aload_n i_66_10 rfl rfl ?_
  refine x_getr i_66_11 f_66_26 g_24 rfl rfl ?_
  refine x_aload_n i_66_14 rfl rfl ?_
  refine x_geti (v := M 24 1) i_66_15 f_66_13 g_24 rfl (pm_get_c (by decide) rfl) rfl ?_
  refine x_iload_n i_66_18 rfl rfl ?_
  refine x_iastore i_66_19 g_26 rfl q1 ?_
  refine x_aload_n i_66_20 rfl rfl ?_
  refine x_getr i_66_21 f_66_29 g_24 rfl rfl ?_
  refine x_aload_n i_66_24 rfl rfl ?_
  refine x_geti (v := M 24 1) i_66_25 f_66_13 g_24 rfl (pm_get_c (by decide) (pm_get_c (by decide) rfl)) rfl ?_
  refine x_iload_n i_66_28 rfl rfl ?_
  refine x_iastore i_66_29 g_27 rfl q1 ?_
  refine x_aload_n i_66_30 rfl rfl ?_
  refine x_getr i_66_31 f_66_32 g_24 rfl rfl ?_
  refine x_aload_n i_66_34 rfl rfl ?_
  refine x_geti (v := M 24 1) i_66_35 f_66_13 g_24 rfl (pm_get_c (by decide) (pm_get_c (by decide) (pm_get_c (by decide) rfl))) rfl ?_
  refine x_iload i_66_38 rfl rfl ?_
  refine x_iastore i_66_40 g_28 rfl q1 ?_
  refine x_aload_n i_66_41 rfl rfl ?_
  refine x_dup i_66_42 rfl rfl ?_
  refine x_geti (v := M 24 1) i_66_43 f_66_13 g_24 rfl (pm_get_c (by decide) (pm_get_c (by decide) (pm_get_c (by decide) (pm_get_c (by decide) rfl)))) rfl ?_
  refine x_dup_x1 i_66_46 rfl rfl rfl ?_
  refine x_iconst i_66_47 (by decide) rfl ?_
  obtain ⟨q2, h⟩ := h
  refine x_iadd i_66_48 rfl q2 ?_
  refine x_puti i_66_49 f_66_13 g_24 rfl rfl ?_
  exact x_ireti i_66_52 r_66 h
/-! GateBenchModel.input at 0 -/
theorem s_67_0 {L : Nat} {M : pm_M} {Q : pm_P}
    (h : ((M 24 2 = 12 → Q (.inl (some (.inl 0))) (pm_set (pm_set M 24 0 0) 24 0 1)) ∧ (¬ (M 24 2 = 12) → ((¬ M 24 1 = 2000 → (0 ≤ M 24 2 ∧ M 24 2 < 12) ∧ (pm_R (M 24 2 + 1)) ∧ (0 ≤ M 24 1 ∧ M 24 1 < 2000) ∧ (pm_R (M 24 1 + 1)) ∧ Q (.inl (some (.inl (M 24 1)))) (pm_set (pm_set (pm_set (pm_set (pm_set (pm_set (pm_set (pm_set M 24 0 0) 30 (M 24 2) 0) 24 2 (M 24 2 + 1)) 25 (M 24 1) 1) 26 (M 24 1) (M 24 2)) 27 (M 24 1) 0) 28 (M 24 1) 0) 24 1 (M 24 1 + 1))) ∧ (¬ (¬ M 24 1 = 2000) → Q (.inl (some (.inl 0))) (pm_set (pm_set M 24 0 0) 24 0 1)))))) :
    pm_X L (67, 0, [some (.inr (.inl 24))], [], M) Q := by
  refine x_aload_n i_67_0 rfl rfl ?_
  refine x_iconst i_67_1 (by decide) rfl ?_
  refine x_puti i_67_2 f_67_7 g_24 rfl rfl ?_
  refine x_aload_n i_67_5 rfl rfl ?_
  refine x_iconst i_67_6 (by decide) rfl ?_
  refine x_aload_n i_67_7 rfl rfl ?_
  refine x_geti (v := M 24 2) i_67_8 f_67_16 g_24 rfl (pm_get_j (by decide) rfl) rfl ?_
  refine x_bipush i_67_11 (by decide) rfl ?_
  refine x_icmp (C := M 24 2 = 12) i_67_13 rfl Iff.rfl rfl ⟨fun c1 => ?_, fun c1 => ?_⟩
  · replace h := h.1 c1
    refine x_iconst i_67_26 (by decide) rfl ?_
    refine x_goto i_67_27 rfl ?_
    refine x_callv (as := [.inl 1, .inl 1]) (rest := []) i_67_31 k_67_51 rfl rfl rfl g_24 (Nat.le_of_ble_eq_true rfl) m_64 rfl ?_
    refine x_iload_n i_64_0 rfl rfl ?_
    refine x_ifF i_64_1 rfl (by unfold pm_cmp; decide) rfl ?_
    refine x_aload_n i_64_4 rfl rfl ?_
    refine x_iload_n i_64_5 rfl rfl ?_
    refine x_puti i_64_6 f_64_7 g_24 rfl rfl ?_
    refine x_iload_n i_64_9 rfl rfl ?_
    refine x_iretz i_64_10 r_64 (by unfold pm_bit; decide) ?_
    refine x_bki rfl ?_
    refine x_ifF i_67_34 rfl (by unfold pm_cmp; decide) rfl ?_
    refine x_iconst i_67_37 (by decide) rfl ?_
    exact x_ireti i_67_38 r_67 h
  · replace h := h.2 c1
    refine x_aload_n i_67_16 rfl rfl ?_
    refine x_geti (v := M 24 1) i_67_17 f_67_13 g_24 rfl (pm_get_j (by decide) rfl) rfl ?_
    refine x_sipush i_67_20 (by decide) rfl ?_
    refine x_icmp (C := ¬ M 24 1 = 2000) i_67_23 rfl Iff.rfl rfl ⟨fun c2 => ?_, fun c2 => ?_⟩
    · replace h := h.1 c2
      refine x_iconst i_67_30 (by decide) rfl ?_
      refine x_callv (as := [.inl 1, .inl 0]) (rest := []) i_67_31 k_67_51 rfl rfl rfl g_24 (Nat.le_of_ble_eq_true rfl) m_64 rfl ?_
      refine x_iload_n i_64_0 rfl rfl ?_
      refine x_ifT i_64_1 rfl (by unfold pm_cmp; decide) ?_
      refine x_iload_n i_64_9 rfl rfl ?_
      refine x_iretz i_64_10 r_64 (by unfold pm_bit; decide) ?_
      refine x_bki rfl ?_
      refine x_ifT i_67_34 rfl (by unfold pm_cmp; decide) ?_
      refine x_aload_n i_67_39 rfl rfl ?_
      refine x_getr i_67_40 f_67_38 g_24 rfl rfl ?_
      refine x_aload_n i_67_43 rfl rfl ?_
      refine x_geti (v := M 24 2) i_67_44 f_67_16 g_24 rfl (pm_get_j (by decide) rfl) rfl ?_
      refine x_iconst i_67_47 (by decide) rfl ?_
      obtain ⟨q3, h⟩ := h
      refine x_bastore i_67_48 g_30 rfl ⟨q3, by unfold pm_bit; decide⟩ ?_
      refine x_aload_n i_67_49 rfl rfl ?_
      refine x_iconst i_67_50 (by decide) rfl ?_
      refine x_aload_n i_67_51 rfl rfl ?_
      refine x_dup i_67_52 rfl rfl ?_
      refine x_geti (v := M 24 2) i_67_53 f_67_16 g_24 rfl (pm_get_c (by decide) (pm_get_j (by decide) rfl)) rfl ?_
      refine x_dup_x1 i_67_56 rfl rfl rfl ?_
      refine x_iconst i_67_57 (by decide) rfl ?_
      obtain ⟨q4, h⟩ := h
      refine x_iadd i_67_58 rfl q4 ?_
      refine x_puti i_67_59 f_67_16 g_24 rfl rfl ?_
      refine x_iconst i_67_62 (by decide) rfl ?_
      refine x_iconst i_67_63 (by decide) rfl ?_
      refine x_callv (as := [.inl 1, .inl (M 24 2), .inl 0, .inl 0]) (rest := []) i_67_64 k_67_55 rfl rfl rfl g_24 (Nat.le_of_ble_eq_true rfl) m_66 rfl ?_
      refine x_aload_n i_66_0 rfl rfl ?_
      refine x_getr i_66_1 f_66_22 g_24 rfl rfl ?_
      refine x_aload_n i_66_4 rfl rfl ?_
      refine x_geti (v := M 24 1) i_66_5 f_66_13 g_24 rfl (pm_get_j (by decide) (pm_get_c (by decide) (pm_get_j (by decide) rfl))) rfl ?_
      refine x_iload_n i_66_8 rfl rfl ?_
      obtain ⟨q5, h⟩ := h
      refine x_iastore i_66_9 g_25 rfl q5 ?_
      refine x_aload_n i_66_10 rfl rfl ?_
      refine x_getr i_66_11 f_66_26 g_24 rfl rfl ?_
      refine x_aload_n i_66_14 rfl rfl ?_
      refine x_geti (v := M 24 1) i_66_15 f_66_13 g_24 rfl (pm_get_c (by decide) (pm_get_j (by decide) (pm_get_c (by decide) (pm_get_j (by decide) rfl)))) rfl ?_
      refine x_iload_n i_66_18 rfl rfl ?_
      refine x_iastore i_66_19 g_26 rfl q5 ?_
      refine x_aload_n i_66_20 rfl rfl ?_
      refine x_getr i_66_21 f_66_29 g_24 rfl rfl ?_
      refine x_aload_n i_66_24 rfl rfl ?_
      refine x_geti (v := M 24 1) i_66_25 f_66_13 g_24 rfl (pm_get_c (by decide) (pm_get_c (by decide) (pm_get_j (by decide) (pm_get_c (by decide) (pm_get_j (by decide) rfl))))) rfl ?_
      refine x_iload_n i_66_28 rfl rfl ?_
      refine x_iastore i_66_29 g_27 rfl q5 ?_
      refine x_aload_n i_66_30 rfl rfl ?_
      refine x_getr i_66_31 f_66_32 g_24 rfl rfl ?_
      refine x_aload_n i_66_34 rfl rfl ?_
      refine x_geti (v := M 24 1) i_66_35 f_66_13 g_24 rfl (pm_get_c (by decide) (pm_get_c (by decide) (pm_get_c (by decide) (pm_get_j (by decide) (pm_get_c (by decide) (pm_get_j (by decide) rfl)))))) rfl ?_
      refine x_iload i_66_38 rfl rfl ?_
      refine x_iastore i_66_40 g_28 rfl q5 ?_
      refine x_aload_n i_66_41 rfl rfl ?_
      refine x_dup i_66_42 rfl rfl ?_
      refine x_geti (v := M 24 1) i_66_43 f_66_13 g_24 rfl (pm_get_c (by decide) (pm_get_c (by decide) (pm_get_c (by decide) (pm_get_c (by decide) (pm_get_j (by decide) (pm_get_c (by decide) (pm_get_j (by decide) rfl))))))) rfl ?_
      refine x_dup_x1 i_66_46 rfl rfl rfl ?_
      refine x_iconst i_66_47 (by decide) rfl ?_
      obtain ⟨q6, h⟩ := h
      refine x_iadd i_66_48 rfl q6 ?_
      refine x_puti i_66_49 f_66_13 g_24 rfl rfl ?_
      refine x_ireti i_66_52 r_66 ?_
      refine x_bki rfl ?_
      exact x_ireti i_67_67 r_67 h
    · replace h := h.2 c2
      refine x_iconst i_67_26 (by decide) rfl ?_
      refine x_goto i_67_27 rfl ?_
      refine x_callv (as := [.inl 1, .inl 1]) (rest := []) i_67_31 k_67_51 rfl rfl rfl g_24 (Nat.le_of_ble_eq_true rfl) m_64 rfl ?_
      refine x_iload_n i_64_0 rfl rfl ?_
      refine x_ifF i_64_1 rfl (by unfold pm_cmp; decide) rfl ?_
      refine x_aload_n i_64_4 rfl rfl ?_
      refine x_iload_n i_64_5 rfl rfl ?_
      refine x_puti i_64_6 f_64_7 g_24 rfl rfl ?_
      refine x_iload_n i_64_9 rfl rfl ?_
      refine x_iretz i_64_10 r_64 (by unfold pm_bit; decide) ?_
      refine x_bki rfl ?_
      refine x_ifF i_67_34 rfl (by unfold pm_cmp; decide) rfl ?_
      refine x_iconst i_67_37 (by decide) rfl ?_
      exact x_ireti i_67_38 r_67 h
/-! GateBenchModel.not at 0 -/
theorem s_68_0 {L : Nat} {M : pm_M} {Q : pm_P} {a1 : Int}
    (h : ((a1 < 0 → Q (.inl (some (.inl 0))) (pm_set (pm_set M 24 0 0) 24 0 1)) ∧ (¬ (a1 < 0) → ((a1 < M 24 1 → ((¬ M 24 1 = 2000 → (0 ≤ M 24 1 ∧ M 24 1 < 2000) ∧ (pm_R (M 24 1 + 1)) ∧ Q (.inl (some (.inl (M 24 1)))) (pm_set (pm_set (pm_set (pm_set (pm_set (pm_set M 24 0 0) 25 (M 24 1) 2) 26 (M 24 1) a1) 27 (M 24 1) 0) 28 (M 24 1) 0) 24 1 (M 24 1 + 1))) ∧ (¬ (¬ M 24 1 = 2000) → Q (.inl (some (.inl 0))) (pm_set (pm_set M 24 0 0) 24 0 2)))) ∧ (¬ (a1 < M 24 1) → Q (.inl (some (.inl 0))) (pm_set (pm_set M 24 0 0) 24 0 1)))))) :
    pm_X L (68, 0, [some (.inr (.inl 24)), some (.inl a1)], [], M) Q := by
  refine x_aload_n i_68_0 rfl rfl ?_
  refine x_iconst i_68_1 (by decide) rfl ?_
  refine x_puti i_68_2 f_68_7 g_24 rfl rfl ?_
  refine x_aload_n i_68_5 rfl rfl ?_
  refine x_iconst i_68_6 (by decide) rfl ?_
  refine x_aload_n i_68_7 rfl rfl ?_
  refine x_iload_n i_68_8 rfl rfl ?_
  refine x_callv (as := [.inl a1]) (rest := [.inl 1, .inr (.inl 24)]) i_68_9 k_68_59 rfl rfl rfl g_24 (Nat.le_of_ble_eq_true rfl) m_65 rfl ?_
  refine x_iload_n i_65_0 rfl rfl ?_
  refine x_if (C := a1 < 0) i_65_1 rfl Iff.rfl rfl ⟨fun c1 => ?_, fun c1 => ?_⟩
  · replace h := h.1 c1
    refine x_iconst i_65_12 (by decide) rfl ?_
    refine x_goto i_65_13 rfl ?_
    refine x_iretz i_65_17 r_65 (by unfold pm_bit; decide) ?_
    refine x_bki rfl ?_
    refine x_callv (as := [.inl 1, .inl 1]) (rest := []) i_68_12 k_68_51 rfl rfl rfl g_24 (Nat.le_of_ble_eq_true rfl) m_64 rfl ?_
    refine x_iload_n i_64_0 rfl rfl ?_
    refine x_ifF i_64_1 rfl (by unfold pm_cmp; decide) rfl ?_
    refine x_aload_n i_64_4 rfl rfl ?_
    refine x_iload_n i_64_5 rfl rfl ?_
    refine x_puti i_64_6 f_64_7 g_24 rfl rfl ?_
    refine x_iload_n i_64_9 rfl rfl ?_
    refine x_iretz i_64_10 r_64 (by unfold pm_bit; decide) ?_
    refine x_bki rfl ?_
    refine x_ifT i_68_15 rfl (by unfold pm_cmp; decide) ?_
    refine x_iconst i_68_41 (by decide) rfl ?_
    exact x_ireti i_68_42 r_68 h
  · replace h := h.2 c1
    refine x_iload_n i_65_4 rfl rfl ?_
    refine x_aload_n i_65_5 rfl rfl ?_
    refine x_geti (v := M 24 1) i_65_6 f_65_13 g_24 rfl (pm_get_j (by decide) rfl) rfl ?_
    refine x_icmp (C := a1 < M 24 1) i_65_9 rfl Iff.rfl rfl ⟨fun c2 => ?_, fun c2 => ?_⟩
    · replace h := h.1 c2
      refine x_iconst i_65_16 (by decide) rfl ?_
      refine x_iretz i_65_17 r_65 (by unfold pm_bit; decide) ?_
      refine x_bki rfl ?_
      refine x_callv (as := [.inl 1, .inl 0]) (rest := []) i_68_12 k_68_51 rfl rfl rfl g_24 (Nat.le_of_ble_eq_true rfl) m_64 rfl ?_
      refine x_iload_n i_64_0 rfl rfl ?_
      refine x_ifT i_64_1 rfl (by unfold pm_cmp; decide) ?_
      refine x_iload_n i_64_9 rfl rfl ?_
      refine x_iretz i_64_10 r_64 (by unfold pm_bit; decide) ?_
      refine x_bki rfl ?_
      refine x_ifF i_68_15 rfl (by unfold pm_cmp; decide) rfl ?_
      refine x_aload_n i_68_18 rfl rfl ?_
      refine x_iconst i_68_19 (by decide) rfl ?_
      refine x_aload_n i_68_20 rfl rfl ?_
      refine x_geti (v := M 24 1) i_68_21 f_68_13 g_24 rfl (pm_get_j (by decide) rfl) rfl ?_
      refine x_sipush i_68_24 (by decide) rfl ?_
      refine x_icmp (C := ¬ M 24 1 = 2000) i_68_27 rfl Iff.rfl rfl ⟨fun c3 => ?_, fun c3 => ?_⟩
      · replace h := h.1 c3
        refine x_iconst i_68_34 (by decide) rfl ?_
        refine x_callv (as := [.inl 2, .inl 0]) (rest := []) i_68_35 k_68_51 rfl rfl rfl g_24 (Nat.le_of_ble_eq_true rfl) m_64 rfl ?_
        refine x_iload_n i_64_0 rfl rfl ?_
        refine x_ifT i_64_1 rfl (by unfold pm_cmp; decide) ?_
        refine x_iload_n i_64_9 rfl rfl ?_
        refine x_iretz i_64_10 r_64 (by unfold pm_bit; decide) ?_
        refine x_bki rfl ?_
        refine x_ifT i_68_38 rfl (by unfold pm_cmp; decide) ?_
        refine x_aload_n i_68_43 rfl rfl ?_
        refine x_iconst i_68_44 (by decide) rfl ?_
        refine x_iload_n i_68_45 rfl rfl ?_
        refine x_iconst i_68_46 (by decide) rfl ?_
        refine x_iconst i_68_47 (by decide) rfl ?_
        refine x_callv (as := [.inl 2, .inl a1, .inl 0, .inl 0]) (rest := []) i_68_48 k_68_55 rfl rfl rfl g_24 (Nat.le_of_ble_eq_true rfl) m_66 rfl ?_
        refine x_aload_n i_66_0 rfl rfl ?_
        refine x_getr i_66_1 f_66_22 g_24 rfl rfl ?_
        refine x_aload_n i_66_4 rfl rfl ?_
        refine x_geti (v := M 24 1) i_66_5 f_66_13 g_24 rfl (pm_get_j (by decide) rfl) rfl ?_
        refine x_iload_n i_66_8 rfl rfl ?_
        obtain ⟨q4, h⟩ := h
        refine x_iastore i_66_9 g_25 rfl q4 ?_
        refine x_aload_n i_66_10 rfl rfl ?_
        refine x_getr i_66_11 f_66_26 g_24 rfl rfl ?_
        refine x_aload_n i_66_14 rfl rfl ?_
        refine x_geti (v := M 24 1) i_66_15 f_66_13 g_24 rfl (pm_get_c (by decide) (pm_get_j (by decide) rfl)) rfl ?_
        refine x_iload_n i_66_18 rfl rfl ?_
        refine x_iastore i_66_19 g_26 rfl q4 ?_
        refine x_aload_n i_66_20 rfl rfl ?_
        refine x_getr i_66_21 f_66_29 g_24 rfl rfl ?_
        refine x_aload_n i_66_24 rfl rfl ?_
        refine x_geti (v := M 24 1) i_66_25 f_66_13 g_24 rfl (pm_get_c (by decide) (pm_get_c (by decide) (pm_get_j (by decide) rfl))) rfl ?_
        refine x_iload_n i_66_28 rfl rfl ?_
        refine x_iastore i_66_29 g_27 rfl q4 ?_
        refine x_aload_n i_66_30 rfl rfl ?_
        refine x_getr i_66_31 f_66_32 g_24 rfl rfl ?_
        refine x_aload_n i_66_34 rfl rfl ?_
        refine x_geti (v := M 24 1) i_66_35 f_66_13 g_24 rfl (pm_get_c (by decide) (pm_get_c (by decide) (pm_get_c (by decide) (pm_get_j (by decide) rfl)))) rfl ?_
        refine x_iload i_66_38 rfl rfl ?_
        refine x_iastore i_66_40 g_28 rfl q4 ?_
        refine x_aload_n i_66_41 rfl rfl ?_
        refine x_dup i_66_42 rfl rfl ?_
        refine x_geti (v := M 24 1) i_66_43 f_66_13 g_24 rfl (pm_get_c (by decide) (pm_get_c (by decide) (pm_get_c (by decide) (pm_get_c (by decide) (pm_get_j (by decide) rfl))))) rfl ?_
        refine x_dup_x1 i_66_46 rfl rfl rfl ?_
        refine x_iconst i_66_47 (by decide) rfl ?_
        obtain ⟨q5, h⟩ := h
        refine x_iadd i_66_48 rfl q5 ?_
        refine x_puti i_66_49 f_66_13 g_24 rfl rfl ?_
        refine x_ireti i_66_52 r_66 ?_
        refine x_bki rfl ?_
        exact x_ireti i_68_51 r_68 h
      · replace h := h.2 c3
        refine x_iconst i_68_30 (by decide) rfl ?_
        refine x_goto i_68_31 rfl ?_
        refine x_callv (as := [.inl 2, .inl 1]) (rest := []) i_68_35 k_68_51 rfl rfl rfl g_24 (Nat.le_of_ble_eq_true rfl) m_64 rfl ?_
        refine x_iload_n i_64_0 rfl rfl ?_
        refine x_ifF i_64_1 rfl (by unfold pm_cmp; decide) rfl ?_
        refine x_aload_n i_64_4 rfl rfl ?_
        refine x_iload_n i_64_5 rfl rfl ?_
        refine x_puti i_64_6 f_64_7 g_24 rfl rfl ?_
        refine x_iload_n i_64_9 rfl rfl ?_
        refine x_iretz i_64_10 r_64 (by unfold pm_bit; decide) ?_
        refine x_bki rfl ?_
        refine x_ifF i_68_38 rfl (by unfold pm_cmp; decide) rfl ?_
        refine x_iconst i_68_41 (by decide) rfl ?_
        exact x_ireti i_68_42 r_68 h
    · replace h := h.2 c2
      refine x_iconst i_65_12 (by decide) rfl ?_
      refine x_goto i_65_13 rfl ?_
      refine x_iretz i_65_17 r_65 (by unfold pm_bit; decide) ?_
      refine x_bki rfl ?_
      refine x_callv (as := [.inl 1, .inl 1]) (rest := []) i_68_12 k_68_51 rfl rfl rfl g_24 (Nat.le_of_ble_eq_true rfl) m_64 rfl ?_
      refine x_iload_n i_64_0 rfl rfl ?_
      refine x_ifF i_64_1 rfl (by unfold pm_cmp; decide) rfl ?_
      refine x_aload_n i_64_4 rfl rfl ?_
      refine x_iload_n i_64_5 rfl rfl ?_
      refine x_puti i_64_6 f_64_7 g_24 rfl rfl ?_
      refine x_iload_n i_64_9 rfl rfl ?_
      refine x_iretz i_64_10 r_64 (by unfold pm_bit; decide) ?_
      refine x_bki rfl ?_
      refine x_ifT i_68_15 rfl (by unfold pm_cmp; decide) ?_
      refine x_iconst i_68_41 (by decide) rfl ?_
      exact x_ireti i_68_42 r_68 h
/-! GateBenchModel.join at 0 -/
theorem s_69_0 {L : Nat} {M : pm_M} {Q : pm_P} {a1 a2 a3 : Int}
    (h : ((a2 < 0 → Q (.inl (some (.inl 0))) (pm_set (pm_set M 24 0 0) 24 0 1)) ∧ (¬ (a2 < 0) → ((a2 < M 24 1 → ((a3 < 0 → Q (.inl (some (.inl 0))) (pm_set (pm_set M 24 0 0) 24 0 1)) ∧ (¬ (a3 < 0) → ((a3 < M 24 1 → ((a1 < 0 → Q (.inl (some (.inl 0))) (pm_set (pm_set M 24 0 0) 24 0 2)) ∧ (¬ (a1 < 0) → ((a1 ≤ 2 → ((¬ M 24 1 = 2000 → (pm_R (3 + a1)) ∧ (0 ≤ M 24 1 ∧ M 24 1 < 2000) ∧ (pm_R (M 24 1 + 1)) ∧ Q (.inl (some (.inl (M 24 1)))) (pm_set (pm_set (pm_set (pm_set (pm_set (pm_set M 24 0 0) 25 (M 24 1) (3 + a1)) 26 (M 24 1) a2) 27 (M 24 1) a3) 28 (M 24 1) 0) 24 1 (M 24 1 + 1))) ∧ (¬ (¬ M 24 1 = 2000) → Q (.inl (some (.inl 0))) (pm_set (pm_set M 24 0 0) 24 0 3)))) ∧ (¬ (a1 ≤ 2) → Q (.inl (some (.inl 0))) (pm_set (pm_set M 24 0 0) 24 0 2)))))) ∧ (¬ (a3 < M 24 1) → Q (.inl (some (.inl 0))) (pm_set (pm_set M 24 0 0) 24 0 1)))))) ∧ (¬ (a2 < M 24 1) → Q (.inl (some (.inl 0))) (pm_set (pm_set M 24 0 0) 24 0 1)))))) :
    pm_X L (69, 0, [some (.inr (.inl 24)), some (.inl a1), some (.inl a2), some (.inl a3)], [], M) Q := by
  refine x_aload_n i_69_0 rfl rfl ?_
  refine x_iconst i_69_1 (by decide) rfl ?_
  refine x_puti i_69_2 f_69_7 g_24 rfl rfl ?_
  refine x_aload_n i_69_5 rfl rfl ?_
  refine x_iconst i_69_6 (by decide) rfl ?_
  refine x_aload_n i_69_7 rfl rfl ?_
  refine x_iload_n i_69_8 rfl rfl ?_
  refine x_callv (as := [.inl a2]) (rest := [.inl 1, .inr (.inl 24)]) i_69_9 k_69_59 rfl rfl rfl g_24 (Nat.le_of_ble_eq_true rfl) m_65 rfl ?_
  refine x_iload_n i_65_0 rfl rfl ?_
  refine x_if (C := a2 < 0) i_65_1 rfl Iff.rfl rfl ⟨fun c1 => ?_, fun c1 => ?_⟩
  · replace h := h.1 c1
    refine x_iconst i_65_12 (by decide) rfl ?_
    refine x_goto i_65_13 rfl ?_
    refine x_iretz i_65_17 r_65 (by unfold pm_bit; decide) ?_
    refine x_bki rfl ?_
    refine x_ifT i_69_12 rfl (by unfold pm_cmp; decide) ?_
    refine x_iconst i_69_23 (by decide) rfl ?_
    refine x_goto i_69_24 rfl ?_
    refine x_callv (as := [.inl 1, .inl 1]) (rest := []) i_69_28 k_69_51 rfl rfl rfl g_24 (Nat.le_of_ble_eq_true rfl) m_64 rfl ?_
    refine x_iload_n i_64_0 rfl rfl ?_
    refine x_ifF i_64_1 rfl (by unfold pm_cmp; decide) rfl ?_
    refine x_aload_n i_64_4 rfl rfl ?_
    refine x_iload_n i_64_5 rfl rfl ?_
    refine x_puti i_64_6 f_64_7 g_24 rfl rfl ?_
    refine x_iload_n i_64_9 rfl rfl ?_
    refine x_iretz i_64_10 r_64 (by unfold pm_bit; decide) ?_
    refine x_bki rfl ?_
    refine x_ifT i_69_31 rfl (by unfold pm_cmp; decide) ?_
    refine x_iconst i_69_79 (by decide) rfl ?_
    exact x_ireti i_69_80 r_69 h
  · replace h := h.2 c1
    refine x_iload_n i_65_4 rfl rfl ?_
    refine x_aload_n i_65_5 rfl rfl ?_
    refine x_geti (v := M 24 1) i_65_6 f_65_13 g_24 rfl (pm_get_j (by decide) rfl) rfl ?_
    refine x_icmp (C := a2 < M 24 1) i_65_9 rfl Iff.rfl rfl ⟨fun c2 => ?_, fun c2 => ?_⟩
    · replace h := h.1 c2
      refine x_iconst i_65_16 (by decide) rfl ?_
      refine x_iretz i_65_17 r_65 (by unfold pm_bit; decide) ?_
      refine x_bki rfl ?_
      refine x_ifF i_69_12 rfl (by unfold pm_cmp; decide) rfl ?_
      refine x_aload_n i_69_15 rfl rfl ?_
      refine x_iload_n i_69_16 rfl rfl ?_
      refine x_callv (as := [.inl a3]) (rest := [.inl 1, .inr (.inl 24)]) i_69_17 k_69_59 rfl rfl rfl g_24 (Nat.le_of_ble_eq_true rfl) m_65 rfl ?_
      refine x_iload_n i_65_0 rfl rfl ?_
      refine x_if (C := a3 < 0) i_65_1 rfl Iff.rfl rfl ⟨fun c3 => ?_, fun c3 => ?_⟩
      · replace h := h.1 c3
        refine x_iconst i_65_12 (by decide) rfl ?_
        refine x_goto i_65_13 rfl ?_
        refine x_iretz i_65_17 r_65 (by unfold pm_bit; decide) ?_
        refine x_bki rfl ?_
        refine x_ifF i_69_20 rfl (by unfold pm_cmp; decide) rfl ?_
        refine x_iconst i_69_23 (by decide) rfl ?_
        refine x_goto i_69_24 rfl ?_
        refine x_callv (as := [.inl 1, .inl 1]) (rest := []) i_69_28 k_69_51 rfl rfl rfl g_24 (Nat.le_of_ble_eq_true rfl) m_64 rfl ?_
        refine x_iload_n i_64_0 rfl rfl ?_
        refine x_ifF i_64_1 rfl (by unfold pm_cmp; decide) rfl ?_
        refine x_aload_n i_64_4 rfl rfl ?_
        refine x_iload_n i_64_5 rfl rfl ?_
        refine x_puti i_64_6 f_64_7 g_24 rfl rfl ?_
        refine x_iload_n i_64_9 rfl rfl ?_
        refine x_iretz i_64_10 r_64 (by unfold pm_bit; decide) ?_
        refine x_bki rfl ?_
        refine x_ifT i_69_31 rfl (by unfold pm_cmp; decide) ?_
        refine x_iconst i_69_79 (by decide) rfl ?_
        exact x_ireti i_69_80 r_69 h
      · replace h := h.2 c3
        refine x_iload_n i_65_4 rfl rfl ?_
        refine x_aload_n i_65_5 rfl rfl ?_
        refine x_geti (v := M 24 1) i_65_6 f_65_13 g_24 rfl (pm_get_j (by decide) rfl) rfl ?_
        refine x_icmp (C := a3 < M 24 1) i_65_9 rfl Iff.rfl rfl ⟨fun c4 => ?_, fun c4 => ?_⟩
        · replace h := h.1 c4
          refine x_iconst i_65_16 (by decide) rfl ?_
          refine x_iretz i_65_17 r_65 (by unfold pm_bit; decide) ?_
          refine x_bki rfl ?_
          refine x_ifT i_69_20 rfl (by unfold pm_cmp; decide) ?_
          refine x_iconst i_69_27 (by decide) rfl ?_
          refine x_callv (as := [.inl 1, .inl 0]) (rest := []) i_69_28 k_69_51 rfl rfl rfl g_24 (Nat.le_of_ble_eq_true rfl) m_64 rfl ?_
          refine x_iload_n i_64_0 rfl rfl ?_
          refine x_ifT i_64_1 rfl (by unfold pm_cmp; decide) ?_
          refine x_iload_n i_64_9 rfl rfl ?_
          refine x_iretz i_64_10 r_64 (by unfold pm_bit; decide) ?_
          refine x_bki rfl ?_
          refine x_ifF i_69_31 rfl (by unfold pm_cmp; decide) rfl ?_
          refine x_aload_n i_69_34 rfl rfl ?_
          refine x_iconst i_69_35 (by decide) rfl ?_
          refine x_iload_n i_69_36 rfl rfl ?_
          refine x_if (C := a1 < 0) i_69_37 rfl Iff.rfl rfl ⟨fun c5 => ?_, fun c5 => ?_⟩
          · replace h := h.1 c5
            refine x_iconst i_69_45 (by decide) rfl ?_
            refine x_goto i_69_46 rfl ?_
            refine x_callv (as := [.inl 2, .inl 1]) (rest := []) i_69_50 k_69_51 rfl rfl rfl g_24 (Nat.le_of_ble_eq_true rfl) m_64 rfl ?_
            refine x_iload_n i_64_0 rfl rfl ?_
            refine x_ifF i_64_1 rfl (by unfold pm_cmp; decide) rfl ?_
            refine x_aload_n i_64_4 rfl rfl ?_
            refine x_iload_n i_64_5 rfl rfl ?_
            refine x_puti i_64_6 f_64_7 g_24 rfl rfl ?_
            refine x_iload_n i_64_9 rfl rfl ?_
            refine x_iretz i_64_10 r_64 (by unfold pm_bit; decide) ?_
            refine x_bki rfl ?_
            refine x_ifT i_69_53 rfl (by unfold pm_cmp; decide) ?_
            refine x_iconst i_69_79 (by decide) rfl ?_
            exact x_ireti i_69_80 r_69 h
          · replace h := h.2 c5
            refine x_iload_n i_69_40 rfl rfl ?_
            refine x_iconst i_69_41 (by decide) rfl ?_
            refine x_icmp (C := a1 ≤ 2) i_69_42 rfl Iff.rfl rfl ⟨fun c6 => ?_, fun c6 => ?_⟩
            · replace h := h.1 c6
              refine x_iconst i_69_49 (by decide) rfl ?_
              refine x_callv (as := [.inl 2, .inl 0]) (rest := []) i_69_50 k_69_51 rfl rfl rfl g_24 (Nat.le_of_ble_eq_true rfl) m_64 rfl ?_
              refine x_iload_n i_64_0 rfl rfl ?_
              refine x_ifT i_64_1 rfl (by unfold pm_cmp; decide) ?_
              refine x_iload_n i_64_9 rfl rfl ?_
              refine x_iretz i_64_10 r_64 (by unfold pm_bit; decide) ?_
              refine x_bki rfl ?_
              refine x_ifF i_69_53 rfl (by unfold pm_cmp; decide) rfl ?_
              refine x_aload_n i_69_56 rfl rfl ?_
              refine x_iconst i_69_57 (by decide) rfl ?_
              refine x_aload_n i_69_58 rfl rfl ?_
              refine x_geti (v := M 24 1) i_69_59 f_69_13 g_24 rfl (pm_get_j (by decide) rfl) rfl ?_
              refine x_sipush i_69_62 (by decide) rfl ?_
              refine x_icmp (C := ¬ M 24 1 = 2000) i_69_65 rfl Iff.rfl rfl ⟨fun c7 => ?_, fun c7 => ?_⟩
              · replace h := h.1 c7
                refine x_iconst i_69_72 (by decide) rfl ?_
                refine x_callv (as := [.inl 3, .inl 0]) (rest := []) i_69_73 k_69_51 rfl rfl rfl g_24 (Nat.le_of_ble_eq_true rfl) m_64 rfl ?_
                refine x_iload_n i_64_0 rfl rfl ?_
                refine x_ifT i_64_1 rfl (by unfold pm_cmp; decide) ?_
                refine x_iload_n i_64_9 rfl rfl ?_
                refine x_iretz i_64_10 r_64 (by unfold pm_bit; decide) ?_
                refine x_bki rfl ?_
                refine x_ifT i_69_76 rfl (by unfold pm_cmp; decide) ?_
                refine x_aload_n i_69_81 rfl rfl ?_
                refine x_iconst i_69_82 (by decide) rfl ?_
                refine x_iload_n i_69_83 rfl rfl ?_
                obtain ⟨q8, h⟩ := h
                refine x_iadd i_69_84 rfl q8 ?_
                refine x_iload_n i_69_85 rfl rfl ?_
                refine x_iload_n i_69_86 rfl rfl ?_
                refine x_iconst i_69_87 (by decide) rfl ?_
                refine x_callv (as := [.inl (3 + a1), .inl a2, .inl a3, .inl 0]) (rest := []) i_69_88 k_69_55 rfl rfl rfl g_24 (Nat.le_of_ble_eq_true rfl) m_66 rfl ?_
                refine x_aload_n i_66_0 rfl rfl ?_
                refine x_getr i_66_1 f_66_22 g_24 rfl rfl ?_
                refine x_aload_n i_66_4 rfl rfl ?_
                refine x_geti (v := M 24 1) i_66_5 f_66_13 g_24 rfl (pm_get_j (by decide) rfl) rfl ?_
                refine x_iload_n i_66_8 rfl rfl ?_
                obtain ⟨q9, h⟩ := h
                refine x_iastore i_66_9 g_25 rfl q9 ?_
                refine x_aload_n i_66_10 rfl rfl ?_
                refine x_getr i_66_11 f_66_26 g_24 rfl rfl ?_
                refine x_aload_n i_66_14 rfl rfl ?_
                refine x_geti (v := M 24 1) i_66_15 f_66_13 g_24 rfl (pm_get_c (by decide) (pm_get_j (by decide) rfl)) rfl ?_
                refine x_iload_n i_66_18 rfl rfl ?_
                refine x_iastore i_66_19 g_26 rfl q9 ?_
                refine x_aload_n i_66_20 rfl rfl ?_
                refine x_getr i_66_21 f_66_29 g_24 rfl rfl ?_
                refine x_aload_n i_66_24 rfl rfl ?_
                refine x_geti (v := M 24 1) i_66_25 f_66_13 g_24 rfl (pm_get_c (by decide) (pm_get_c (by decide) (pm_get_j (by decide) rfl))) rfl ?_
                refine x_iload_n i_66_28 rfl rfl ?_
                refine x_iastore i_66_29 g_27 rfl q9 ?_
                refine x_aload_n i_66_30 rfl rfl ?_
                refine x_getr i_66_31 f_66_32 g_24 rfl rfl ?_
                refine x_aload_n i_66_34 rfl rfl ?_
                refine x_geti (v := M 24 1) i_66_35 f_66_13 g_24 rfl (pm_get_c (by decide) (pm_get_c (by decide) (pm_get_c (by decide) (pm_get_j (by decide) rfl)))) rfl ?_
                refine x_iload i_66_38 rfl rfl ?_
                refine x_iastore i_66_40 g_28 rfl q9 ?_
                refine x_aload_n i_66_41 rfl rfl ?_
                refine x_dup i_66_42 rfl rfl ?_
                refine x_geti (v := M 24 1) i_66_43 f_66_13 g_24 rfl (pm_get_c (by decide) (pm_get_c (by decide) (pm_get_c (by decide) (pm_get_c (by decide) (pm_get_j (by decide) rfl))))) rfl ?_
                refine x_dup_x1 i_66_46 rfl rfl rfl ?_
                refine x_iconst i_66_47 (by decide) rfl ?_
                obtain ⟨q10, h⟩ := h
                refine x_iadd i_66_48 rfl q10 ?_
                refine x_puti i_66_49 f_66_13 g_24 rfl rfl ?_
                refine x_ireti i_66_52 r_66 ?_
                refine x_bki rfl ?_
                exact x_ireti i_69_91 r_69 h
              · replace h := h.2 c7
                refine x_iconst i_69_68 (by decide) rfl ?_
                refine x_goto i_69_69 rfl ?_
                refine x_callv (as := [.inl 3, .inl 1]) (rest := []) i_69_73 k_69_51 rfl rfl rfl g_24 (Nat.le_of_ble_eq_true rfl) m_64 rfl ?_
                refine x_iload_n i_64_0 rfl rfl ?_
                refine x_ifF i_64_1 rfl (by unfold pm_cmp; decide) rfl ?_
                refine x_aload_n i_64_4 rfl rfl ?_
                refine x_iload_n i_64_5 rfl rfl ?_
                refine x_puti i_64_6 f_64_7 g_24 rfl rfl ?_
                refine x_iload_n i_64_9 rfl rfl ?_
                refine x_iretz i_64_10 r_64 (by unfold pm_bit; decide) ?_
                refine x_bki rfl ?_
                refine x_ifF i_69_76 rfl (by unfold pm_cmp; decide) rfl ?_
                refine x_iconst i_69_79 (by decide) rfl ?_
                exact x_ireti i_69_80 r_69 h
            · replace h := h.2 c6
              refine x_iconst i_69_45 (by decide) rfl ?_
              refine x_goto i_69_46 rfl ?_
              refine x_callv (as := [.inl 2, .inl 1]) (rest := []) i_69_50 k_69_51 rfl rfl rfl g_24 (Nat.le_of_ble_eq_true rfl) m_64 rfl ?_
              refine x_iload_n i_64_0 rfl rfl ?_
              refine x_ifF i_64_1 rfl (by unfold pm_cmp; decide) rfl ?_
              refine x_aload_n i_64_4 rfl rfl ?_
              refine x_iload_n i_64_5 rfl rfl ?_
              refine x_puti i_64_6 f_64_7 g_24 rfl rfl ?_
              refine x_iload_n i_64_9 rfl rfl ?_
              refine x_iretz i_64_10 r_64 (by unfold pm_bit; decide) ?_
              refine x_bki rfl ?_
              refine x_ifT i_69_53 rfl (by unfold pm_cmp; decide) ?_
              refine x_iconst i_69_79 (by decide) rfl ?_
              exact x_ireti i_69_80 r_69 h
        · replace h := h.2 c4
          refine x_iconst i_65_12 (by decide) rfl ?_
          refine x_goto i_65_13 rfl ?_
          refine x_iretz i_65_17 r_65 (by unfold pm_bit; decide) ?_
          refine x_bki rfl ?_
          refine x_ifF i_69_20 rfl (by unfold pm_cmp; decide) rfl ?_
          refine x_iconst i_69_23 (by decide) rfl ?_
          refine x_goto i_69_24 rfl ?_
          refine x_callv (as := [.inl 1, .inl 1]) (rest := []) i_69_28 k_69_51 rfl rfl rfl g_24 (Nat.le_of_ble_eq_true rfl) m_64 rfl ?_
          refine x_iload_n i_64_0 rfl rfl ?_
          refine x_ifF i_64_1 rfl (by unfold pm_cmp; decide) rfl ?_
          refine x_aload_n i_64_4 rfl rfl ?_
          refine x_iload_n i_64_5 rfl rfl ?_
          refine x_puti i_64_6 f_64_7 g_24 rfl rfl ?_
          refine x_iload_n i_64_9 rfl rfl ?_
          refine x_iretz i_64_10 r_64 (by unfold pm_bit; decide) ?_
          refine x_bki rfl ?_
          refine x_ifT i_69_31 rfl (by unfold pm_cmp; decide) ?_
          refine x_iconst i_69_79 (by decide) rfl ?_
          exact x_ireti i_69_80 r_69 h
    · replace h := h.2 c2
      refine x_iconst i_65_12 (by decide) rfl ?_
      refine x_goto i_65_13 rfl ?_
      refine x_iretz i_65_17 r_65 (by unfold pm_bit; decide) ?_
      refine x_bki rfl ?_
      refine x_ifT i_69_12 rfl (by unfold pm_cmp; decide) ?_
      refine x_iconst i_69_23 (by decide) rfl ?_
      refine x_goto i_69_24 rfl ?_
      refine x_callv (as := [.inl 1, .inl 1]) (rest := []) i_69_28 k_69_51 rfl rfl rfl g_24 (Nat.le_of_ble_eq_true rfl) m_64 rfl ?_
      refine x_iload_n i_64_0 rfl rfl ?_
      refine x_ifF i_64_1 rfl (by unfold pm_cmp; decide) rfl ?_
      refine x_aload_n i_64_4 rfl rfl ?_
      refine x_iload_n i_64_5 rfl rfl ?_
      refine x_puti i_64_6 f_64_7 g_24 rfl rfl ?_
      refine x_iload_n i_64_9 rfl rfl ?_
      refine x_iretz i_64_10 r_64 (by unfold pm_bit; decide) ?_
      refine x_bki rfl ?_
      refine x_ifT i_69_31 rfl (by unfold pm_cmp; decide) ?_
      refine x_iconst i_69_79 (by decide) rfl ?_
      exact x_ireti i_69_80 r_69 h
/-! GateBenchModel.choose at 0 -/
theorem s_70_0 {L : Nat} {M : pm_M} {Q : pm_P} {a1 a2 a3 : Int}
    (h : ((a1 < 0 → Q (.inl (some (.inl 0))) (pm_set (pm_set M 24 0 0) 24 0 1)) ∧ (¬ (a1 < 0) → ((a1 < M 24 1 → ((a2 < 0 → Q (.inl (some (.inl 0))) (pm_set (pm_set M 24 0 0) 24 0 1)) ∧ (¬ (a2 < 0) → ((a2 < M 24 1 → ((a3 < 0 → Q (.inl (some (.inl 0))) (pm_set (pm_set M 24 0 0) 24 0 1)) ∧ (¬ (a3 < 0) → ((a3 < M 24 1 → ((¬ M 24 1 = 2000 → (0 ≤ M 24 1 ∧ M 24 1 < 2000) ∧ (pm_R (M 24 1 + 1)) ∧ Q (.inl (some (.inl (M 24 1)))) (pm_set (pm_set (pm_set (pm_set (pm_set (pm_set M 24 0 0) 25 (M 24 1) 6) 26 (M 24 1) a1) 27 (M 24 1) a2) 28 (M 24 1) a3) 24 1 (M 24 1 + 1))) ∧ (¬ (¬ M 24 1 = 2000) → Q (.inl (some (.inl 0))) (pm_set (pm_set M 24 0 0) 24 0 2)))) ∧ (¬ (a3 < M 24 1) → Q (.inl (some (.inl 0))) (pm_set (pm_set M 24 0 0) 24 0 1)))))) ∧ (¬ (a2 < M 24 1) → Q (.inl (some (.inl 0))) (pm_set (pm_set M 24 0 0) 24 0 1)))))) ∧ (¬ (a1 < M 24 1) → Q (.inl (some (.inl 0))) (pm_set (pm_set M 24 0 0) 24 0 1)))))) :
    pm_X L (70, 0, [some (.inr (.inl 24)), some (.inl a1), some (.inl a2), some (.inl a3)], [], M) Q := by
  refine x_aload_n i_70_0 rfl rfl ?_
  refine x_iconst i_70_1 (by decide) rfl ?_
  refine x_puti i_70_2 f_70_7 g_24 rfl rfl ?_
  refine x_aload_n i_70_5 rfl rfl ?_
  refine x_iconst i_70_6 (by decide) rfl ?_
  refine x_aload_n i_70_7 rfl rfl ?_
  refine x_iload_n i_70_8 rfl rfl ?_
  refine x_callv (as := [.inl a1]) (rest := [.inl 1, .inr (.inl 24)]) i_70_9 k_70_59 rfl rfl rfl g_24 (Nat.le_of_ble_eq_true rfl) m_65 rfl ?_
  refine x_iload_n i_65_0 rfl rfl ?_
  refine x_if (C := a1 < 0) i_65_1 rfl Iff.rfl rfl ⟨fun c1 => ?_, fun c1 => ?_⟩
  · replace h := h.1 c1
    refine x_iconst i_65_12 (by decide) rfl ?_
    refine x_goto i_65_13 rfl ?_
    refine x_iretz i_65_17 r_65 (by unfold pm_bit; decide) ?_
    refine x_bki rfl ?_
    refine x_ifT i_70_12 rfl (by unfold pm_cmp; decide) ?_
    refine x_iconst i_70_31 (by decide) rfl ?_
    refine x_goto i_70_32 rfl ?_
    refine x_callv (as := [.inl 1, .inl 1]) (rest := []) i_70_36 k_70_51 rfl rfl rfl g_24 (Nat.le_of_ble_eq_true rfl) m_64 rfl ?_
    refine x_iload_n i_64_0 rfl rfl ?_
    refine x_ifF i_64_1 rfl (by unfold pm_cmp; decide) rfl ?_
    refine x_aload_n i_64_4 rfl rfl ?_
    refine x_iload_n i_64_5 rfl rfl ?_
    refine x_puti i_64_6 f_64_7 g_24 rfl rfl ?_
    refine x_iload_n i_64_9 rfl rfl ?_
    refine x_iretz i_64_10 r_64 (by unfold pm_bit; decide) ?_
    refine x_bki rfl ?_
    refine x_ifT i_70_39 rfl (by unfold pm_cmp; decide) ?_
    refine x_iconst i_70_65 (by decide) rfl ?_
    exact x_ireti i_70_66 r_70 h
  · replace h := h.2 c1
    refine x_iload_n i_65_4 rfl rfl ?_
    refine x_aload_n i_65_5 rfl rfl ?_
    refine x_geti (v := M 24 1) i_65_6 f_65_13 g_24 rfl (pm_get_j (by decide) rfl) rfl ?_
    refine x_icmp (C := a1 < M 24 1) i_65_9 rfl Iff.rfl rfl ⟨fun c2 => ?_, fun c2 => ?_⟩
    · replace h := h.1 c2
      refine x_iconst i_65_16 (by decide) rfl ?_
      refine x_iretz i_65_17 r_65 (by unfold pm_bit; decide) ?_
      refine x_bki rfl ?_
      refine x_ifF i_70_12 rfl (by unfold pm_cmp; decide) rfl ?_
      refine x_aload_n i_70_15 rfl rfl ?_
      refine x_iload_n i_70_16 rfl rfl ?_
      refine x_callv (as := [.inl a2]) (rest := [.inl 1, .inr (.inl 24)]) i_70_17 k_70_59 rfl rfl rfl g_24 (Nat.le_of_ble_eq_true rfl) m_65 rfl ?_
      refine x_iload_n i_65_0 rfl rfl ?_
      refine x_if (C := a2 < 0) i_65_1 rfl Iff.rfl rfl ⟨fun c3 => ?_, fun c3 => ?_⟩
      · replace h := h.1 c3
        refine x_iconst i_65_12 (by decide) rfl ?_
        refine x_goto i_65_13 rfl ?_
        refine x_iretz i_65_17 r_65 (by unfold pm_bit; decide) ?_
        refine x_bki rfl ?_
        refine x_ifT i_70_20 rfl (by unfold pm_cmp; decide) ?_
        refine x_iconst i_70_31 (by decide) rfl ?_
        refine x_goto i_70_32 rfl ?_
        refine x_callv (as := [.inl 1, .inl 1]) (rest := []) i_70_36 k_70_51 rfl rfl rfl g_24 (Nat.le_of_ble_eq_true rfl) m_64 rfl ?_
        refine x_iload_n i_64_0 rfl rfl ?_
        refine x_ifF i_64_1 rfl (by unfold pm_cmp; decide) rfl ?_
        refine x_aload_n i_64_4 rfl rfl ?_
        refine x_iload_n i_64_5 rfl rfl ?_
        refine x_puti i_64_6 f_64_7 g_24 rfl rfl ?_
        refine x_iload_n i_64_9 rfl rfl ?_
        refine x_iretz i_64_10 r_64 (by unfold pm_bit; decide) ?_
        refine x_bki rfl ?_
        refine x_ifT i_70_39 rfl (by unfold pm_cmp; decide) ?_
        refine x_iconst i_70_65 (by decide) rfl ?_
        exact x_ireti i_70_66 r_70 h
      · replace h := h.2 c3
        refine x_iload_n i_65_4 rfl rfl ?_
        refine x_aload_n i_65_5 rfl rfl ?_
        refine x_geti (v := M 24 1) i_65_6 f_65_13 g_24 rfl (pm_get_j (by decide) rfl) rfl ?_
        refine x_icmp (C := a2 < M 24 1) i_65_9 rfl Iff.rfl rfl ⟨fun c4 => ?_, fun c4 => ?_⟩
        · replace h := h.1 c4
          refine x_iconst i_65_16 (by decide) rfl ?_
          refine x_iretz i_65_17 r_65 (by unfold pm_bit; decide) ?_
          refine x_bki rfl ?_
          refine x_ifF i_70_20 rfl (by unfold pm_cmp; decide) rfl ?_
          refine x_aload_n i_70_23 rfl rfl ?_
          refine x_iload_n i_70_24 rfl rfl ?_
          refine x_callv (as := [.inl a3]) (rest := [.inl 1, .inr (.inl 24)]) i_70_25 k_70_59 rfl rfl rfl g_24 (Nat.le_of_ble_eq_true rfl) m_65 rfl ?_
          refine x_iload_n i_65_0 rfl rfl ?_
          refine x_if (C := a3 < 0) i_65_1 rfl Iff.rfl rfl ⟨fun c5 => ?_, fun c5 => ?_⟩
          · replace h := h.1 c5
            refine x_iconst i_65_12 (by decide) rfl ?_
            refine x_goto i_65_13 rfl ?_
            refine x_iretz i_65_17 r_65 (by unfold pm_bit; decide) ?_
            refine x_bki rfl ?_
            refine x_ifF i_70_28 rfl (by unfold pm_cmp; decide) rfl ?_
            refine x_iconst i_70_31 (by decide) rfl ?_
            refine x_goto i_70_32 rfl ?_
            refine x_callv (as := [.inl 1, .inl 1]) (rest := []) i_70_36 k_70_51 rfl rfl rfl g_24 (Nat.le_of_ble_eq_true rfl) m_64 rfl ?_
            refine x_iload_n i_64_0 rfl rfl ?_
            refine x_ifF i_64_1 rfl (by unfold pm_cmp; decide) rfl ?_
            refine x_aload_n i_64_4 rfl rfl ?_
            refine x_iload_n i_64_5 rfl rfl ?_
            refine x_puti i_64_6 f_64_7 g_24 rfl rfl ?_
            refine x_iload_n i_64_9 rfl rfl ?_
            refine x_iretz i_64_10 r_64 (by unfold pm_bit; decide) ?_
            refine x_bki rfl ?_
            refine x_ifT i_70_39 rfl (by unfold pm_cmp; decide) ?_
            refine x_iconst i_70_65 (by decide) rfl ?_
            exact x_ireti i_70_66 r_70 h
          · replace h := h.2 c5
            refine x_iload_n i_65_4 rfl rfl ?_
            refine x_aload_n i_65_5 rfl rfl ?_
            refine x_geti (v := M 24 1) i_65_6 f_65_13 g_24 rfl (pm_get_j (by decide) rfl) rfl ?_
            refine x_icmp (C := a3 < M 24 1) i_65_9 rfl Iff.rfl rfl ⟨fun c6 => ?_, fun c6 => ?_⟩
            · replace h := h.1 c6
              refine x_iconst i_65_16 (by decide) rfl ?_
              refine x_iretz i_65_17 r_65 (by unfold pm_bit; decide) ?_
              refine x_bki rfl ?_
              refine x_ifT i_70_28 rfl (by unfold pm_cmp; decide) ?_
              refine x_iconst i_70_35 (by decide) rfl ?_
              refine x_callv (as := [.inl 1, .inl 0]) (rest := []) i_70_36 k_70_51 rfl rfl rfl g_24 (Nat.le_of_ble_eq_true rfl) m_64 rfl ?_
              refine x_iload_n i_64_0 rfl rfl ?_
              refine x_ifT i_64_1 rfl (by unfold pm_cmp; decide) ?_
              refine x_iload_n i_64_9 rfl rfl ?_
              refine x_iretz i_64_10 r_64 (by unfold pm_bit; decide) ?_
              refine x_bki rfl ?_
              refine x_ifF i_70_39 rfl (by unfold pm_cmp; decide) rfl ?_
              refine x_aload_n i_70_42 rfl rfl ?_
              refine x_iconst i_70_43 (by decide) rfl ?_
              refine x_aload_n i_70_44 rfl rfl ?_
              refine x_geti (v := M 24 1) i_70_45 f_70_13 g_24 rfl (pm_get_j (by decide) rfl) rfl ?_
              refine x_sipush i_70_48 (by decide) rfl ?_
              refine x_icmp (C := ¬ M 24 1 = 2000) i_70_51 rfl Iff.rfl rfl ⟨fun c7 => ?_, fun c7 => ?_⟩
              · replace h := h.1 c7
                refine x_iconst i_70_58 (by decide) rfl ?_
                refine x_callv (as := [.inl 2, .inl 0]) (rest := []) i_70_59 k_70_51 rfl rfl rfl g_24 (Nat.le_of_ble_eq_true rfl) m_64 rfl ?_
                refine x_iload_n i_64_0 rfl rfl ?_
                refine x_ifT i_64_1 rfl (by unfold pm_cmp; decide) ?_
                refine x_iload_n i_64_9 rfl rfl ?_
                refine x_iretz i_64_10 r_64 (by unfold pm_bit; decide) ?_
                refine x_bki rfl ?_
                refine x_ifT i_70_62 rfl (by unfold pm_cmp; decide) ?_
                refine x_aload_n i_70_67 rfl rfl ?_
                refine x_bipush i_70_68 (by decide) rfl ?_
                refine x_iload_n i_70_70 rfl rfl ?_
                refine x_iload_n i_70_71 rfl rfl ?_
                refine x_iload_n i_70_72 rfl rfl ?_
                refine x_callv (as := [.inl 6, .inl a1, .inl a2, .inl a3]) (rest := []) i_70_73 k_70_55 rfl rfl rfl g_24 (Nat.le_of_ble_eq_true rfl) m_66 rfl ?_
                refine x_aload_n i_66_0 rfl rfl ?_
                refine x_getr i_66_1 f_66_22 g_24 rfl rfl ?_
                refine x_aload_n i_66_4 rfl rfl ?_
                refine x_geti (v := M 24 1) i_66_5 f_66_13 g_24 rfl (pm_get_j (by decide) rfl) rfl ?_
                refine x_iload_n i_66_8 rfl rfl ?_
                obtain ⟨q8, h⟩ := h
                refine x_iastore i_66_9 g_25 rfl q8 ?_
                refine x_aload_n i_66_10 rfl rfl ?_
                refine x_getr i_66_11 f_66_26 g_24 rfl rfl ?_
                refine x_aload_n i_66_14 rfl rfl ?_
                refine x_geti (v := M 24 1) i_66_15 f_66_13 g_24 rfl (pm_get_c (by decide) (pm_get_j (by decide) rfl)) rfl ?_
                refine x_iload_n i_66_18 rfl rfl ?_
                refine x_iastore i_66_19 g_26 rfl q8 ?_
                refine x_aload_n i_66_20 rfl rfl ?_
                refine x_getr i_66_21 f_66_29 g_24 rfl rfl ?_
                refine x_aload_n i_66_24 rfl rfl ?_
                refine x_geti (v := M 24 1) i_66_25 f_66_13 g_24 rfl (pm_get_c (by decide) (pm_get_c (by decide) (pm_get_j (by decide) rfl))) rfl ?_
                refine x_iload_n i_66_28 rfl rfl ?_
                refine x_iastore i_66_29 g_27 rfl q8 ?_
                refine x_aload_n i_66_30 rfl rfl ?_
                refine x_getr i_66_31 f_66_32 g_24 rfl rfl ?_
                refine x_aload_n i_66_34 rfl rfl ?_
                refine x_geti (v := M 24 1) i_66_35 f_66_13 g_24 rfl (pm_get_c (by decide) (pm_get_c (by decide) (pm_get_c (by decide) (pm_get_j (by decide) rfl)))) rfl ?_
                refine x_iload i_66_38 rfl rfl ?_
                refine x_iastore i_66_40 g_28 rfl q8 ?_
                refine x_aload_n i_66_41 rfl rfl ?_
                refine x_dup i_66_42 rfl rfl ?_
                refine x_geti (v := M 24 1) i_66_43 f_66_13 g_24 rfl (pm_get_c (by decide) (pm_get_c (by decide) (pm_get_c (by decide) (pm_get_c (by decide) (pm_get_j (by decide) rfl))))) rfl ?_
                refine x_dup_x1 i_66_46 rfl rfl rfl ?_
                refine x_iconst i_66_47 (by decide) rfl ?_
                obtain ⟨q9, h⟩ := h
                refine x_iadd i_66_48 rfl q9 ?_
                refine x_puti i_66_49 f_66_13 g_24 rfl rfl ?_
                refine x_ireti i_66_52 r_66 ?_
                refine x_bki rfl ?_
                exact x_ireti i_70_76 r_70 h
              · replace h := h.2 c7
                refine x_iconst i_70_54 (by decide) rfl ?_
                refine x_goto i_70_55 rfl ?_
                refine x_callv (as := [.inl 2, .inl 1]) (rest := []) i_70_59 k_70_51 rfl rfl rfl g_24 (Nat.le_of_ble_eq_true rfl) m_64 rfl ?_
                refine x_iload_n i_64_0 rfl rfl ?_
                refine x_ifF i_64_1 rfl (by unfold pm_cmp; decide) rfl ?_
                refine x_aload_n i_64_4 rfl rfl ?_
                refine x_iload_n i_64_5 rfl rfl ?_
                refine x_puti i_64_6 f_64_7 g_24 rfl rfl ?_
                refine x_iload_n i_64_9 rfl rfl ?_
                refine x_iretz i_64_10 r_64 (by unfold pm_bit; decide) ?_
                refine x_bki rfl ?_
                refine x_ifF i_70_62 rfl (by unfold pm_cmp; decide) rfl ?_
                refine x_iconst i_70_65 (by decide) rfl ?_
                exact x_ireti i_70_66 r_70 h
            · replace h := h.2 c6
              refine x_iconst i_65_12 (by decide) rfl ?_
              refine x_goto i_65_13 rfl ?_
              refine x_iretz i_65_17 r_65 (by unfold pm_bit; decide) ?_
              refine x_bki rfl ?_
              refine x_ifF i_70_28 rfl (by unfold pm_cmp; decide) rfl ?_
              refine x_iconst i_70_31 (by decide) rfl ?_
              refine x_goto i_70_32 rfl ?_
              refine x_callv (as := [.inl 1, .inl 1]) (rest := []) i_70_36 k_70_51 rfl rfl rfl g_24 (Nat.le_of_ble_eq_true rfl) m_64 rfl ?_
              refine x_iload_n i_64_0 rfl rfl ?_
              refine x_ifF i_64_1 rfl (by unfold pm_cmp; decide) rfl ?_
              refine x_aload_n i_64_4 rfl rfl ?_
              refine x_iload_n i_64_5 rfl rfl ?_
              refine x_puti i_64_6 f_64_7 g_24 rfl rfl ?_
              refine x_iload_n i_64_9 rfl rfl ?_
              refine x_iretz i_64_10 r_64 (by unfold pm_bit; decide) ?_
              refine x_bki rfl ?_
              refine x_ifT i_70_39 rfl (by unfold pm_cmp; decide) ?_
              refine x_iconst i_70_65 (by decide) rfl ?_
              exact x_ireti i_70_66 r_70 h
        · replace h := h.2 c4
          refine x_iconst i_65_12 (by decide) rfl ?_
          refine x_goto i_65_13 rfl ?_
          refine x_iretz i_65_17 r_65 (by unfold pm_bit; decide) ?_
          refine x_bki rfl ?_
          refine x_ifT i_70_20 rfl (by unfold pm_cmp; decide) ?_
          refine x_iconst i_70_31 (by decide) rfl ?_
          refine x_goto i_70_32 rfl ?_
          refine x_callv (as := [.inl 1, .inl 1]) (rest := []) i_70_36 k_70_51 rfl rfl rfl g_24 (Nat.le_of_ble_eq_true rfl) m_64 rfl ?_
          refine x_iload_n i_64_0 rfl rfl ?_
          refine x_ifF i_64_1 rfl (by unfold pm_cmp; decide) rfl ?_
          refine x_aload_n i_64_4 rfl rfl ?_
          refine x_iload_n i_64_5 rfl rfl ?_
          refine x_puti i_64_6 f_64_7 g_24 rfl rfl ?_
          refine x_iload_n i_64_9 rfl rfl ?_
          refine x_iretz i_64_10 r_64 (by unfold pm_bit; decide) ?_
          refine x_bki rfl ?_
          refine x_ifT i_70_39 rfl (by unfold pm_cmp; decide) ?_
          refine x_iconst i_70_65 (by decide) rfl ?_
          exact x_ireti i_70_66 r_70 h
    · replace h := h.2 c2
      refine x_iconst i_65_12 (by decide) rfl ?_
      refine x_goto i_65_13 rfl ?_
      refine x_iretz i_65_17 r_65 (by unfold pm_bit; decide) ?_
      refine x_bki rfl ?_
      refine x_ifT i_70_12 rfl (by unfold pm_cmp; decide) ?_
      refine x_iconst i_70_31 (by decide) rfl ?_
      refine x_goto i_70_32 rfl ?_
      refine x_callv (as := [.inl 1, .inl 1]) (rest := []) i_70_36 k_70_51 rfl rfl rfl g_24 (Nat.le_of_ble_eq_true rfl) m_64 rfl ?_
      refine x_iload_n i_64_0 rfl rfl ?_
      refine x_ifF i_64_1 rfl (by unfold pm_cmp; decide) rfl ?_
      refine x_aload_n i_64_4 rfl rfl ?_
      refine x_iload_n i_64_5 rfl rfl ?_
      refine x_puti i_64_6 f_64_7 g_24 rfl rfl ?_
      refine x_iload_n i_64_9 rfl rfl ?_
      refine x_iretz i_64_10 r_64 (by unfold pm_bit; decide) ?_
      refine x_bki rfl ?_
      refine x_ifT i_70_39 rfl (by unfold pm_cmp; decide) ?_
      refine x_iconst i_70_65 (by decide) rfl ?_
      exact x_ireti i_70_66 r_70 h
/-! GateBenchModel.want at 0 -/
theorem s_71_0 {L : Nat} {M : pm_M} {Q : pm_P} {a1 : Int}
    (h : ((a1 < 0 → Q (.inl (some (.inl 0))) (pm_set (pm_set M 24 0 0) 24 0 1)) ∧ (¬ (a1 < 0) → ((a1 < M 24 1 → ((¬ M 24 3 = 20 → (pm_R (M 24 3 + 1)) ∧ (0 ≤ M 24 3 ∧ M 24 3 < 20) ∧ Q (.inl (some (.inl (M 24 3 + 1)))) (pm_set (pm_set (pm_set M 24 0 0) 24 3 (M 24 3 + 1)) 29 (M 24 3) a1)) ∧ (¬ (¬ M 24 3 = 20) → Q (.inl (some (.inl 0))) (pm_set (pm_set M 24 0 0) 24 0 2)))) ∧ (¬ (a1 < M 24 1) → Q (.inl (some (.inl 0))) (pm_set (pm_set M 24 0 0) 24 0 1)))))) :
    pm_X L (71, 0, [some (.inr (.inl 24)), some (.inl a1)], [], M) Q := by
  refine x_aload_n i_71_0 rfl rfl ?_
  refine x_iconst i_71_1 (by decide) rfl ?_
  refine x_puti i_71_2 f_71_7 g_24 rfl rfl ?_
  refine x_aload_n i_71_5 rfl rfl ?_
  refine x_iconst i_71_6 (by decide) rfl ?_
  refine x_aload_n i_71_7 rfl rfl ?_
  refine x_iload_n i_71_8 rfl rfl ?_
  refine x_callv (as := [.inl a1]) (rest := [.inl 1, .inr (.inl 24)]) i_71_9 k_71_59 rfl rfl rfl g_24 (Nat.le_of_ble_eq_true rfl) m_65 rfl ?_
  refine x_iload_n i_65_0 rfl rfl ?_
  refine x_if (C := a1 < 0) i_65_1 rfl Iff.rfl rfl ⟨fun c1 => ?_, fun c1 => ?_⟩
  · replace h := h.1 c1
    refine x_iconst i_65_12 (by decide) rfl ?_
    refine x_goto i_65_13 rfl ?_
    refine x_iretz i_65_17 r_65 (by unfold pm_bit; decide) ?_
    refine x_bki rfl ?_
    refine x_callv (as := [.inl 1, .inl 1]) (rest := []) i_71_12 k_71_51 rfl rfl rfl g_24 (Nat.le_of_ble_eq_true rfl) m_64 rfl ?_
    refine x_iload_n i_64_0 rfl rfl ?_
    refine x_ifF i_64_1 rfl (by unfold pm_cmp; decide) rfl ?_
    refine x_aload_n i_64_4 rfl rfl ?_
    refine x_iload_n i_64_5 rfl rfl ?_
    refine x_puti i_64_6 f_64_7 g_24 rfl rfl ?_
    refine x_iload_n i_64_9 rfl rfl ?_
    refine x_iretz i_64_10 r_64 (by unfold pm_bit; decide) ?_
    refine x_bki rfl ?_
    refine x_ifT i_71_15 rfl (by unfold pm_cmp; decide) ?_
    refine x_iconst i_71_40 (by decide) rfl ?_
    exact x_ireti i_71_41 r_71 h
  · replace h := h.2 c1
    refine x_iload_n i_65_4 rfl rfl ?_
    refine x_aload_n i_65_5 rfl rfl ?_
    refine x_geti (v := M 24 1) i_65_6 f_65_13 g_24 rfl (pm_get_j (by decide) rfl) rfl ?_
    refine x_icmp (C := a1 < M 24 1) i_65_9 rfl Iff.rfl rfl ⟨fun c2 => ?_, fun c2 => ?_⟩
    · replace h := h.1 c2
      refine x_iconst i_65_16 (by decide) rfl ?_
      refine x_iretz i_65_17 r_65 (by unfold pm_bit; decide) ?_
      refine x_bki rfl ?_
      refine x_callv (as := [.inl 1, .inl 0]) (rest := []) i_71_12 k_71_51 rfl rfl rfl g_24 (Nat.le_of_ble_eq_true rfl) m_64 rfl ?_
      refine x_iload_n i_64_0 rfl rfl ?_
      refine x_ifT i_64_1 rfl (by unfold pm_cmp; decide) ?_
      refine x_iload_n i_64_9 rfl rfl ?_
      refine x_iretz i_64_10 r_64 (by unfold pm_bit; decide) ?_
      refine x_bki rfl ?_
      refine x_ifF i_71_15 rfl (by unfold pm_cmp; decide) rfl ?_
      refine x_aload_n i_71_18 rfl rfl ?_
      refine x_iconst i_71_19 (by decide) rfl ?_
      refine x_aload_n i_71_20 rfl rfl ?_
      refine x_geti (v := M 24 3) i_71_21 f_71_19 g_24 rfl (pm_get_j (by decide) rfl) rfl ?_
      refine x_bipush i_71_24 (by decide) rfl ?_
      refine x_icmp (C := ¬ M 24 3 = 20) i_71_26 rfl Iff.rfl rfl ⟨fun c3 => ?_, fun c3 => ?_⟩
      · replace h := h.1 c3
        refine x_iconst i_71_33 (by decide) rfl ?_
        refine x_callv (as := [.inl 2, .inl 0]) (rest := []) i_71_34 k_71_51 rfl rfl rfl g_24 (Nat.le_of_ble_eq_true rfl) m_64 rfl ?_
        refine x_iload_n i_64_0 rfl rfl ?_
        refine x_ifT i_64_1 rfl (by unfold pm_cmp; decide) ?_
        refine x_iload_n i_64_9 rfl rfl ?_
        refine x_iretz i_64_10 r_64 (by unfold pm_bit; decide) ?_
        refine x_bki rfl ?_
        refine x_ifT i_71_37 rfl (by unfold pm_cmp; decide) ?_
        refine x_aload_n i_71_42 rfl rfl ?_
        refine x_getr i_71_43 f_71_35 g_24 rfl rfl ?_
        refine x_aload_n i_71_46 rfl rfl ?_
        refine x_dup i_71_47 rfl rfl ?_
        refine x_geti (v := M 24 3) i_71_48 f_71_19 g_24 rfl (pm_get_j (by decide) rfl) rfl ?_
        refine x_dup_x1 i_71_51 rfl rfl rfl ?_
        refine x_iconst i_71_52 (by decide) rfl ?_
        obtain ⟨q4, h⟩ := h
        refine x_iadd i_71_53 rfl q4 ?_
        refine x_puti i_71_54 f_71_19 g_24 rfl rfl ?_
        refine x_iload_n i_71_57 rfl rfl ?_
        obtain ⟨q5, h⟩ := h
        refine x_iastore i_71_58 g_29 rfl q5 ?_
        refine x_aload_n i_71_59 rfl rfl ?_
        refine x_geti (v := M 24 3 + 1) i_71_60 f_71_19 g_24 rfl (pm_get_c (by decide) (pm_get_e)) rfl ?_
        exact x_ireti i_71_63 r_71 h
      · replace h := h.2 c3
        refine x_iconst i_71_29 (by decide) rfl ?_
        refine x_goto i_71_30 rfl ?_
        refine x_callv (as := [.inl 2, .inl 1]) (rest := []) i_71_34 k_71_51 rfl rfl rfl g_24 (Nat.le_of_ble_eq_true rfl) m_64 rfl ?_
        refine x_iload_n i_64_0 rfl rfl ?_
        refine x_ifF i_64_1 rfl (by unfold pm_cmp; decide) rfl ?_
        refine x_aload_n i_64_4 rfl rfl ?_
        refine x_iload_n i_64_5 rfl rfl ?_
        refine x_puti i_64_6 f_64_7 g_24 rfl rfl ?_
        refine x_iload_n i_64_9 rfl rfl ?_
        refine x_iretz i_64_10 r_64 (by unfold pm_bit; decide) ?_
        refine x_bki rfl ?_
        refine x_ifF i_71_37 rfl (by unfold pm_cmp; decide) rfl ?_
        refine x_iconst i_71_40 (by decide) rfl ?_
        exact x_ireti i_71_41 r_71 h
    · replace h := h.2 c2
      refine x_iconst i_65_12 (by decide) rfl ?_
      refine x_goto i_65_13 rfl ?_
      refine x_iretz i_65_17 r_65 (by unfold pm_bit; decide) ?_
      refine x_bki rfl ?_
      refine x_callv (as := [.inl 1, .inl 1]) (rest := []) i_71_12 k_71_51 rfl rfl rfl g_24 (Nat.le_of_ble_eq_true rfl) m_64 rfl ?_
      refine x_iload_n i_64_0 rfl rfl ?_
      refine x_ifF i_64_1 rfl (by unfold pm_cmp; decide) rfl ?_
      refine x_aload_n i_64_4 rfl rfl ?_
      refine x_iload_n i_64_5 rfl rfl ?_
      refine x_puti i_64_6 f_64_7 g_24 rfl rfl ?_
      refine x_iload_n i_64_9 rfl rfl ?_
      refine x_iretz i_64_10 r_64 (by unfold pm_bit; decide) ?_
      refine x_bki rfl ?_
      refine x_ifT i_71_15 rfl (by unfold pm_cmp; decide) ?_
      refine x_iconst i_71_40 (by decide) rfl ?_
      exact x_ireti i_71_41 r_71 h
/-! GateBenchModel.clear at 0 -/
theorem s_72_0 {L : Nat} {M : pm_M} {Q : pm_P}
    (h : Q (.inl (some (.inl (M 24 3)))) (pm_set (pm_set M 24 0 0) 24 3 0)) :
    pm_X L (72, 0, [some (.inr (.inl 24)), none], [], M) Q := by
  refine x_aload_n i_72_0 rfl rfl ?_
  refine x_iconst i_72_1 (by decide) rfl ?_
  refine x_puti i_72_2 f_72_7 g_24 rfl rfl ?_
  refine x_aload_n i_72_5 rfl rfl ?_
  refine x_geti (v := M 24 3) i_72_6 f_72_19 g_24 rfl (pm_get_j (by decide) rfl) rfl ?_
  refine x_istore_n i_72_9 (Nat.le_of_ble_eq_true rfl) rfl rfl ?_
  refine x_aload_n i_72_10 rfl rfl ?_
  refine x_iconst i_72_11 (by decide) rfl ?_
  refine x_puti i_72_12 f_72_19 g_24 rfl rfl ?_
  refine x_iload_n i_72_15 rfl rfl ?_
  exact x_ireti i_72_16 r_72 h
/-! GateBenchModel.workOut at 0 -/
theorem s_73_0 {L : Nat} {M : pm_M} {Q : pm_P}
    (h : pm_X L (73, 2, [some (.inr (.inl 24)), some (.inl 0)], [], M) Q) :
    pm_X L (73, 0, [some (.inr (.inl 24)), none], [], M) Q := by
  refine x_iconst i_73_0 (by decide) rfl ?_
  refine x_istore_n i_73_1 (Nat.le_of_ble_eq_true rfl) rfl rfl ?_
  exact h
/-! GateBenchModel.workOut at 2 -/
theorem s_73_2 {L : Nat} {M : pm_M} {Q : pm_P} {a1 : Int}
    (h : ((M 24 1 ≤ a1 → Q (.inl none) M) ∧ (¬ (M 24 1 ≤ a1) → (0 ≤ a1 ∧ a1 < 2000) ∧ ((M 25 a1 = 0 → (pm_R (a1 + 1)) ∧ pm_X L (73, 2, [some (.inr (.inl 24)), some (.inl (a1 + 1))], [], pm_set M 32 a1 0) Q) ∧ (M 25 a1 = 1 → (0 ≤ M 26 a1 ∧ M 26 a1 < 12) ∧ ((0 ≤ a1 ∧ a1 < 2000) ∧ pm_bit (M 30 (M 26 a1))) ∧ (pm_R (a1 + 1)) ∧ pm_X L (73, 2, [some (.inr (.inl 24)), some (.inl (a1 + 1))], [], pm_set M 32 a1 (M 30 (M 26 a1))) Q) ∧ (M 25 a1 = 2 → (0 ≤ M 26 a1 ∧ M 26 a1 < 2000) ∧ ((¬ M 32 (M 26 a1) = 0 → (pm_R (a1 + 1)) ∧ pm_X L (73, 2, [some (.inr (.inl 24)), some (.inl (a1 + 1))], [], pm_set M 32 a1 0) Q) ∧ (¬ (¬ M 32 (M 26 a1) = 0) → (pm_R (a1 + 1)) ∧ pm_X L (73, 2, [some (.inr (.inl 24)), some (.inl (a1 + 1))], [], pm_set M 32 a1 1) Q))) ∧ (M 25 a1 = 3 → (0 ≤ M 26 a1 ∧ M 26 a1 < 2000) ∧ ((M 32 (M 26 a1) = 0 → (pm_R (a1 + 1)) ∧ pm_X L (73, 2, [some (.inr (.inl 24)), some (.inl (a1 + 1))], [], pm_set M 32 a1 0) Q) ∧ (¬ (M 32 (M 26 a1) = 0) → (0 ≤ M 27 a1 ∧ M 27 a1 < 2000) ∧ ((M 32 (M 27 a1) = 0 → (pm_R (a1 + 1)) ∧ pm_X L (73, 2, [some (.inr (.inl 24)), some (.inl (a1 + 1))], [], pm_set M 32 a1 0) Q) ∧ (¬ (M 32 (M 27 a1) = 0) → (pm_R (a1 + 1)) ∧ pm_X L (73, 2, [some (.inr (.inl 24)), some (.inl (a1 + 1))], [], pm_set M 32 a1 1) Q))))) ∧ (M 25 a1 = 4 → (0 ≤ M 26 a1 ∧ M 26 a1 < 2000) ∧ ((¬ M 32 (M 26 a1) = 0 → (pm_R (a1 + 1)) ∧ pm_X L (73, 2, [some (.inr (.inl 24)), some (.inl (a1 + 1))], [], pm_set M 32 a1 1) Q) ∧ (¬ (¬ M 32 (M 26 a1) = 0) → (0 ≤ M 27 a1 ∧ M 27 a1 < 2000) ∧ ((M 32 (M 27 a1) = 0 → (pm_R (a1 + 1)) ∧ pm_X L (73, 2, [some (.inr (.inl 24)), some (.inl (a1 + 1))], [], pm_set M 32 a1 0) Q) ∧ (¬ (M 32 (M 27 a1) = 0) → (pm_R (a1 + 1)) ∧ pm_X L (73, 2, [some (.inr (.inl 24)), some (.inl (a1 + 1))], [], pm_set M 32 a1 1) Q))))) ∧ (M 25 a1 = 5 → (0 ≤ M 26 a1 ∧ M 26 a1 < 2000) ∧ (0 ≤ M 27 a1 ∧ M 27 a1 < 2000) ∧ ((M 32 (M 26 a1) = M 32 (M 27 a1) → (pm_R (a1 + 1)) ∧ pm_X L (73, 2, [some (.inr (.inl 24)), some (.inl (a1 + 1))], [], pm_set M 32 a1 0) Q) ∧ (¬ (M 32 (M 26 a1) = M 32 (M 27 a1)) → (pm_R (a1 + 1)) ∧ pm_X L (73, 2, [some (.inr (.inl 24)), some (.inl (a1 + 1))], [], pm_set M 32 a1 1) Q))) ∧ ((M 25 a1 < 0 ∨ 5 < M 25 a1) → (0 ≤ M 26 a1 ∧ M 26 a1 < 2000) ∧ ((M 32 (M 26 a1) = 0 → (0 ≤ M 28 a1 ∧ M 28 a1 < 2000) ∧ ((0 ≤ a1 ∧ a1 < 2000) ∧ pm_bit (M 32 (M 28 a1))) ∧ (pm_R (a1 + 1)) ∧ pm_X L (73, 2, [some (.inr (.inl 24)), some (.inl (a1 + 1))], [], pm_set M 32 a1 (M 32 (M 28 a1))) Q) ∧ (¬ (M 32 (M 26 a1) = 0) → (0 ≤ M 27 a1 ∧ M 27 a1 < 2000) ∧ ((0 ≤ a1 ∧ a1 < 2000) ∧ pm_bit (M 32 (M 27 a1))) ∧ (pm_R (a1 + 1)) ∧ pm_X L (73, 2, [some (.inr (.inl 24)), some (.inl (a1 + 1))], [], pm_set M 32 a1 (M 32 (M 27 a1))) Q))))))) :
    pm_X L (73, 2, [some (.inr (.inl 24)), some (.inl a1)], [], M) Q := by
  refine x_iload_n i_73_2 rfl rfl ?_
  refine x_aload_n i_73_3 rfl rfl ?_
  refine x_geti (v := M 24 1) i_73_4 f_73_13 g_24 rfl (rfl) rfl ?_
  refine x_icmp (C := M 24 1 ≤ a1) i_73_7 rfl Iff.rfl rfl ⟨fun c1 => ?_, fun c1 => ?_⟩
  · replace h := h.1 c1
    exact x_ret i_73_288 r_73 h
  · replace h := h.2 c1
    refine x_aload_n i_73_10 rfl rfl ?_
    refine x_getr i_73_11 f_73_22 g_24 rfl rfl ?_
    refine x_iload_n i_73_14 rfl rfl ?_
    obtain ⟨q2, h⟩ := h
    refine x_iaload (v := M 25 a1) i_73_15 g_25 (rfl) rfl q2 ?_
    rcases (by omega : M 25 a1 = 0 ∨ M 25 a1 = 1 ∨ M 25 a1 = 2 ∨ M 25 a1 = 3 ∨ M 25 a1 = 4 ∨ M 25 a1 = 5 ∨ (M 25 a1 < 0 ∨ 5 < M 25 a1)) with c3 | c3 | c3 | c3 | c3 | c3 | c3
    · replace h := h.1 c3
      refine x_swV i_73_16 c3 (by decide) rfl rfl ?_
      refine x_aload_n i_73_56 rfl rfl ?_
      refine x_getr i_73_57 f_73_45 g_24 rfl rfl ?_
      refine x_iload_n i_73_60 rfl rfl ?_
      refine x_iconst i_73_61 (by decide) rfl ?_
      refine x_bastore i_73_62 g_32 rfl ⟨q2, by unfold pm_bit; decide⟩ ?_
      refine x_goto i_73_63 rfl ?_
      obtain ⟨q4, h⟩ := h
      refine x_iinc i_73_282 rfl (by decide) rfl rfl q4 ?_
      refine x_goto i_73_285 rfl ?_
      exact h
    · replace h := h.2.1 c3
      refine x_swV i_73_16 c3 (by decide) rfl rfl ?_
      refine x_aload_n i_73_66 rfl rfl ?_
      refine x_getr i_73_67 f_73_45 g_24 rfl rfl ?_
      refine x_iload_n i_73_70 rfl rfl ?_
      refine x_aload_n i_73_71 rfl rfl ?_
      refine x_getr i_73_72 f_73_38 g_24 rfl rfl ?_
      refine x_aload_n i_73_75 rfl rfl ?_
      refine x_getr i_73_76 f_73_26 g_24 rfl rfl ?_
      refine x_iload_n i_73_79 rfl rfl ?_
      refine x_iaload (v := M 26 a1) i_73_80 g_26 (rfl) rfl q2 ?_
      obtain ⟨q5, h⟩ := h
      refine x_baload (v := M 30 (M 26 a1)) i_73_81 g_30 (rfl) rfl q5 ?_
      obtain ⟨q6, h⟩ := h
      refine x_bastore i_73_82 g_32 rfl q6 ?_
      refine x_goto i_73_83 rfl ?_
      obtain ⟨q7, h⟩ := h
      refine x_iinc i_73_282 rfl (by decide) rfl rfl q7 ?_
      refine x_goto i_73_285 rfl ?_
      exact h
    · replace h := h.2.2.1 c3
      refine x_swV i_73_16 c3 (by decide) rfl rfl ?_
      refine x_aload_n i_73_86 rfl rfl ?_
      refine x_getr i_73_87 f_73_45 g_24 rfl rfl ?_
      refine x_iload_n i_73_90 rfl rfl ?_
      refine x_aload_n i_73_91 rfl rfl ?_
      refine x_getr i_73_92 f_73_45 g_24 rfl rfl ?_
      refine x_aload_n i_73_95 rfl rfl ?_
      refine x_getr i_73_96 f_73_26 g_24 rfl rfl ?_
      refine x_iload_n i_73_99 rfl rfl ?_
      refine x_iaload (v := M 26 a1) i_73_100 g_26 (rfl) rfl q2 ?_
      obtain ⟨q8, h⟩ := h
      refine x_baload (v := M 32 (M 26 a1)) i_73_101 g_32 (rfl) rfl q8 ?_
      refine x_if (C := ¬ M 32 (M 26 a1) = 0) i_73_102 rfl Iff.rfl rfl ⟨fun c9 => ?_, fun c9 => ?_⟩
      · replace h := h.1 c9
        refine x_iconst i_73_109 (by decide) rfl ?_
        refine x_bastore i_73_110 g_32 rfl ⟨q2, by unfold pm_bit; decide⟩ ?_
        refine x_goto i_73_111 rfl ?_
        obtain ⟨q10, h⟩ := h
        refine x_iinc i_73_282 rfl (by decide) rfl rfl q10 ?_
        refine x_goto i_73_285 rfl ?_
        exact h
      · replace h := h.2 c9
        refine x_iconst i_73_105 (by decide) rfl ?_
        refine x_goto i_73_106 rfl ?_
        refine x_bastore i_73_110 g_32 rfl ⟨q2, by unfold pm_bit; decide⟩ ?_
        refine x_goto i_73_111 rfl ?_
        obtain ⟨q11, h⟩ := h
        refine x_iinc i_73_282 rfl (by decide) rfl rfl q11 ?_
        refine x_goto i_73_285 rfl ?_
        exact h
    · replace h := h.2.2.2.1 c3
      refine x_swV i_73_16 c3 (by decide) rfl rfl ?_
      refine x_aload_n i_73_114 rfl rfl ?_
      refine x_getr i_73_115 f_73_45 g_24 rfl rfl ?_
      refine x_iload_n i_73_118 rfl rfl ?_
      refine x_aload_n i_73_119 rfl rfl ?_
      refine x_getr i_73_120 f_73_45 g_24 rfl rfl ?_
      refine x_aload_n i_73_123 rfl rfl ?_
      refine x_getr i_73_124 f_73_26 g_24 rfl rfl ?_
      refine x_iload_n i_73_127 rfl rfl ?_
      refine x_iaload (v := M 26 a1) i_73_128 g_26 (rfl) rfl q2 ?_
      obtain ⟨q12, h⟩ := h
      refine x_baload (v := M 32 (M 26 a1)) i_73_129 g_32 (rfl) rfl q12 ?_
      refine x_if (C := M 32 (M 26 a1) = 0) i_73_130 rfl Iff.rfl rfl ⟨fun c13 => ?_, fun c13 => ?_⟩
      · replace h := h.1 c13
        refine x_iconst i_73_151 (by decide) rfl ?_
        refine x_bastore i_73_152 g_32 rfl ⟨q2, by unfold pm_bit; decide⟩ ?_
        refine x_goto i_73_153 rfl ?_
        obtain ⟨q14, h⟩ := h
        refine x_iinc i_73_282 rfl (by decide) rfl rfl q14 ?_
        refine x_goto i_73_285 rfl ?_
        exact h
      · replace h := h.2 c13
        refine x_aload_n i_73_133 rfl rfl ?_
        refine x_getr i_73_134 f_73_45 g_24 rfl rfl ?_
        refine x_aload_n i_73_137 rfl rfl ?_
        refine x_getr i_73_138 f_73_29 g_24 rfl rfl ?_
        refine x_iload_n i_73_141 rfl rfl ?_
        refine x_iaload (v := M 27 a1) i_73_142 g_27 (rfl) rfl q2 ?_
        obtain ⟨q15, h⟩ := h
        refine x_baload (v := M 32 (M 27 a1)) i_73_143 g_32 (rfl) rfl q15 ?_
        refine x_if (C := M 32 (M 27 a1) = 0) i_73_144 rfl Iff.rfl rfl ⟨fun c16 => ?_, fun c16 => ?_⟩
        · replace h := h.1 c16
          refine x_iconst i_73_151 (by decide) rfl ?_
          refine x_bastore i_73_152 g_32 rfl ⟨q2, by unfold pm_bit; decide⟩ ?_
          refine x_goto i_73_153 rfl ?_
          obtain ⟨q17, h⟩ := h
          refine x_iinc i_73_282 rfl (by decide) rfl rfl q17 ?_
          refine x_goto i_73_285 rfl ?_
          exact h
        · replace h := h.2 c16
          refine x_iconst i_73_147 (by decide) rfl ?_
          refine x_goto i_73_148 rfl ?_
          refine x_bastore i_73_152 g_32 rfl ⟨q2, by unfold pm_bit; decide⟩ ?_
          refine x_goto i_73_153 rfl ?_
          obtain ⟨q18, h⟩ := h
          refine x_iinc i_73_282 rfl (by decide) rfl rfl q18 ?_
          refine x_goto i_73_285 rfl ?_
          exact h
    · replace h := h.2.2.2.2.1 c3
      refine x_swV i_73_16 c3 (by decide) rfl rfl ?_
      refine x_aload_n i_73_156 rfl rfl ?_
      refine x_getr i_73_157 f_73_45 g_24 rfl rfl ?_
      refine x_iload_n i_73_160 rfl rfl ?_
      refine x_aload_n i_73_161 rfl rfl ?_
      refine x_getr i_73_162 f_73_45 g_24 rfl rfl ?_
      refine x_aload_n i_73_165 rfl rfl ?_
      refine x_getr i_73_166 f_73_26 g_24 rfl rfl ?_
      refine x_iload_n i_73_169 rfl rfl ?_
      refine x_iaload (v := M 26 a1) i_73_170 g_26 (rfl) rfl q2 ?_
      obtain ⟨q19, h⟩ := h
      refine x_baload (v := M 32 (M 26 a1)) i_73_171 g_32 (rfl) rfl q19 ?_
      refine x_if (C := ¬ M 32 (M 26 a1) = 0) i_73_172 rfl Iff.rfl rfl ⟨fun c20 => ?_, fun c20 => ?_⟩
      · replace h := h.1 c20
        refine x_iconst i_73_189 (by decide) rfl ?_
        refine x_goto i_73_190 rfl ?_
        refine x_bastore i_73_194 g_32 rfl ⟨q2, by unfold pm_bit; decide⟩ ?_
        refine x_goto i_73_195 rfl ?_
        obtain ⟨q21, h⟩ := h
        refine x_iinc i_73_282 rfl (by decide) rfl rfl q21 ?_
        refine x_goto i_73_285 rfl ?_
        exact h
      · replace h := h.2 c20
        refine x_aload_n i_73_175 rfl rfl ?_
        refine x_getr i_73_176 f_73_45 g_24 rfl rfl ?_
        refine x_aload_n i_73_179 rfl rfl ?_
        refine x_getr i_73_180 f_73_29 g_24 rfl rfl ?_
        refine x_iload_n i_73_183 rfl rfl ?_
        refine x_iaload (v := M 27 a1) i_73_184 g_27 (rfl) rfl q2 ?_
        obtain ⟨q22, h⟩ := h
        refine x_baload (v := M 32 (M 27 a1)) i_73_185 g_32 (rfl) rfl q22 ?_
        refine x_if (C := M 32 (M 27 a1) = 0) i_73_186 rfl Iff.rfl rfl ⟨fun c23 => ?_, fun c23 => ?_⟩
        · replace h := h.1 c23
          refine x_iconst i_73_193 (by decide) rfl ?_
          refine x_bastore i_73_194 g_32 rfl ⟨q2, by unfold pm_bit; decide⟩ ?_
          refine x_goto i_73_195 rfl ?_
          obtain ⟨q24, h⟩ := h
          refine x_iinc i_73_282 rfl (by decide) rfl rfl q24 ?_
          refine x_goto i_73_285 rfl ?_
          exact h
        · replace h := h.2 c23
          refine x_iconst i_73_189 (by decide) rfl ?_
          refine x_goto i_73_190 rfl ?_
          refine x_bastore i_73_194 g_32 rfl ⟨q2, by unfold pm_bit; decide⟩ ?_
          refine x_goto i_73_195 rfl ?_
          obtain ⟨q25, h⟩ := h
          refine x_iinc i_73_282 rfl (by decide) rfl rfl q25 ?_
          refine x_goto i_73_285 rfl ?_
          exact h
    · replace h := h.2.2.2.2.2.1 c3
      refine x_swV i_73_16 c3 (by decide) rfl rfl ?_
      refine x_aload_n i_73_198 rfl rfl ?_
      refine x_getr i_73_199 f_73_45 g_24 rfl rfl ?_
      refine x_iload_n i_73_202 rfl rfl ?_
      refine x_aload_n i_73_203 rfl rfl ?_
      refine x_getr i_73_204 f_73_45 g_24 rfl rfl ?_
      refine x_aload_n i_73_207 rfl rfl ?_
      refine x_getr i_73_208 f_73_26 g_24 rfl rfl ?_
      refine x_iload_n i_73_211 rfl rfl ?_
      refine x_iaload (v := M 26 a1) i_73_212 g_26 (rfl) rfl q2 ?_
      obtain ⟨q26, h⟩ := h
      refine x_baload (v := M 32 (M 26 a1)) i_73_213 g_32 (rfl) rfl q26 ?_
      refine x_aload_n i_73_214 rfl rfl ?_
      refine x_getr i_73_215 f_73_45 g_24 rfl rfl ?_
      refine x_aload_n i_73_218 rfl rfl ?_
      refine x_getr i_73_219 f_73_29 g_24 rfl rfl ?_
      refine x_iload_n i_73_222 rfl rfl ?_
      refine x_iaload (v := M 27 a1) i_73_223 g_27 (rfl) rfl q2 ?_
      obtain ⟨q27, h⟩ := h
      refine x_baload (v := M 32 (M 27 a1)) i_73_224 g_32 (rfl) rfl q27 ?_
      refine x_icmp (C := M 32 (M 26 a1) = M 32 (M 27 a1)) i_73_225 rfl Iff.rfl rfl ⟨fun c28 => ?_, fun c28 => ?_⟩
      · replace h := h.1 c28
        refine x_iconst i_73_232 (by decide) rfl ?_
        refine x_bastore i_73_233 g_32 rfl ⟨q2, by unfold pm_bit; decide⟩ ?_
        refine x_goto i_73_234 rfl ?_
        obtain ⟨q29, h⟩ := h
        refine x_iinc i_73_282 rfl (by decide) rfl rfl q29 ?_
        refine x_goto i_73_285 rfl ?_
        exact h
      · replace h := h.2 c28
        refine x_iconst i_73_228 (by decide) rfl ?_
        refine x_goto i_73_229 rfl ?_
        refine x_bastore i_73_233 g_32 rfl ⟨q2, by unfold pm_bit; decide⟩ ?_
        refine x_goto i_73_234 rfl ?_
        obtain ⟨q30, h⟩ := h
        refine x_iinc i_73_282 rfl (by decide) rfl rfl q30 ?_
        refine x_goto i_73_285 rfl ?_
        exact h
    · replace h := h.2.2.2.2.2.2 c3
      refine x_swO i_73_16 rfl c3 ?_
      refine x_aload_n i_73_237 rfl rfl ?_
      refine x_getr i_73_238 f_73_45 g_24 rfl rfl ?_
      refine x_iload_n i_73_241 rfl rfl ?_
      refine x_aload_n i_73_242 rfl rfl ?_
      refine x_getr i_73_243 f_73_45 g_24 rfl rfl ?_
      refine x_aload_n i_73_246 rfl rfl ?_
      refine x_getr i_73_247 f_73_26 g_24 rfl rfl ?_
      refine x_iload_n i_73_250 rfl rfl ?_
      refine x_iaload (v := M 26 a1) i_73_251 g_26 (rfl) rfl q2 ?_
      obtain ⟨q31, h⟩ := h
      refine x_baload (v := M 32 (M 26 a1)) i_73_252 g_32 (rfl) rfl q31 ?_
      refine x_if (C := M 32 (M 26 a1) = 0) i_73_253 rfl Iff.rfl rfl ⟨fun c32 => ?_, fun c32 => ?_⟩
      · replace h := h.1 c32
        refine x_aload_n i_73_270 rfl rfl ?_
        refine x_getr i_73_271 f_73_45 g_24 rfl rfl ?_
        refine x_aload_n i_73_274 rfl rfl ?_
        refine x_getr i_73_275 f_73_32 g_24 rfl rfl ?_
        refine x_iload_n i_73_278 rfl rfl ?_
        refine x_iaload (v := M 28 a1) i_73_279 g_28 (rfl) rfl q2 ?_
        obtain ⟨q33, h⟩ := h
        refine x_baload (v := M 32 (M 28 a1)) i_73_280 g_32 (rfl) rfl q33 ?_
        obtain ⟨q34, h⟩ := h
        refine x_bastore i_73_281 g_32 rfl q34 ?_
        obtain ⟨q35, h⟩ := h
        refine x_iinc i_73_282 rfl (by decide) rfl rfl q35 ?_
        refine x_goto i_73_285 rfl ?_
        exact h
      · replace h := h.2 c32
        refine x_aload_n i_73_256 rfl rfl ?_
        refine x_getr i_73_257 f_73_45 g_24 rfl rfl ?_
        refine x_aload_n i_73_260 rfl rfl ?_
        refine x_getr i_73_261 f_73_29 g_24 rfl rfl ?_
        refine x_iload_n i_73_264 rfl rfl ?_
        refine x_iaload (v := M 27 a1) i_73_265 g_27 (rfl) rfl q2 ?_
        obtain ⟨q36, h⟩ := h
        refine x_baload (v := M 32 (M 27 a1)) i_73_266 g_32 (rfl) rfl q36 ?_
        refine x_goto i_73_267 rfl ?_
        obtain ⟨q37, h⟩ := h
        refine x_bastore i_73_281 g_32 rfl q37 ?_
        obtain ⟨q38, h⟩ := h
        refine x_iinc i_73_282 rfl (by decide) rfl rfl q38 ?_
        refine x_goto i_73_285 rfl ?_
        exact h
/-! GateBenchModel.advance at 0 -/
theorem s_74_0 {L : Nat} {M : pm_M} {Q : pm_P}
    (h : (pm_R (M 24 2 - 1)) ∧ pm_X L (74, 7, [some (.inr (.inl 24)), some (.inl (M 24 2 - 1))], [], M) Q) :
    pm_X L (74, 0, [some (.inr (.inl 24)), none], [], M) Q := by
  refine x_aload_n i_74_0 rfl rfl ?_
  refine x_geti (v := M 24 2) i_74_1 f_74_16 g_24 rfl (rfl) rfl ?_
  refine x_iconst i_74_4 (by decide) rfl ?_
  obtain ⟨q1, h⟩ := h
  refine x_isub i_74_5 rfl q1 ?_
  refine x_istore_n i_74_6 (Nat.le_of_ble_eq_true rfl) rfl rfl ?_
  exact h
/-! GateBenchModel.advance at 7 -/
theorem s_74_7 {L : Nat} {M : pm_M} {Q : pm_P} {a1 : Int}
    (h : ((a1 < 0 → Q (.inl (some (.inl 0))) M) ∧ (¬ (a1 < 0) → (0 ≤ a1 ∧ a1 < 12) ∧ ((¬ M 30 a1 = 0 → (pm_R (a1 + (-1))) ∧ pm_X L (74, 7, [some (.inr (.inl 24)), some (.inl (a1 + (-1)))], [], pm_set M 30 a1 0) Q) ∧ (¬ (¬ M 30 a1 = 0) → Q (.inl (some (.inl 1))) (pm_set M 30 a1 1)))))) :
    pm_X L (74, 7, [some (.inr (.inl 24)), some (.inl a1)], [], M) Q := by
  refine x_iload_n i_74_7 rfl rfl ?_
  refine x_if (C := a1 < 0) i_74_8 rfl Iff.rfl rfl ⟨fun c1 => ?_, fun c1 => ?_⟩
  · replace h := h.1 c1
    refine x_iconst i_74_48 (by decide) rfl ?_
    exact x_iretz i_74_49 r_74 (by unfold pm_bit; decide) h
  · replace h := h.2 c1
    refine x_aload_n i_74_11 rfl rfl ?_
    refine x_getr i_74_12 f_74_38 g_24 rfl rfl ?_
    refine x_iload_n i_74_15 rfl rfl ?_
    refine x_aload_n i_74_16 rfl rfl ?_
    refine x_getr i_74_17 f_74_38 g_24 rfl rfl ?_
    refine x_iload_n i_74_20 rfl rfl ?_
    obtain ⟨q2, h⟩ := h
    refine x_baload (v := M 30 a1) i_74_21 g_30 (rfl) rfl q2 ?_
    refine x_if (C := ¬ M 30 a1 = 0) i_74_22 rfl Iff.rfl rfl ⟨fun c3 => ?_, fun c3 => ?_⟩
    · replace h := h.1 c3
      refine x_iconst i_74_29 (by decide) rfl ?_
      refine x_bastore i_74_30 g_30 rfl ⟨q2, by unfold pm_bit; decide⟩ ?_
      refine x_aload_n i_74_31 rfl rfl ?_
      refine x_getr i_74_32 f_74_38 g_24 rfl rfl ?_
      refine x_iload_n i_74_35 rfl rfl ?_
      refine x_baload (v := 0) i_74_36 g_30 (pm_get_e) rfl q2 ?_
      refine x_ifT i_74_37 rfl (by unfold pm_cmp; decide) ?_
      obtain ⟨q4, h⟩ := h
      refine x_iinc i_74_42 rfl (by decide) rfl rfl q4 ?_
      refine x_goto i_74_45 rfl ?_
      exact h
    · replace h := h.2 c3
      refine x_iconst i_74_25 (by decide) rfl ?_
      refine x_goto i_74_26 rfl ?_
      refine x_bastore i_74_30 g_30 rfl ⟨q2, by unfold pm_bit; decide⟩ ?_
      refine x_aload_n i_74_31 rfl rfl ?_
      refine x_getr i_74_32 f_74_38 g_24 rfl rfl ?_
      refine x_iload_n i_74_35 rfl rfl ?_
      refine x_baload (v := 1) i_74_36 g_30 (pm_get_e) rfl q2 ?_
      refine x_ifF i_74_37 rfl (by unfold pm_cmp; decide) rfl ?_
      refine x_iconst i_74_40 (by decide) rfl ?_
      exact x_iretz i_74_41 r_74 (by unfold pm_bit; decide) h
/-! GateBenchModel.begin at 0 -/
theorem s_75_0 {L : Nat} {M : pm_M} {Q : pm_P}
    (h : pm_X L (75, 2, [some (.inr (.inl 24)), some (.inl 0)], [], M) Q) :
    pm_X L (75, 0, [some (.inr (.inl 24)), none], [], M) Q := by
  refine x_iconst i_75_0 (by decide) rfl ?_
  refine x_istore_n i_75_1 (Nat.le_of_ble_eq_true rfl) rfl rfl ?_
  exact h
/-! GateBenchModel.begin at 2 -/
theorem s_75_2 {L : Nat} {M : pm_M} {Q : pm_P} {a1 : Int}
    (h : ((12 ≤ a1 → Q (.inl none) M) ∧ (¬ (12 ≤ a1) → (0 ≤ a1 ∧ a1 < 12) ∧ ((0 ≤ a1 ∧ a1 < 12) ∧ pm_bit (M 30 a1)) ∧ (pm_R (a1 + 1)) ∧ pm_X L (75, 2, [some (.inr (.inl 24)), some (.inl (a1 + 1))], [], pm_set (pm_set M 31 a1 (M 30 a1)) 30 a1 0) Q))) :
    pm_X L (75, 2, [some (.inr (.inl 24)), some (.inl a1)], [], M) Q := by
  refine x_iload_n i_75_2 rfl rfl ?_
  refine x_bipush i_75_3 (by decide) rfl ?_
  refine x_icmp (C := 12 ≤ a1) i_75_5 rfl Iff.rfl rfl ⟨fun c1 => ?_, fun c1 => ?_⟩
  · replace h := h.1 c1
    exact x_ret i_75_33 r_75 h
  · replace h := h.2 c1
    refine x_aload_n i_75_8 rfl rfl ?_
    refine x_getr i_75_9 f_75_42 g_24 rfl rfl ?_
    refine x_iload_n i_75_12 rfl rfl ?_
    refine x_aload_n i_75_13 rfl rfl ?_
    refine x_getr i_75_14 f_75_38 g_24 rfl rfl ?_
    refine x_iload_n i_75_17 rfl rfl ?_
    obtain ⟨q2, h⟩ := h
    refine x_baload (v := M 30 a1) i_75_18 g_30 (rfl) rfl q2 ?_
    obtain ⟨q3, h⟩ := h
    refine x_bastore i_75_19 g_31 rfl q3 ?_
    refine x_aload_n i_75_20 rfl rfl ?_
    refine x_getr i_75_21 f_75_38 g_24 rfl rfl ?_
    refine x_iload_n i_75_24 rfl rfl ?_
    refine x_iconst i_75_25 (by decide) rfl ?_
    refine x_bastore i_75_26 g_30 rfl ⟨q2, by unfold pm_bit; decide⟩ ?_
    obtain ⟨q4, h⟩ := h
    refine x_iinc i_75_27 rfl (by decide) rfl rfl q4 ?_
    refine x_goto i_75_30 rfl ?_
    exact h
/-! GateBenchModel.back at 0 -/
theorem s_76_0 {L : Nat} {M : pm_M} {Q : pm_P}
    (h : pm_X L (76, 2, [some (.inr (.inl 24)), some (.inl 0)], [], M) Q) :
    pm_X L (76, 0, [some (.inr (.inl 24)), none], [], M) Q := by
  refine x_iconst i_76_0 (by decide) rfl ?_
  refine x_istore_n i_76_1 (Nat.le_of_ble_eq_true rfl) rfl rfl ?_
  exact h
/-! GateBenchModel.back at 2 -/
theorem s_76_2 {L : Nat} {M : pm_M} {Q : pm_P} {a1 : Int}
    (h : ((12 ≤ a1 → Q (.inl none) M) ∧ (¬ (12 ≤ a1) → (0 ≤ a1 ∧ a1 < 12) ∧ ((0 ≤ a1 ∧ a1 < 12) ∧ pm_bit (M 31 a1)) ∧ (pm_R (a1 + 1)) ∧ pm_X L (76, 2, [some (.inr (.inl 24)), some (.inl (a1 + 1))], [], pm_set M 30 a1 (M 31 a1)) Q))) :
    pm_X L (76, 2, [some (.inr (.inl 24)), some (.inl a1)], [], M) Q := by
  refine x_iload_n i_76_2 rfl rfl ?_
  refine x_bipush i_76_3 (by decide) rfl ?_
  refine x_icmp (C := 12 ≤ a1) i_76_5 rfl Iff.rfl rfl ⟨fun c1 => ?_, fun c1 => ?_⟩
  · replace h := h.1 c1
    exact x_ret i_76_26 r_76 h
  · replace h := h.2 c1
    refine x_aload_n i_76_8 rfl rfl ?_
    refine x_getr i_76_9 f_76_38 g_24 rfl rfl ?_
    refine x_iload_n i_76_12 rfl rfl ?_
    refine x_aload_n i_76_13 rfl rfl ?_
    refine x_getr i_76_14 f_76_42 g_24 rfl rfl ?_
    refine x_iload_n i_76_17 rfl rfl ?_
    obtain ⟨q2, h⟩ := h
    refine x_baload (v := M 31 a1) i_76_18 g_31 (rfl) rfl q2 ?_
    obtain ⟨q3, h⟩ := h
    refine x_bastore i_76_19 g_30 rfl q3 ?_
    obtain ⟨q4, h⟩ := h
    refine x_iinc i_76_20 rfl (by decide) rfl rfl q4 ?_
    refine x_goto i_76_23 rfl ?_
    exact h
/-! GateBenchModel.some at 0 -/
theorem s_77_0 {L : Nat} {M : pm_M} {Q : pm_P} {a2 : Int} {q : Nat} (gq : (pm_cells L)[q]? = some (.inl (0, 20)))
    (h : pm_X L (75, 0, [some (.inr (.inl 24)), none], [], M) (pm_back (pm_X L) 77 1 [some (.inr (.inl 24)), some (.inr (.inl q)), some (.inl a2), none, none, none] [] Q)) :
    pm_X L (77, 0, [some (.inr (.inl 24)), some (.inr (.inl q)), some (.inl a2), none, none, none], [], M) Q := by
  refine x_aload_n i_77_0 rfl rfl ?_
  refine x_callv (as := []) (rest := []) i_77_1 k_77_63 rfl rfl rfl g_24 (Nat.le_of_ble_eq_true rfl) m_75 rfl h
/-! GateBenchModel.some at 4 -/
theorem s_77_4 {L : Nat} {M : pm_M} {Q : pm_P} {a2 : Int} {q : Nat} (gq : (pm_cells L)[q]? = some (.inl (0, 20)))
    (h : pm_X L (77, 6, [some (.inr (.inl 24)), some (.inr (.inl q)), some (.inl a2), some (.inl 1), none, none], [], M) Q) :
    pm_X L (77, 4, [some (.inr (.inl 24)), some (.inr (.inl q)), some (.inl a2), none, none, none], [], M) Q := by
  refine x_iconst i_77_4 (by decide) rfl ?_
  refine x_istore_n i_77_5 (Nat.le_of_ble_eq_true rfl) rfl rfl ?_
  exact h
/-! GateBenchModel.some at 6 -/
theorem s_77_6 {L : Nat} {M : pm_M} {Q : pm_P} {a2 a3 : Int} {o4 o5 : Option pm_V} {q : Nat} (gq : (pm_cells L)[q]? = some (.inl (0, 20)))
    (h : ((a3 = 0 → pm_X L (76, 0, [some (.inr (.inl 24)), none], [], M) (pm_back (pm_X L) 77 72 [some (.inr (.inl 24)), some (.inr (.inl q)), some (.inl a2), some (.inl a3), o4, o5] [] Q)) ∧ (¬ (a3 = 0) → pm_X L (73, 0, [some (.inr (.inl 24)), none], [], M) (pm_back (pm_X L) 77 11 [some (.inr (.inl 24)), some (.inr (.inl q)), some (.inl a2), some (.inl a3), o4, o5] [] Q)))) :
    pm_X L (77, 6, [some (.inr (.inl 24)), some (.inr (.inl q)), some (.inl a2), some (.inl a3), o4, o5], [], M) Q := by
  refine x_iload_n i_77_6 rfl rfl ?_
  refine x_if (C := a3 = 0) i_77_7 rfl Iff.rfl rfl ⟨fun c1 => ?_, fun c1 => ?_⟩
  · replace h := h.1 c1
    refine x_aload_n i_77_71 rfl rfl ?_
    refine x_callv (as := []) (rest := []) i_77_72 k_77_73 rfl rfl rfl g_24 (Nat.le_of_ble_eq_true rfl) m_76 rfl h
  · replace h := h.2 c1
    refine x_aload_n i_77_10 rfl rfl ?_
    refine x_callv (as := []) (rest := []) i_77_11 k_77_66 rfl rfl rfl g_24 (Nat.le_of_ble_eq_true rfl) m_73 rfl h
/-! GateBenchModel.some at 14 -/
theorem s_77_14 {L : Nat} {M : pm_M} {Q : pm_P} {a2 a3 : Int} {o4 o5 : Option pm_V} {q : Nat} (gq : (pm_cells L)[q]? = some (.inl (0, 20)))
    (h : pm_X L (77, 20, [some (.inr (.inl 24)), some (.inr (.inl q)), some (.inl a2), some (.inl a3), some (.inl 1), some (.inl 0)], [], M) Q) :
    pm_X L (77, 14, [some (.inr (.inl 24)), some (.inr (.inl q)), some (.inl a2), some (.inl a3), o4, o5], [], M) Q := by
  refine x_iconst i_77_14 (by decide) rfl ?_
  refine x_istore i_77_15 (Nat.le_of_ble_eq_true rfl) rfl rfl ?_
  refine x_iconst i_77_17 (by decide) rfl ?_
  refine x_istore i_77_18 (Nat.le_of_ble_eq_true rfl) rfl rfl ?_
  exact h
/-! GateBenchModel.some at 20 -/
theorem s_77_20 {L : Nat} {M : pm_M} {Q : pm_P} {a2 a3 a4 a5 : Int} {q : Nat} (gq : (pm_cells L)[q]? = some (.inl (0, 20)))
    (h : ((a2 ≤ a5 → ((a4 = 0 → pm_X L (74, 0, [some (.inr (.inl 24)), none], [], M) (pm_back (pm_X L) 77 64 [some (.inr (.inl 24)), some (.inr (.inl q)), some (.inl a2), some (.inl a3), some (.inl a4), some (.inl a5)] [] Q)) ∧ (¬ (a4 = 0) → Q (.inl (some (.inl 1))) M))) ∧ (¬ (a2 ≤ a5) → ((a4 = 0 → (pm_R (a5 + 1)) ∧ pm_X L (77, 20, [some (.inr (.inl 24)), some (.inr (.inl q)), some (.inl a2), some (.inl a3), some (.inl 0), some (.inl (a5 + 1))], [], M) Q) ∧ (¬ (a4 = 0) → (0 ≤ a5 ∧ a5 < 20) ∧ (0 ≤ M q a5 ∧ M q a5 < 2000) ∧ ((M 32 (M q a5) = 0 → (pm_R (a5 + 1)) ∧ pm_X L (77, 20, [some (.inr (.inl 24)), some (.inr (.inl q)), some (.inl a2), some (.inl a3), some (.inl 0), some (.inl (a5 + 1))], [], M) Q) ∧ (¬ (M 32 (M q a5) = 0) → (pm_R (a5 + 1)) ∧ pm_X L (77, 20, [some (.inr (.inl 24)), some (.inr (.inl q)), some (.inl a2), some (.inl a3), some (.inl 1), some (.inl (a5 + 1))], [], M) Q))))))) :
    pm_X L (77, 20, [some (.inr (.inl 24)), some (.inr (.inl q)), some (.inl a2), some (.inl a3), some (.inl a4), some (.inl a5)], [], M) Q := by
  refine x_iload i_77_20 rfl rfl ?_
  refine x_iload_n i_77_22 rfl rfl ?_
  refine x_icmp (C := a2 ≤ a5) i_77_23 rfl Iff.rfl rfl ⟨fun c1 => ?_, fun c1 => ?_⟩
  · replace h := h.1 c1
    refine x_iload i_77_56 rfl rfl ?_
    refine x_if (C := a4 = 0) i_77_58 rfl Iff.rfl rfl ⟨fun c2 => ?_, fun c2 => ?_⟩
    · replace h := h.1 c2
      refine x_aload_n i_77_63 rfl rfl ?_
      refine x_callv (as := []) (rest := []) i_77_64 k_77_69 rfl rfl rfl g_24 (Nat.le_of_ble_eq_true rfl) m_74 rfl h
    · replace h := h.2 c2
      refine x_iconst i_77_61 (by decide) rfl ?_
      exact x_iretz i_77_62 r_77 (by unfold pm_bit; decide) h
  · replace h := h.2 c1
    refine x_iload i_77_26 rfl rfl ?_
    refine x_if (C := a4 = 0) i_77_28 rfl Iff.rfl rfl ⟨fun c3 => ?_, fun c3 => ?_⟩
    · replace h := h.1 c3
      refine x_iconst i_77_47 (by decide) rfl ?_
      refine x_istore i_77_48 (Nat.le_of_ble_eq_true rfl) rfl rfl ?_
      obtain ⟨q4, h⟩ := h
      refine x_iinc i_77_50 rfl (by decide) rfl rfl q4 ?_
      refine x_goto i_77_53 rfl ?_
      exact h
    · replace h := h.2 c3
      refine x_aload_n i_77_31 rfl rfl ?_
      refine x_getr i_77_32 f_77_45 g_24 rfl rfl ?_
      refine x_aload_n i_77_35 rfl rfl ?_
      refine x_iload i_77_36 rfl rfl ?_
      obtain ⟨q5, h⟩ := h
      refine x_iaload (v := M q a5) i_77_38 gq (rfl) rfl q5 ?_
      obtain ⟨q6, h⟩ := h
      refine x_baload (v := M 32 (M q a5)) i_77_39 g_32 (rfl) rfl q6 ?_
      refine x_if (C := M 32 (M q a5) = 0) i_77_40 rfl Iff.rfl rfl ⟨fun c7 => ?_, fun c7 => ?_⟩
      · replace h := h.1 c7
        refine x_iconst i_77_47 (by decide) rfl ?_
        refine x_istore i_77_48 (Nat.le_of_ble_eq_true rfl) rfl rfl ?_
        obtain ⟨q8, h⟩ := h
        refine x_iinc i_77_50 rfl (by decide) rfl rfl q8 ?_
        refine x_goto i_77_53 rfl ?_
        exact h
      · replace h := h.2 c7
        refine x_iconst i_77_43 (by decide) rfl ?_
        refine x_goto i_77_44 rfl ?_
        refine x_istore i_77_48 (Nat.le_of_ble_eq_true rfl) rfl rfl ?_
        obtain ⟨q9, h⟩ := h
        refine x_iinc i_77_50 rfl (by decide) rfl rfl q9 ?_
        refine x_goto i_77_53 rfl ?_
        exact h
/-! GateBenchModel.some at 67 -/
theorem s_77_67 {L : Nat} {M : pm_M} {Q : pm_P} {a2 a3 a4 a5 r : Int} {q : Nat} (gq : (pm_cells L)[q]? = some (.inl (0, 20)))
    (h : pm_X L (77, 6, [some (.inr (.inl 24)), some (.inr (.inl q)), some (.inl a2), some (.inl r), some (.inl a4), some (.inl a5)], [], M) Q) :
    pm_X L (77, 67, [some (.inr (.inl 24)), some (.inr (.inl q)), some (.inl a2), some (.inl a3), some (.inl a4), some (.inl a5)], [.inl r], M) Q := by
  refine x_istore_n i_77_67 (Nat.le_of_ble_eq_true rfl) rfl rfl ?_
  refine x_goto i_77_68 rfl ?_
  exact h
/-! GateBenchModel.some at 75 -/
theorem s_77_75 {L : Nat} {M : pm_M} {Q : pm_P} {a2 a3 : Int} {o4 o5 : Option pm_V} {q : Nat} (gq : (pm_cells L)[q]? = some (.inl (0, 20)))
    (h : Q (.inl (some (.inl 0))) M) :
    pm_X L (77, 75, [some (.inr (.inl 24)), some (.inr (.inl q)), some (.inl a2), some (.inl a3), o4, o5], [], M) Q := by
  refine x_iconst i_77_75 (by decide) rfl ?_
  exact x_iretz i_77_76 r_77 (by unfold pm_bit; decide) h
/-! GateBenchModel.can at 0 -/
theorem s_78_0 {L : Nat} {M : pm_M} {Q : pm_P}
    (h : pm_X L (77, 0, [some (.inr (.inl 24)), some (.inr (.inl 29)), some (.inl (M 24 3)), none, none, none], [], pm_set M 24 0 0) (pm_back (pm_X L) 78 14 [some (.inr (.inl 24))] [] Q)) :
    pm_X L (78, 0, [some (.inr (.inl 24))], [], M) Q := by
  refine x_aload_n i_78_0 rfl rfl ?_
  refine x_iconst i_78_1 (by decide) rfl ?_
  refine x_puti i_78_2 f_78_7 g_24 rfl rfl ?_
  refine x_aload_n i_78_5 rfl rfl ?_
  refine x_aload_n i_78_6 rfl rfl ?_
  refine x_getr i_78_7 f_78_35 g_24 rfl rfl ?_
  refine x_aload_n i_78_10 rfl rfl ?_
  refine x_geti (v := M 24 3) i_78_11 f_78_19 g_24 rfl (pm_get_j (by decide) rfl) rfl ?_
  refine x_callv (as := [.inr (.inl 29), .inl (M 24 3)]) (rest := []) i_78_14 k_78_76 rfl rfl rfl g_24 (Nat.le_of_ble_eq_true rfl) m_77 rfl h
/-! GateBenchModel.can at 17 -/
theorem s_78_17 {L : Nat} {M : pm_M} {Q : pm_P} {r : Int}
    (h : (pm_bit r) ∧ Q (.inl (some (.inl r))) M) :
    pm_X L (78, 17, [some (.inr (.inl 24))], [.inl r], M) Q := by
  obtain ⟨q1, h⟩ := h
  exact x_iretz i_78_17 r_78 q1 h
/-! GateBenchModel.shorten at 0 -/
theorem s_79_0 {L : Nat} {M : pm_M} {Q : pm_P}
    (h : pm_X L (77, 0, [some (.inr (.inl 24)), some (.inr (.inl 29)), some (.inl (M 24 3)), none, none, none], [], pm_set M 24 0 0) (pm_back (pm_X L) 79 14 [some (.inr (.inl 24)), none, none, none] [] Q)) :
    pm_X L (79, 0, [some (.inr (.inl 24)), none, none, none], [], M) Q := by
  refine x_aload_n i_79_0 rfl rfl ?_
  refine x_iconst i_79_1 (by decide) rfl ?_
  refine x_puti i_79_2 f_79_7 g_24 rfl rfl ?_
  refine x_aload_n i_79_5 rfl rfl ?_
  refine x_aload_n i_79_6 rfl rfl ?_
  refine x_getr i_79_7 f_79_35 g_24 rfl rfl ?_
  refine x_aload_n i_79_10 rfl rfl ?_
  refine x_geti (v := M 24 3) i_79_11 f_79_19 g_24 rfl (pm_get_j (by decide) rfl) rfl ?_
  refine x_callv (as := [.inr (.inl 29), .inl (M 24 3)]) (rest := []) i_79_14 k_79_76 rfl rfl rfl g_24 (Nat.le_of_ble_eq_true rfl) m_77 rfl h
/-! GateBenchModel.shorten at 17 -/
theorem s_79_17 {L : Nat} {M : pm_M} {Q : pm_P} {r : Int}
    (h : ((r = 0 → pm_X L (79, 28, [some (.inr (.inl 24)), some (.inl 0), none, none], [], M) Q) ∧ (¬ (r = 0) → pm_X L (76, 0, [some (.inr (.inl 24)), none], [], M) (pm_back (pm_X L) 79 21 [some (.inr (.inl 24)), none, none, none] [] Q)))) :
    pm_X L (79, 17, [some (.inr (.inl 24)), none, none, none], [.inl r], M) Q := by
  refine x_if (C := r = 0) i_79_17 rfl Iff.rfl rfl ⟨fun c1 => ?_, fun c1 => ?_⟩
  · replace h := h.1 c1
    refine x_iconst i_79_26 (by decide) rfl ?_
    refine x_istore_n i_79_27 (Nat.le_of_ble_eq_true rfl) rfl rfl ?_
    exact h
  · replace h := h.2 c1
    refine x_aload_n i_79_20 rfl rfl ?_
    refine x_callv (as := []) (rest := []) i_79_21 k_79_73 rfl rfl rfl g_24 (Nat.le_of_ble_eq_true rfl) m_76 rfl h
/-! GateBenchModel.shorten at 24 -/
theorem s_79_24 {L : Nat} {M : pm_M} {Q : pm_P}
    (h : Q (.inl (some (.inl (-1)))) M) :
    pm_X L (79, 24, [some (.inr (.inl 24)), none, none, none], [], M) Q := by
  refine x_iconst i_79_24 (by decide) rfl ?_
  exact x_ireti i_79_25 r_79 h
/-! GateBenchModel.shorten at 28 -/
theorem s_79_28 {L : Nat} {M : pm_M} {Q : pm_P} {a1 : Int} {o2 o3 : Option pm_V}
    (h : ((M 24 3 ≤ a1 → Q (.inl (some (.inl (M 24 3)))) M) ∧ (¬ (M 24 3 ≤ a1) → pm_X L (79, 40, [some (.inr (.inl 24)), some (.inl a1), some (.inl 0), some (.inl 0)], [], M) Q))) :
    pm_X L (79, 28, [some (.inr (.inl 24)), some (.inl a1), o2, o3], [], M) Q := by
  refine x_iload_n i_79_28 rfl rfl ?_
  refine x_aload_n i_79_29 rfl rfl ?_
  refine x_geti (v := M 24 3) i_79_30 f_79_19 g_24 rfl (rfl) rfl ?_
  refine x_icmp (C := M 24 3 ≤ a1) i_79_33 rfl Iff.rfl rfl ⟨fun c1 => ?_, fun c1 => ?_⟩
  · replace h := h.1 c1
    refine x_aload_n i_79_129 rfl rfl ?_
    refine x_geti (v := M 24 3) i_79_130 f_79_19 g_24 rfl (rfl) rfl ?_
    exact x_ireti i_79_133 r_79 h
  · replace h := h.2 c1
    refine x_iconst i_79_36 (by decide) rfl ?_
    refine x_istore_n i_79_37 (Nat.le_of_ble_eq_true rfl) rfl rfl ?_
    refine x_iconst i_79_38 (by decide) rfl ?_
    refine x_istore_n i_79_39 (Nat.le_of_ble_eq_true rfl) rfl rfl ?_
    exact h
/-! GateBenchModel.shorten at 40 -/
theorem s_79_40 {L : Nat} {M : pm_M} {Q : pm_P} {a1 a2 a3 : Int}
    (h : ((M 24 3 ≤ a3 → pm_X L (77, 0, [some (.inr (.inl 24)), some (.inr (.inl 33)), some (.inl a2), none, none, none], [], M) (pm_back (pm_X L) 79 80 [some (.inr (.inl 24)), some (.inl a1), some (.inl a2), some (.inl a3)] [] Q)) ∧ (¬ (M 24 3 ≤ a3) → ((a3 = a1 → (pm_R (a3 + 1)) ∧ pm_X L (79, 40, [some (.inr (.inl 24)), some (.inl a1), some (.inl a2), some (.inl (a3 + 1))], [], M) Q) ∧ (¬ (a3 = a1) → (pm_R (a2 + 1)) ∧ (0 ≤ a3 ∧ a3 < 20) ∧ (0 ≤ a2 ∧ a2 < 20) ∧ (pm_R (a3 + 1)) ∧ pm_X L (79, 40, [some (.inr (.inl 24)), some (.inl a1), some (.inl (a2 + 1)), some (.inl (a3 + 1))], [], pm_set M 33 a2 (M 29 a3)) Q))))) :
    pm_X L (79, 40, [some (.inr (.inl 24)), some (.inl a1), some (.inl a2), some (.inl a3)], [], M) Q := by
  refine x_iload_n i_79_40 rfl rfl ?_
  refine x_aload_n i_79_41 rfl rfl ?_
  refine x_geti (v := M 24 3) i_79_42 f_79_19 g_24 rfl (rfl) rfl ?_
  refine x_icmp (C := M 24 3 ≤ a3) i_79_45 rfl Iff.rfl rfl ⟨fun c1 => ?_, fun c1 => ?_⟩
  · replace h := h.1 c1
    refine x_aload_n i_79_74 rfl rfl ?_
    refine x_aload_n i_79_75 rfl rfl ?_
    refine x_getr i_79_76 f_79_48 g_24 rfl rfl ?_
    refine x_iload_n i_79_79 rfl rfl ?_
    refine x_callv (as := [.inr (.inl 33), .inl a2]) (rest := []) i_79_80 k_79_76 rfl rfl rfl g_24 (Nat.le_of_ble_eq_true rfl) m_77 rfl h
  · replace h := h.2 c1
    refine x_iload_n i_79_48 rfl rfl ?_
    refine x_iload_n i_79_49 rfl rfl ?_
    refine x_icmp (C := a3 = a1) i_79_50 rfl Iff.rfl rfl ⟨fun c2 => ?_, fun c2 => ?_⟩
    · replace h := h.1 c2
      obtain ⟨q3, h⟩ := h
      refine x_iinc i_79_68 rfl (by decide) rfl rfl q3 ?_
      refine x_goto i_79_71 rfl ?_
      exact h
    · replace h := h.2 c2
      refine x_aload_n i_79_53 rfl rfl ?_
      refine x_getr i_79_54 f_79_48 g_24 rfl rfl ?_
      refine x_iload_n i_79_57 rfl rfl ?_
      obtain ⟨q4, h⟩ := h
      refine x_iinc i_79_58 rfl (by decide) rfl rfl q4 ?_
      refine x_aload_n i_79_61 rfl rfl ?_
      refine x_getr i_79_62 f_79_35 g_24 rfl rfl ?_
      refine x_iload_n i_79_65 rfl rfl ?_
      obtain ⟨q5, h⟩ := h
      refine x_iaload (v := M 29 a3) i_79_66 g_29 (rfl) rfl q5 ?_
      obtain ⟨q6, h⟩ := h
      refine x_iastore i_79_67 g_33 rfl q6 ?_
      obtain ⟨q7, h⟩ := h
      refine x_iinc i_79_68 rfl (by decide) rfl rfl q7 ?_
      refine x_goto i_79_71 rfl ?_
      exact h
/-! GateBenchModel.shorten at 83 -/
theorem s_79_83 {L : Nat} {M : pm_M} {Q : pm_P} {a1 a2 a3 r : Int}
    (h : ((r = 0 → pm_X L (79, 103, [some (.inr (.inl 24)), some (.inl a1), some (.inl a2), some (.inl 0)], [], pm_set M 24 3 a2) Q) ∧ (¬ (r = 0) → pm_X L (76, 0, [some (.inr (.inl 24)), none], [], M) (pm_back (pm_X L) 79 87 [some (.inr (.inl 24)), some (.inl a1), some (.inl a2), some (.inl a3)] [] Q)))) :
    pm_X L (79, 83, [some (.inr (.inl 24)), some (.inl a1), some (.inl a2), some (.inl a3)], [.inl r], M) Q := by
  refine x_if (C := r = 0) i_79_83 rfl Iff.rfl rfl ⟨fun c1 => ?_, fun c1 => ?_⟩
  · replace h := h.1 c1
    refine x_aload_n i_79_96 rfl rfl ?_
    refine x_iload_n i_79_97 rfl rfl ?_
    refine x_puti i_79_98 f_79_19 g_24 rfl rfl ?_
    refine x_iconst i_79_101 (by decide) rfl ?_
    refine x_istore_n i_79_102 (Nat.le_of_ble_eq_true rfl) rfl rfl ?_
    exact h
  · replace h := h.2 c1
    refine x_aload_n i_79_86 rfl rfl ?_
    refine x_callv (as := []) (rest := []) i_79_87 k_79_73 rfl rfl rfl g_24 (Nat.le_of_ble_eq_true rfl) m_76 rfl h
/-! GateBenchModel.shorten at 90 -/
theorem s_79_90 {L : Nat} {M : pm_M} {Q : pm_P} {a1 a2 a3 : Int}
    (h : (pm_R (a1 + 1)) ∧ pm_X L (79, 28, [some (.inr (.inl 24)), some (.inl (a1 + 1)), some (.inl a2), some (.inl a3)], [], M) Q) :
    pm_X L (79, 90, [some (.inr (.inl 24)), some (.inl a1), some (.inl a2), some (.inl a3)], [], M) Q := by
  obtain ⟨q1, h⟩ := h
  refine x_iinc i_79_90 rfl (by decide) rfl rfl q1 ?_
  refine x_goto i_79_93 rfl ?_
  refine x_goto i_79_126 rfl ?_
  exact h
/-! GateBenchModel.shorten at 103 -/
theorem s_79_103 {L : Nat} {M : pm_M} {Q : pm_P} {a1 a2 a3 : Int}
    (h : ((a2 ≤ a3 → pm_X L (79, 28, [some (.inr (.inl 24)), some (.inl a1), some (.inl a2), some (.inl a3)], [], M) Q) ∧ (¬ (a2 ≤ a3) → (0 ≤ a3 ∧ a3 < 20) ∧ (pm_R (a3 + 1)) ∧ pm_X L (79, 103, [some (.inr (.inl 24)), some (.inl a1), some (.inl a2), some (.inl (a3 + 1))], [], pm_set M 29 a3 (M 33 a3)) Q))) :
    pm_X L (79, 103, [some (.inr (.inl 24)), some (.inl a1), some (.inl a2), some (.inl a3)], [], M) Q := by
  refine x_iload_n i_79_103 rfl rfl ?_
  refine x_iload_n i_79_104 rfl rfl ?_
  refine x_icmp (C := a2 ≤ a3) i_79_105 rfl Iff.rfl rfl ⟨fun c1 => ?_, fun c1 => ?_⟩
  · replace h := h.1 c1
    refine x_goto i_79_126 rfl ?_
    exact h
  · replace h := h.2 c1
    refine x_aload_n i_79_108 rfl rfl ?_
    refine x_getr i_79_109 f_79_35 g_24 rfl rfl ?_
    refine x_iload_n i_79_112 rfl rfl ?_
    refine x_aload_n i_79_113 rfl rfl ?_
    refine x_getr i_79_114 f_79_48 g_24 rfl rfl ?_
    refine x_iload_n i_79_117 rfl rfl ?_
    obtain ⟨q2, h⟩ := h
    refine x_iaload (v := M 33 a3) i_79_118 g_33 (rfl) rfl q2 ?_
    refine x_iastore i_79_119 g_29 rfl q2 ?_
    obtain ⟨q3, h⟩ := h
    refine x_iinc i_79_120 rfl (by decide) rfl rfl q3 ?_
    refine x_goto i_79_123 rfl ?_
    exact h
/-! GateBenchModel.wanted at 0 -/
theorem s_80_0 {L : Nat} {M : pm_M} {Q : pm_P} {a1 : Int}
    (h : ((a1 < 0 → Q (.inl (some (.inl 0))) (pm_set (pm_set M 24 0 0) 24 0 1)) ∧ (¬ (a1 < 0) → ((a1 < M 24 3 → (0 ≤ a1 ∧ a1 < 20) ∧ Q (.inl (some (.inl (M 29 a1)))) (pm_set M 24 0 0)) ∧ (¬ (a1 < M 24 3) → Q (.inl (some (.inl 0))) (pm_set (pm_set M 24 0 0) 24 0 1)))))) :
    pm_X L (80, 0, [some (.inr (.inl 24)), some (.inl a1)], [], M) Q := by
  refine x_aload_n i_80_0 rfl rfl ?_
  refine x_iconst i_80_1 (by decide) rfl ?_
  refine x_puti i_80_2 f_80_7 g_24 rfl rfl ?_
  refine x_aload_n i_80_5 rfl rfl ?_
  refine x_iconst i_80_6 (by decide) rfl ?_
  refine x_iload_n i_80_7 rfl rfl ?_
  refine x_if (C := a1 < 0) i_80_8 rfl Iff.rfl rfl ⟨fun c1 => ?_, fun c1 => ?_⟩
  · replace h := h.1 c1
    refine x_iconst i_80_19 (by decide) rfl ?_
    refine x_goto i_80_20 rfl ?_
    refine x_callv (as := [.inl 1, .inl 1]) (rest := []) i_80_24 k_80_51 rfl rfl rfl g_24 (Nat.le_of_ble_eq_true rfl) m_64 rfl ?_
    refine x_iload_n i_64_0 rfl rfl ?_
    refine x_ifF i_64_1 rfl (by unfold pm_cmp; decide) rfl ?_
    refine x_aload_n i_64_4 rfl rfl ?_
    refine x_iload_n i_64_5 rfl rfl ?_
    refine x_puti i_64_6 f_64_7 g_24 rfl rfl ?_
    refine x_iload_n i_64_9 rfl rfl ?_
    refine x_iretz i_64_10 r_64 (by unfold pm_bit; decide) ?_
    refine x_bki rfl ?_
    refine x_ifF i_80_27 rfl (by unfold pm_cmp; decide) rfl ?_
    refine x_iconst i_80_30 (by decide) rfl ?_
    exact x_ireti i_80_31 r_80 h
  · replace h := h.2 c1
    refine x_iload_n i_80_11 rfl rfl ?_
    refine x_aload_n i_80_12 rfl rfl ?_
    refine x_geti (v := M 24 3) i_80_13 f_80_19 g_24 rfl (pm_get_j (by decide) rfl) rfl ?_
    refine x_icmp (C := a1 < M 24 3) i_80_16 rfl Iff.rfl rfl ⟨fun c2 => ?_, fun c2 => ?_⟩
    · replace h := h.1 c2
      refine x_iconst i_80_23 (by decide) rfl ?_
      refine x_callv (as := [.inl 1, .inl 0]) (rest := []) i_80_24 k_80_51 rfl rfl rfl g_24 (Nat.le_of_ble_eq_true rfl) m_64 rfl ?_
      refine x_iload_n i_64_0 rfl rfl ?_
      refine x_ifT i_64_1 rfl (by unfold pm_cmp; decide) ?_
      refine x_iload_n i_64_9 rfl rfl ?_
      refine x_iretz i_64_10 r_64 (by unfold pm_bit; decide) ?_
      refine x_bki rfl ?_
      refine x_ifT i_80_27 rfl (by unfold pm_cmp; decide) ?_
      refine x_aload_n i_80_32 rfl rfl ?_
      refine x_getr i_80_33 f_80_35 g_24 rfl rfl ?_
      refine x_iload_n i_80_36 rfl rfl ?_
      obtain ⟨q3, h⟩ := h
      refine x_iaload (v := M 29 a1) i_80_37 g_29 (pm_get_c (by decide) rfl) rfl q3 ?_
      exact x_ireti i_80_38 r_80 h
    · replace h := h.2 c2
      refine x_iconst i_80_19 (by decide) rfl ?_
      refine x_goto i_80_20 rfl ?_
      refine x_callv (as := [.inl 1, .inl 1]) (rest := []) i_80_24 k_80_51 rfl rfl rfl g_24 (Nat.le_of_ble_eq_true rfl) m_64 rfl ?_
      refine x_iload_n i_64_0 rfl rfl ?_
      refine x_ifF i_64_1 rfl (by unfold pm_cmp; decide) rfl ?_
      refine x_aload_n i_64_4 rfl rfl ?_
      refine x_iload_n i_64_5 rfl rfl ?_
      refine x_puti i_64_6 f_64_7 g_24 rfl rfl ?_
      refine x_iload_n i_64_9 rfl rfl ?_
      refine x_iretz i_64_10 r_64 (by unfold pm_bit; decide) ?_
      refine x_bki rfl ?_
      refine x_ifF i_80_27 rfl (by unfold pm_cmp; decide) rfl ?_
      refine x_iconst i_80_30 (by decide) rfl ?_
      exact x_ireti i_80_31 r_80 h
/-! GateBenchModel.same at 0 -/
theorem s_81_0 {L : Nat} {M : pm_M} {Q : pm_P} {a1 a2 : Int}
    (h : ((a1 < 0 → Q (.inl (some (.inl 0))) (pm_set (pm_set M 24 0 0) 24 0 1)) ∧ (¬ (a1 < 0) → ((a1 < M 24 1 → ((a2 < 0 → Q (.inl (some (.inl 0))) (pm_set (pm_set M 24 0 0) 24 0 1)) ∧ (¬ (a2 < 0) → ((a2 < M 24 1 → pm_X L (75, 0, [some (.inr (.inl 24)), none], [], pm_set M 24 0 0) (pm_back (pm_X L) 81 37 [some (.inr (.inl 24)), some (.inl a1), some (.inl a2), none] [] Q)) ∧ (¬ (a2 < M 24 1) → Q (.inl (some (.inl 0))) (pm_set (pm_set M 24 0 0) 24 0 1)))))) ∧ (¬ (a1 < M 24 1) → Q (.inl (some (.inl 0))) (pm_set (pm_set M 24 0 0) 24 0 1)))))) :
    pm_X L (81, 0, [some (.inr (.inl 24)), some (.inl a1), some (.inl a2), none], [], M) Q := by
  refine x_aload_n i_81_0 rfl rfl ?_
  refine x_iconst i_81_1 (by decide) rfl ?_
  refine x_puti i_81_2 f_81_7 g_24 rfl rfl ?_
  refine x_aload_n i_81_5 rfl rfl ?_
  refine x_iconst i_81_6 (by decide) rfl ?_
  refine x_aload_n i_81_7 rfl rfl ?_
  refine x_iload_n i_81_8 rfl rfl ?_
  refine x_callv (as := [.inl a1]) (rest := [.inl 1, .inr (.inl 24)]) i_81_9 k_81_59 rfl rfl rfl g_24 (Nat.le_of_ble_eq_true rfl) m_65 rfl ?_
  refine x_iload_n i_65_0 rfl rfl ?_
  refine x_if (C := a1 < 0) i_65_1 rfl Iff.rfl rfl ⟨fun c1 => ?_, fun c1 => ?_⟩
  · replace h := h.1 c1
    refine x_iconst i_65_12 (by decide) rfl ?_
    refine x_goto i_65_13 rfl ?_
    refine x_iretz i_65_17 r_65 (by unfold pm_bit; decide) ?_
    refine x_bki rfl ?_
    refine x_ifT i_81_12 rfl (by unfold pm_cmp; decide) ?_
    refine x_iconst i_81_23 (by decide) rfl ?_
    refine x_goto i_81_24 rfl ?_
    refine x_callv (as := [.inl 1, .inl 1]) (rest := []) i_81_28 k_81_51 rfl rfl rfl g_24 (Nat.le_of_ble_eq_true rfl) m_64 rfl ?_
    refine x_iload_n i_64_0 rfl rfl ?_
    refine x_ifF i_64_1 rfl (by unfold pm_cmp; decide) rfl ?_
    refine x_aload_n i_64_4 rfl rfl ?_
    refine x_iload_n i_64_5 rfl rfl ?_
    refine x_puti i_64_6 f_64_7 g_24 rfl rfl ?_
    refine x_iload_n i_64_9 rfl rfl ?_
    refine x_iretz i_64_10 r_64 (by unfold pm_bit; decide) ?_
    refine x_bki rfl ?_
    refine x_ifF i_81_31 rfl (by unfold pm_cmp; decide) rfl ?_
    refine x_iconst i_81_34 (by decide) rfl ?_
    exact x_iretz i_81_35 r_81 (by unfold pm_bit; decide) h
  · replace h := h.2 c1
    refine x_iload_n i_65_4 rfl rfl ?_
    refine x_aload_n i_65_5 rfl rfl ?_
    refine x_geti (v := M 24 1) i_65_6 f_65_13 g_24 rfl (pm_get_j (by decide) rfl) rfl ?_
    refine x_icmp (C := a1 < M 24 1) i_65_9 rfl Iff.rfl rfl ⟨fun c2 => ?_, fun c2 => ?_⟩
    · replace h := h.1 c2
      refine x_iconst i_65_16 (by decide) rfl ?_
      refine x_iretz i_65_17 r_65 (by unfold pm_bit; decide) ?_
      refine x_bki rfl ?_
      refine x_ifF i_81_12 rfl (by unfold pm_cmp; decide) rfl ?_
      refine x_aload_n i_81_15 rfl rfl ?_
      refine x_iload_n i_81_16 rfl rfl ?_
      refine x_callv (as := [.inl a2]) (rest := [.inl 1, .inr (.inl 24)]) i_81_17 k_81_59 rfl rfl rfl g_24 (Nat.le_of_ble_eq_true rfl) m_65 rfl ?_
      refine x_iload_n i_65_0 rfl rfl ?_
      refine x_if (C := a2 < 0) i_65_1 rfl Iff.rfl rfl ⟨fun c3 => ?_, fun c3 => ?_⟩
      · replace h := h.1 c3
        refine x_iconst i_65_12 (by decide) rfl ?_
        refine x_goto i_65_13 rfl ?_
        refine x_iretz i_65_17 r_65 (by unfold pm_bit; decide) ?_
        refine x_bki rfl ?_
        refine x_ifF i_81_20 rfl (by unfold pm_cmp; decide) rfl ?_
        refine x_iconst i_81_23 (by decide) rfl ?_
        refine x_goto i_81_24 rfl ?_
        refine x_callv (as := [.inl 1, .inl 1]) (rest := []) i_81_28 k_81_51 rfl rfl rfl g_24 (Nat.le_of_ble_eq_true rfl) m_64 rfl ?_
        refine x_iload_n i_64_0 rfl rfl ?_
        refine x_ifF i_64_1 rfl (by unfold pm_cmp; decide) rfl ?_
        refine x_aload_n i_64_4 rfl rfl ?_
        refine x_iload_n i_64_5 rfl rfl ?_
        refine x_puti i_64_6 f_64_7 g_24 rfl rfl ?_
        refine x_iload_n i_64_9 rfl rfl ?_
        refine x_iretz i_64_10 r_64 (by unfold pm_bit; decide) ?_
        refine x_bki rfl ?_
        refine x_ifF i_81_31 rfl (by unfold pm_cmp; decide) rfl ?_
        refine x_iconst i_81_34 (by decide) rfl ?_
        exact x_iretz i_81_35 r_81 (by unfold pm_bit; decide) h
      · replace h := h.2 c3
        refine x_iload_n i_65_4 rfl rfl ?_
        refine x_aload_n i_65_5 rfl rfl ?_
        refine x_geti (v := M 24 1) i_65_6 f_65_13 g_24 rfl (pm_get_j (by decide) rfl) rfl ?_
        refine x_icmp (C := a2 < M 24 1) i_65_9 rfl Iff.rfl rfl ⟨fun c4 => ?_, fun c4 => ?_⟩
        · replace h := h.1 c4
          refine x_iconst i_65_16 (by decide) rfl ?_
          refine x_iretz i_65_17 r_65 (by unfold pm_bit; decide) ?_
          refine x_bki rfl ?_
          refine x_ifT i_81_20 rfl (by unfold pm_cmp; decide) ?_
          refine x_iconst i_81_27 (by decide) rfl ?_
          refine x_callv (as := [.inl 1, .inl 0]) (rest := []) i_81_28 k_81_51 rfl rfl rfl g_24 (Nat.le_of_ble_eq_true rfl) m_64 rfl ?_
          refine x_iload_n i_64_0 rfl rfl ?_
          refine x_ifT i_64_1 rfl (by unfold pm_cmp; decide) ?_
          refine x_iload_n i_64_9 rfl rfl ?_
          refine x_iretz i_64_10 r_64 (by unfold pm_bit; decide) ?_
          refine x_bki rfl ?_
          refine x_ifT i_81_31 rfl (by unfold pm_cmp; decide) ?_
          refine x_aload_n i_81_36 rfl rfl ?_
          refine x_callv (as := []) (rest := []) i_81_37 k_81_63 rfl rfl rfl g_24 (Nat.le_of_ble_eq_true rfl) m_75 rfl h
        · replace h := h.2 c4
          refine x_iconst i_65_12 (by decide) rfl ?_
          refine x_goto i_65_13 rfl ?_
          refine x_iretz i_65_17 r_65 (by unfold pm_bit; decide) ?_
          refine x_bki rfl ?_
          refine x_ifF i_81_20 rfl (by unfold pm_cmp; decide) rfl ?_
          refine x_iconst i_81_23 (by decide) rfl ?_
          refine x_goto i_81_24 rfl ?_
          refine x_callv (as := [.inl 1, .inl 1]) (rest := []) i_81_28 k_81_51 rfl rfl rfl g_24 (Nat.le_of_ble_eq_true rfl) m_64 rfl ?_
          refine x_iload_n i_64_0 rfl rfl ?_
          refine x_ifF i_64_1 rfl (by unfold pm_cmp; decide) rfl ?_
          refine x_aload_n i_64_4 rfl rfl ?_
          refine x_iload_n i_64_5 rfl rfl ?_
          refine x_puti i_64_6 f_64_7 g_24 rfl rfl ?_
          refine x_iload_n i_64_9 rfl rfl ?_
          refine x_iretz i_64_10 r_64 (by unfold pm_bit; decide) ?_
          refine x_bki rfl ?_
          refine x_ifF i_81_31 rfl (by unfold pm_cmp; decide) rfl ?_
          refine x_iconst i_81_34 (by decide) rfl ?_
          exact x_iretz i_81_35 r_81 (by unfold pm_bit; decide) h
    · replace h := h.2 c2
      refine x_iconst i_65_12 (by decide) rfl ?_
      refine x_goto i_65_13 rfl ?_
      refine x_iretz i_65_17 r_65 (by unfold pm_bit; decide) ?_
      refine x_bki rfl ?_
      refine x_ifT i_81_12 rfl (by unfold pm_cmp; decide) ?_
      refine x_iconst i_81_23 (by decide) rfl ?_
      refine x_goto i_81_24 rfl ?_
      refine x_callv (as := [.inl 1, .inl 1]) (rest := []) i_81_28 k_81_51 rfl rfl rfl g_24 (Nat.le_of_ble_eq_true rfl) m_64 rfl ?_
      refine x_iload_n i_64_0 rfl rfl ?_
      refine x_ifF i_64_1 rfl (by unfold pm_cmp; decide) rfl ?_
      refine x_aload_n i_64_4 rfl rfl ?_
      refine x_iload_n i_64_5 rfl rfl ?_
      refine x_puti i_64_6 f_64_7 g_24 rfl rfl ?_
      refine x_iload_n i_64_9 rfl rfl ?_
      refine x_iretz i_64_10 r_64 (by unfold pm_bit; decide) ?_
      refine x_bki rfl ?_
      refine x_ifF i_81_31 rfl (by unfold pm_cmp; decide) rfl ?_
      refine x_iconst i_81_34 (by decide) rfl ?_
      exact x_iretz i_81_35 r_81 (by unfold pm_bit; decide) h
/-! GateBenchModel.same at 40 -/
theorem s_81_40 {L : Nat} {M : pm_M} {Q : pm_P} {a1 a2 : Int}
    (h : pm_X L (81, 42, [some (.inr (.inl 24)), some (.inl a1), some (.inl a2), some (.inl 1)], [], M) Q) :
    pm_X L (81, 40, [some (.inr (.inl 24)), some (.inl a1), some (.inl a2), none], [], M) Q := by
  refine x_iconst i_81_40 (by decide) rfl ?_
  refine x_istore_n i_81_41 (Nat.le_of_ble_eq_true rfl) rfl rfl ?_
  exact h
/-! GateBenchModel.same at 42 -/
theorem s_81_42 {L : Nat} {M : pm_M} {Q : pm_P} {a1 a2 a3 : Int}
    (h : ((a3 = 0 → pm_X L (76, 0, [some (.inr (.inl 24)), none], [], M) (pm_back (pm_X L) 81 76 [some (.inr (.inl 24)), some (.inl a1), some (.inl a2), some (.inl a3)] [] Q)) ∧ (¬ (a3 = 0) → pm_X L (73, 0, [some (.inr (.inl 24)), none], [], M) (pm_back (pm_X L) 81 47 [some (.inr (.inl 24)), some (.inl a1), some (.inl a2), some (.inl a3)] [] Q)))) :
    pm_X L (81, 42, [some (.inr (.inl 24)), some (.inl a1), some (.inl a2), some (.inl a3)], [], M) Q := by
  refine x_iload_n i_81_42 rfl rfl ?_
  refine x_if (C := a3 = 0) i_81_43 rfl Iff.rfl rfl ⟨fun c1 => ?_, fun c1 => ?_⟩
  · replace h := h.1 c1
    refine x_aload_n i_81_75 rfl rfl ?_
    refine x_callv (as := []) (rest := []) i_81_76 k_81_73 rfl rfl rfl g_24 (Nat.le_of_ble_eq_true rfl) m_76 rfl h
  · replace h := h.2 c1
    refine x_aload_n i_81_46 rfl rfl ?_
    refine x_callv (as := []) (rest := []) i_81_47 k_81_66 rfl rfl rfl g_24 (Nat.le_of_ble_eq_true rfl) m_73 rfl h
/-! GateBenchModel.same at 50 -/
theorem s_81_50 {L : Nat} {M : pm_M} {Q : pm_P} {a1 a2 a3 : Int}
    (h : (0 ≤ a1 ∧ a1 < 2000) ∧ (0 ≤ a2 ∧ a2 < 2000) ∧ ((M 32 a1 = M 32 a2 → pm_X L (74, 0, [some (.inr (.inl 24)), none], [], M) (pm_back (pm_X L) 81 68 [some (.inr (.inl 24)), some (.inl a1), some (.inl a2), some (.inl a3)] [] Q)) ∧ (¬ (M 32 a1 = M 32 a2) → Q (.inl (some (.inl 0))) M))) :
    pm_X L (81, 50, [some (.inr (.inl 24)), some (.inl a1), some (.inl a2), some (.inl a3)], [], M) Q := by
  refine x_aload_n i_81_50 rfl rfl ?_
  refine x_getr i_81_51 f_81_45 g_24 rfl rfl ?_
  refine x_iload_n i_81_54 rfl rfl ?_
  obtain ⟨q1, h⟩ := h
  refine x_baload (v := M 32 a1) i_81_55 g_32 (rfl) rfl q1 ?_
  refine x_aload_n i_81_56 rfl rfl ?_
  refine x_getr i_81_57 f_81_45 g_24 rfl rfl ?_
  refine x_iload_n i_81_60 rfl rfl ?_
  obtain ⟨q2, h⟩ := h
  refine x_baload (v := M 32 a2) i_81_61 g_32 (rfl) rfl q2 ?_
  refine x_icmp (C := M 32 a1 = M 32 a2) i_81_62 rfl Iff.rfl rfl ⟨fun c3 => ?_, fun c3 => ?_⟩
  · replace h := h.1 c3
    refine x_aload_n i_81_67 rfl rfl ?_
    refine x_callv (as := []) (rest := []) i_81_68 k_81_69 rfl rfl rfl g_24 (Nat.le_of_ble_eq_true rfl) m_74 rfl h
  · replace h := h.2 c3
    refine x_iconst i_81_65 (by decide) rfl ?_
    exact x_iretz i_81_66 r_81 (by unfold pm_bit; decide) h
/-! GateBenchModel.same at 71 -/
theorem s_81_71 {L : Nat} {M : pm_M} {Q : pm_P} {a1 a2 a3 r : Int}
    (h : pm_X L (81, 42, [some (.inr (.inl 24)), some (.inl a1), some (.inl a2), some (.inl r)], [], M) Q) :
    pm_X L (81, 71, [some (.inr (.inl 24)), some (.inl a1), some (.inl a2), some (.inl a3)], [.inl r], M) Q := by
  refine x_istore_n i_81_71 (Nat.le_of_ble_eq_true rfl) rfl rfl ?_
  refine x_goto i_81_72 rfl ?_
  exact h
/-! GateBenchModel.same at 79 -/
theorem s_81_79 {L : Nat} {M : pm_M} {Q : pm_P} {a1 a2 a3 : Int}
    (h : Q (.inl (some (.inl 1))) M) :
    pm_X L (81, 79, [some (.inr (.inl 24)), some (.inl a1), some (.inl a2), some (.inl a3)], [], M) Q := by
  refine x_iconst i_81_79 (by decide) rfl ?_
  exact x_iretz i_81_80 r_81 (by unfold pm_bit; decide) h
/-! GateBenchModel.put at 0 -/
theorem s_82_0 {L : Nat} {M : pm_M} {Q : pm_P} {a1 a2 : Int}
    (h : ((a1 < 0 → Q (.inl (some (.inl 0))) (pm_set (pm_set M 24 0 0) 24 0 1)) ∧ (¬ (a1 < 0) → ((a1 < M 24 2 → (0 ≤ a1 ∧ a1 < 12) ∧ ((0 ≤ a1 ∧ a1 < 12) ∧ pm_bit a2) ∧ (pm_bit (M 30 a1)) ∧ Q (.inl (some (.inl (M 30 a1)))) (pm_set (pm_set M 24 0 0) 30 a1 a2)) ∧ (¬ (a1 < M 24 2) → Q (.inl (some (.inl 0))) (pm_set (pm_set M 24 0 0) 24 0 1)))))) :
    pm_X L (82, 0, [some (.inr (.inl 24)), some (.inl a1), some (.inl a2), none], [], M) Q := by
  refine x_aload_n i_82_0 rfl rfl ?_
  refine x_iconst i_82_1 (by decide) rfl ?_
  refine x_puti i_82_2 f_82_7 g_24 rfl rfl ?_
  refine x_aload_n i_82_5 rfl rfl ?_
  refine x_iconst i_82_6 (by decide) rfl ?_
  refine x_iload_n i_82_7 rfl rfl ?_
  refine x_if (C := a1 < 0) i_82_8 rfl Iff.rfl rfl ⟨fun c1 => ?_, fun c1 => ?_⟩
  · replace h := h.1 c1
    refine x_iconst i_82_19 (by decide) rfl ?_
    refine x_goto i_82_20 rfl ?_
    refine x_callv (as := [.inl 1, .inl 1]) (rest := []) i_82_24 k_82_51 rfl rfl rfl g_24 (Nat.le_of_ble_eq_true rfl) m_64 rfl ?_
    refine x_iload_n i_64_0 rfl rfl ?_
    refine x_ifF i_64_1 rfl (by unfold pm_cmp; decide) rfl ?_
    refine x_aload_n i_64_4 rfl rfl ?_
    refine x_iload_n i_64_5 rfl rfl ?_
    refine x_puti i_64_6 f_64_7 g_24 rfl rfl ?_
    refine x_iload_n i_64_9 rfl rfl ?_
    refine x_iretz i_64_10 r_64 (by unfold pm_bit; decide) ?_
    refine x_bki rfl ?_
    refine x_ifF i_82_27 rfl (by unfold pm_cmp; decide) rfl ?_
    refine x_iconst i_82_30 (by decide) rfl ?_
    exact x_iretz i_82_31 r_82 (by unfold pm_bit; decide) h
  · replace h := h.2 c1
    refine x_iload_n i_82_11 rfl rfl ?_
    refine x_aload_n i_82_12 rfl rfl ?_
    refine x_geti (v := M 24 2) i_82_13 f_82_16 g_24 rfl (pm_get_j (by decide) rfl) rfl ?_
    refine x_icmp (C := a1 < M 24 2) i_82_16 rfl Iff.rfl rfl ⟨fun c2 => ?_, fun c2 => ?_⟩
    · replace h := h.1 c2
      refine x_iconst i_82_23 (by decide) rfl ?_
      refine x_callv (as := [.inl 1, .inl 0]) (rest := []) i_82_24 k_82_51 rfl rfl rfl g_24 (Nat.le_of_ble_eq_true rfl) m_64 rfl ?_
      refine x_iload_n i_64_0 rfl rfl ?_
      refine x_ifT i_64_1 rfl (by unfold pm_cmp; decide) ?_
      refine x_iload_n i_64_9 rfl rfl ?_
      refine x_iretz i_64_10 r_64 (by unfold pm_bit; decide) ?_
      refine x_bki rfl ?_
      refine x_ifT i_82_27 rfl (by unfold pm_cmp; decide) ?_
      refine x_aload_n i_82_32 rfl rfl ?_
      refine x_getr i_82_33 f_82_38 g_24 rfl rfl ?_
      refine x_iload_n i_82_36 rfl rfl ?_
      obtain ⟨q3, h⟩ := h
      refine x_baload (v := M 30 a1) i_82_37 g_30 (pm_get_c (by decide) rfl) rfl q3 ?_
      refine x_istore_n i_82_38 (Nat.le_of_ble_eq_true rfl) rfl rfl ?_
      refine x_aload_n i_82_39 rfl rfl ?_
      refine x_getr i_82_40 f_82_38 g_24 rfl rfl ?_
      refine x_iload_n i_82_43 rfl rfl ?_
      refine x_iload_n i_82_44 rfl rfl ?_
      obtain ⟨q4, h⟩ := h
      refine x_bastore i_82_45 g_30 rfl q4 ?_
      refine x_iload_n i_82_46 rfl rfl ?_
      obtain ⟨q5, h⟩ := h
      exact x_iretz i_82_47 r_82 q5 h
    · replace h := h.2 c2
      refine x_iconst i_82_19 (by decide) rfl ?_
      refine x_goto i_82_20 rfl ?_
      refine x_callv (as := [.inl 1, .inl 1]) (rest := []) i_82_24 k_82_51 rfl rfl rfl g_24 (Nat.le_of_ble_eq_true rfl) m_64 rfl ?_
      refine x_iload_n i_64_0 rfl rfl ?_
      refine x_ifF i_64_1 rfl (by unfold pm_cmp; decide) rfl ?_
      refine x_aload_n i_64_4 rfl rfl ?_
      refine x_iload_n i_64_5 rfl rfl ?_
      refine x_puti i_64_6 f_64_7 g_24 rfl rfl ?_
      refine x_iload_n i_64_9 rfl rfl ?_
      refine x_iretz i_64_10 r_64 (by unfold pm_bit; decide) ?_
      refine x_bki rfl ?_
      refine x_ifF i_82_27 rfl (by unfold pm_cmp; decide) rfl ?_
      refine x_iconst i_82_30 (by decide) rfl ?_
      exact x_iretz i_82_31 r_82 (by unfold pm_bit; decide) h
/-! GateBenchModel.value at 0 -/
theorem s_83_0 {L : Nat} {M : pm_M} {Q : pm_P} {a1 : Int}
    (h : ((a1 < 0 → Q (.inl (some (.inl 0))) (pm_set (pm_set M 24 0 0) 24 0 1)) ∧ (¬ (a1 < 0) → ((a1 < M 24 1 → pm_X L (73, 0, [some (.inr (.inl 24)), none], [], pm_set M 24 0 0) (pm_back (pm_X L) 83 21 [some (.inr (.inl 24)), some (.inl a1)] [] Q)) ∧ (¬ (a1 < M 24 1) → Q (.inl (some (.inl 0))) (pm_set (pm_set M 24 0 0) 24 0 1)))))) :
    pm_X L (83, 0, [some (.inr (.inl 24)), some (.inl a1)], [], M) Q := by
  refine x_aload_n i_83_0 rfl rfl ?_
  refine x_iconst i_83_1 (by decide) rfl ?_
  refine x_puti i_83_2 f_83_7 g_24 rfl rfl ?_
  refine x_aload_n i_83_5 rfl rfl ?_
  refine x_iconst i_83_6 (by decide) rfl ?_
  refine x_aload_n i_83_7 rfl rfl ?_
  refine x_iload_n i_83_8 rfl rfl ?_
  refine x_callv (as := [.inl a1]) (rest := [.inl 1, .inr (.inl 24)]) i_83_9 k_83_59 rfl rfl rfl g_24 (Nat.le_of_ble_eq_true rfl) m_65 rfl ?_
  refine x_iload_n i_65_0 rfl rfl ?_
  refine x_if (C := a1 < 0) i_65_1 rfl Iff.rfl rfl ⟨fun c1 => ?_, fun c1 => ?_⟩
  · replace h := h.1 c1
    refine x_iconst i_65_12 (by decide) rfl ?_
    refine x_goto i_65_13 rfl ?_
    refine x_iretz i_65_17 r_65 (by unfold pm_bit; decide) ?_
    refine x_bki rfl ?_
    refine x_callv (as := [.inl 1, .inl 1]) (rest := []) i_83_12 k_83_51 rfl rfl rfl g_24 (Nat.le_of_ble_eq_true rfl) m_64 rfl ?_
    refine x_iload_n i_64_0 rfl rfl ?_
    refine x_ifF i_64_1 rfl (by unfold pm_cmp; decide) rfl ?_
    refine x_aload_n i_64_4 rfl rfl ?_
    refine x_iload_n i_64_5 rfl rfl ?_
    refine x_puti i_64_6 f_64_7 g_24 rfl rfl ?_
    refine x_iload_n i_64_9 rfl rfl ?_
    refine x_iretz i_64_10 r_64 (by unfold pm_bit; decide) ?_
    refine x_bki rfl ?_
    refine x_ifF i_83_15 rfl (by unfold pm_cmp; decide) rfl ?_
    refine x_iconst i_83_18 (by decide) rfl ?_
    exact x_iretz i_83_19 r_83 (by unfold pm_bit; decide) h
  · replace h := h.2 c1
    refine x_iload_n i_65_4 rfl rfl ?_
    refine x_aload_n i_65_5 rfl rfl ?_
    refine x_geti (v := M 24 1) i_65_6 f_65_13 g_24 rfl (pm_get_j (by decide) rfl) rfl ?_
    refine x_icmp (C := a1 < M 24 1) i_65_9 rfl Iff.rfl rfl ⟨fun c2 => ?_, fun c2 => ?_⟩
    · replace h := h.1 c2
      refine x_iconst i_65_16 (by decide) rfl ?_
      refine x_iretz i_65_17 r_65 (by unfold pm_bit; decide) ?_
      refine x_bki rfl ?_
      refine x_callv (as := [.inl 1, .inl 0]) (rest := []) i_83_12 k_83_51 rfl rfl rfl g_24 (Nat.le_of_ble_eq_true rfl) m_64 rfl ?_
      refine x_iload_n i_64_0 rfl rfl ?_
      refine x_ifT i_64_1 rfl (by unfold pm_cmp; decide) ?_
      refine x_iload_n i_64_9 rfl rfl ?_
      refine x_iretz i_64_10 r_64 (by unfold pm_bit; decide) ?_
      refine x_bki rfl ?_
      refine x_ifT i_83_15 rfl (by unfold pm_cmp; decide) ?_
      refine x_aload_n i_83_20 rfl rfl ?_
      refine x_callv (as := []) (rest := []) i_83_21 k_83_66 rfl rfl rfl g_24 (Nat.le_of_ble_eq_true rfl) m_73 rfl h
    · replace h := h.2 c2
      refine x_iconst i_65_12 (by decide) rfl ?_
      refine x_goto i_65_13 rfl ?_
      refine x_iretz i_65_17 r_65 (by unfold pm_bit; decide) ?_
      refine x_bki rfl ?_
      refine x_callv (as := [.inl 1, .inl 1]) (rest := []) i_83_12 k_83_51 rfl rfl rfl g_24 (Nat.le_of_ble_eq_true rfl) m_64 rfl ?_
      refine x_iload_n i_64_0 rfl rfl ?_
      refine x_ifF i_64_1 rfl (by unfold pm_cmp; decide) rfl ?_
      refine x_aload_n i_64_4 rfl rfl ?_
      refine x_iload_n i_64_5 rfl rfl ?_
      refine x_puti i_64_6 f_64_7 g_24 rfl rfl ?_
      refine x_iload_n i_64_9 rfl rfl ?_
      refine x_iretz i_64_10 r_64 (by unfold pm_bit; decide) ?_
      refine x_bki rfl ?_
      refine x_ifF i_83_15 rfl (by unfold pm_cmp; decide) rfl ?_
      refine x_iconst i_83_18 (by decide) rfl ?_
      exact x_iretz i_83_19 r_83 (by unfold pm_bit; decide) h
/-! GateBenchModel.value at 24 -/
theorem s_83_24 {L : Nat} {M : pm_M} {Q : pm_P} {a1 : Int}
    (h : (0 ≤ a1 ∧ a1 < 2000) ∧ (pm_bit (M 32 a1)) ∧ Q (.inl (some (.inl (M 32 a1)))) M) :
    pm_X L (83, 24, [some (.inr (.inl 24)), some (.inl a1)], [], M) Q := by
  refine x_aload_n i_83_24 rfl rfl ?_
  refine x_getr i_83_25 f_83_45 g_24 rfl rfl ?_
  refine x_iload_n i_83_28 rfl rfl ?_
  obtain ⟨q1, h⟩ := h
  refine x_baload (v := M 32 a1) i_83_29 g_32 (rfl) rfl q1 ?_
  obtain ⟨q2, h⟩ := h
  exact x_iretz i_83_30 r_83 q2 h
/-! GateBenchModel.doubts at 0 -/
theorem s_84_0 {L : Nat} {M : pm_M} {Q : pm_P}
    (h : Q (.inl (some (.inl 0))) (pm_set M 24 0 0)) :
    pm_X L (84, 0, [some (.inr (.inl 24))], [], M) Q := by
  refine x_aload_n i_84_0 rfl rfl ?_
  refine x_iconst i_84_1 (by decide) rfl ?_
  refine x_puti i_84_2 f_84_7 g_24 rfl rfl ?_
  refine x_iconst i_84_5 (by decide) rfl ?_
  exact x_ireti i_84_6 r_84 h
/-! GateBenchModel.count at 0 -/
theorem s_85_0 {L : Nat} {M : pm_M} {Q : pm_P} {a1 : Int}
    (h : ((a1 = 0 → Q (.inl (some (.inl (M 24 1)))) (pm_set M 24 0 0)) ∧ (a1 = 1 → Q (.inl (some (.inl (M 24 2)))) (pm_set M 24 0 0)) ∧ (a1 = 2 → Q (.inl (some (.inl (M 24 3)))) (pm_set M 24 0 0)) ∧ ((a1 < 0 ∨ 2 < a1) → Q (.inl (some (.inl (-1)))) (pm_set M 24 0 0)))) :
    pm_X L (85, 0, [some (.inr (.inl 24)), some (.inl a1)], [], M) Q := by
  refine x_aload_n i_85_0 rfl rfl ?_
  refine x_iconst i_85_1 (by decide) rfl ?_
  refine x_puti i_85_2 f_85_7 g_24 rfl rfl ?_
  refine x_iload_n i_85_5 rfl rfl ?_
  rcases (by omega : a1 = 0 ∨ a1 = 1 ∨ a1 = 2 ∨ (a1 < 0 ∨ 2 < a1)) with c1 | c1 | c1 | c1
  · replace h := h.1 c1
    refine x_swV i_85_6 c1 (by decide) rfl rfl ?_
    refine x_aload_n i_85_32 rfl rfl ?_
    refine x_geti (v := M 24 1) i_85_33 f_85_13 g_24 rfl (pm_get_j (by decide) rfl) rfl ?_
    exact x_ireti i_85_36 r_85 h
  · replace h := h.2.1 c1
    refine x_swV i_85_6 c1 (by decide) rfl rfl ?_
    refine x_aload_n i_85_37 rfl rfl ?_
    refine x_geti (v := M 24 2) i_85_38 f_85_16 g_24 rfl (pm_get_j (by decide) rfl) rfl ?_
    exact x_ireti i_85_41 r_85 h
  · replace h := h.2.2.1 c1
    refine x_swV i_85_6 c1 (by decide) rfl rfl ?_
    refine x_aload_n i_85_42 rfl rfl ?_
    refine x_geti (v := M 24 3) i_85_43 f_85_19 g_24 rfl (pm_get_j (by decide) rfl) rfl ?_
    exact x_ireti i_85_46 r_85 h
  · replace h := h.2.2.2 c1
    refine x_swO i_85_6 rfl c1 ?_
    refine x_iconst i_85_47 (by decide) rfl ?_
    exact x_ireti i_85_48 r_85 h
