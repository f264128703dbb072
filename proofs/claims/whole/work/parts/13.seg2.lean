/-! GateBench$Search.placeToWatch at 0 -/
theorem s_49_0 {L : Nat} {M : pm_M} {Q : pm_P} {a1 : Int}
    (h : (0 ≤ a1 ∧ a1 < 16117) ∧ (pm_R (M 14 a1 + 2)) ∧ pm_X L (49, 12, [some (.inr (.inl 4)), some (.inl a1), some (.inl (M 14 a1 + 2))], [], M) Q) :
    pm_X L (49, 0, [some (.inr (.inl 4)), some (.inl a1), none], [], M) Q := by
  refine x_aload_n i_49_0 rfl rfl ?_
  refine x_getr i_49_1 f_49_36 g_4 rfl rfl ?_
  refine x_getr i_49_4 f_49_91 g_2 rfl rfl ?_
  refine x_iload_n i_49_7 rfl rfl ?_
  obtain ⟨q1, h⟩ := h
  refine x_iaload (v := M 14 a1) i_49_8 g_14 (rfl) rfl q1 ?_
  refine x_iconst i_49_9 (by decide) rfl ?_
  obtain ⟨q2, h⟩ := h
  refine x_iadd i_49_10 rfl q2 ?_
  refine x_istore_n i_49_11 (Nat.le_of_ble_eq_true rfl) rfl rfl ?_
  exact h
/-! GateBench$Search.placeToWatch at 12 -/
theorem s_49_12 {L : Nat} {M : pm_M} {Q : pm_P} {a1 a2 : Int}
    (h : (pm_R (a1 + 1)) ∧ (0 ≤ a1 + 1 ∧ a1 + 1 < 16117) ∧ ((M 14 (a1 + 1) ≤ a2 → Q (.inl (some (.inl (-1)))) M) ∧ (¬ (M 14 (a1 + 1) ≤ a2) → (0 ≤ a2 ∧ a2 < 85212) ∧ (0 ≤ pm_op (M 13 a2) ∧ pm_op (M 13 a2) < 4000) ∧ ((¬ M 20 (pm_op (M 13 a2)) = 0 → (pm_R (a2 + 1)) ∧ pm_X L (49, 12, [some (.inr (.inl 4)), some (.inl a1), some (.inl (a2 + 1))], [], M) Q) ∧ (¬ (¬ M 20 (pm_op (M 13 a2)) = 0) → Q (.inl (some (.inl a2))) M))))) :
    pm_X L (49, 12, [some (.inr (.inl 4)), some (.inl a1), some (.inl a2)], [], M) Q := by
  refine x_iload_n i_49_12 rfl rfl ?_
  refine x_aload_n i_49_13 rfl rfl ?_
  refine x_getr i_49_14 f_49_36 g_4 rfl rfl ?_
  refine x_getr i_49_17 f_49_91 g_2 rfl rfl ?_
  refine x_iload_n i_49_20 rfl rfl ?_
  refine x_iconst i_49_21 (by decide) rfl ?_
  obtain ⟨q1, h⟩ := h
  refine x_iadd i_49_22 rfl q1 ?_
  obtain ⟨q2, h⟩ := h
  refine x_iaload (v := M 14 (a1 + 1)) i_49_23 g_14 (rfl) rfl q2 ?_
  refine x_icmp (C := M 14 (a1 + 1) ≤ a2) i_49_24 rfl Iff.rfl rfl ⟨fun c3 => ?_, fun c3 => ?_⟩
  · replace h := h.1 c3
    refine x_iconst i_49_58 (by decide) rfl ?_
    exact x_ireti i_49_59 r_49 h
  · replace h := h.2 c3
    refine x_aload_n i_49_27 rfl rfl ?_
    refine x_getr i_49_28 f_49_12 g_4 rfl rfl ?_
    refine x_getr i_49_31 f_49_44 g_5 rfl rfl ?_
    refine x_aload_n i_49_34 rfl rfl ?_
    refine x_getr i_49_35 f_49_36 g_4 rfl rfl ?_
    refine x_getr i_49_38 f_49_88 g_2 rfl rfl ?_
    refine x_iload_n i_49_41 rfl rfl ?_
    obtain ⟨q4, h⟩ := h
    refine x_iaload (v := M 13 a2) i_49_42 g_13 (rfl) rfl q4 ?_
    refine x_calls (as := [.inl (M 13 a2)]) (rest := [.inr (.inl 20)]) i_49_43 k_49_97 rfl rfl rfl (Nat.le_of_ble_eq_true rfl) m_15 rfl ?_
    refine x_iload_n i_15_0 rfl rfl ?_
    refine x_iconst i_15_1 (by decide) rfl ?_
    refine x_ixor i_15_2 rfl ?_
    refine x_ireti i_15_3 r_15 ?_
    refine x_bki rfl ?_
    obtain ⟨q5, h⟩ := h
    refine x_baload (v := M 20 (pm_op (M 13 a2))) i_49_46 g_20 (rfl) rfl q5 ?_
    refine x_if (C := ¬ M 20 (pm_op (M 13 a2)) = 0) i_49_47 rfl Iff.rfl rfl ⟨fun c6 => ?_, fun c6 => ?_⟩
    · replace h := h.1 c6
      obtain ⟨q7, h⟩ := h
      refine x_iinc i_49_52 rfl (by decide) rfl rfl q7 ?_
      refine x_goto i_49_55 rfl ?_
      exact h
    · replace h := h.2 c6
      refine x_iload_n i_49_50 rfl rfl ?_
      exact x_ireti i_49_51 r_49 h
/-! GateBench$Search.moveWatch at 0 -/
theorem s_50_0 {L : Nat} {M : pm_M} {Q : pm_P} {a1 a2 : Int}
    (h : (0 ≤ a1 / 2 ∧ a1 / 2 < 16117) ∧ (pm_R (M 14 (a1 / 2) + (a1 % 2))) ∧ (0 ≤ a2 ∧ a2 < 85212) ∧ (0 ≤ M 14 (a1 / 2) + (a1 % 2) ∧ M 14 (a1 / 2) + (a1 % 2) < 85212) ∧ (0 ≤ M 13 a2 ∧ M 13 a2 < 4000) ∧ (0 ≤ a1 ∧ a1 < 32232) ∧ Q (.inl none) (pm_set (pm_set (pm_set (pm_set M 13 a2 (M 13 (M 14 (a1 / 2) + (a1 % 2)))) 13 (M 14 (a1 / 2) + (a1 % 2)) (M 13 a2)) 17 a1 (M 16 (M 13 a2))) 16 (M 13 a2) a1)) :
    pm_X L (50, 0, [some (.inr (.inl 4)), some (.inl a1), some (.inl a2), none, none], [], M) Q := by
  refine x_aload_n i_50_0 rfl rfl ?_
  refine x_getr i_50_1 f_50_36 g_4 rfl rfl ?_
  refine x_getr i_50_4 f_50_91 g_2 rfl rfl ?_
  refine x_iload_n i_50_7 rfl rfl ?_
  refine x_iconst i_50_8 (by decide) rfl ?_
  refine x_ishr i_50_9 rfl ?_
  obtain ⟨q1, h⟩ := h
  refine x_iaload (v := M 14 (a1 / 2)) i_50_10 g_14 (rfl) rfl q1 ?_
  refine x_iload_n i_50_11 rfl rfl ?_
  refine x_iconst i_50_12 (by decide) rfl ?_
  refine x_iand1 i_50_13 rfl ?_
  obtain ⟨q2, h⟩ := h
  refine x_iadd i_50_14 rfl q2 ?_
  refine x_istore_n i_50_15 (Nat.le_of_ble_eq_true rfl) rfl rfl ?_
  refine x_aload_n i_50_16 rfl rfl ?_
  refine x_getr i_50_17 f_50_36 g_4 rfl rfl ?_
  refine x_getr i_50_20 f_50_88 g_2 rfl rfl ?_
  refine x_iload_n i_50_23 rfl rfl ?_
  obtain ⟨q3, h⟩ := h
  refine x_iaload (v := M 13 a2) i_50_24 g_13 (rfl) rfl q3 ?_
  refine x_istore i_50_25 (Nat.le_of_ble_eq_true rfl) rfl rfl ?_
  refine x_aload_n i_50_27 rfl rfl ?_
  refine x_getr i_50_28 f_50_36 g_4 rfl rfl ?_
  refine x_getr i_50_31 f_50_88 g_2 rfl rfl ?_
  refine x_iload_n i_50_34 rfl rfl ?_
  refine x_aload_n i_50_35 rfl rfl ?_
  refine x_getr i_50_36 f_50_36 g_4 rfl rfl ?_
  refine x_getr i_50_39 f_50_88 g_2 rfl rfl ?_
  refine x_iload_n i_50_42 rfl rfl ?_
  obtain ⟨q4, h⟩ := h
  refine x_iaload (v := M 13 (M 14 (a1 / 2) + (a1 % 2))) i_50_43 g_13 (rfl) rfl q4 ?_
  refine x_iastore i_50_44 g_13 rfl q3 ?_
  refine x_aload_n i_50_45 rfl rfl ?_
  refine x_getr i_50_46 f_50_36 g_4 rfl rfl ?_
  refine x_getr i_50_49 f_50_88 g_2 rfl rfl ?_
  refine x_iload_n i_50_52 rfl rfl ?_
  refine x_iload i_50_53 rfl rfl ?_
  refine x_iastore i_50_55 g_13 rfl q4 ?_
  refine x_aload_n i_50_56 rfl rfl ?_
  refine x_getr i_50_57 f_50_22 g_4 rfl rfl ?_
  refine x_iload_n i_50_60 rfl rfl ?_
  refine x_aload_n i_50_61 rfl rfl ?_
  refine x_getr i_50_62 f_50_18 g_4 rfl rfl ?_
  refine x_iload i_50_65 rfl rfl ?_
  obtain ⟨q5, h⟩ := h
  refine x_iaload (v := M 16 (M 13 a2)) i_50_67 g_16 (pm_get_c (by decide) (pm_get_c (by decide) rfl)) rfl q5 ?_
  obtain ⟨q6, h⟩ := h
  refine x_iastore i_50_68 g_17 rfl q6 ?_
  refine x_aload_n i_50_69 rfl rfl ?_
  refine x_getr i_50_70 f_50_18 g_4 rfl rfl ?_
  refine x_iload i_50_73 rfl rfl ?_
  refine x_iload_n i_50_75 rfl rfl ?_
  refine x_iastore i_50_76 g_16 rfl q5 ?_
  exact x_ret i_50_77 r_50 h
/-! GateBench$Search.unlink at 0 -/
theorem s_51_0 {L : Nat} {M : pm_M} {Q : pm_P} {a1 a2 a3 : Int}
    (h : ((¬ a2 = -1 → (0 ≤ a2 ∧ a2 < 32232) ∧ Q (.inl none) (pm_set M 17 a2 a3)) ∧ (¬ (¬ a2 = -1) → (0 ≤ a1 ∧ a1 < 4000) ∧ Q (.inl none) (pm_set M 16 a1 a3)))) :
    pm_X L (51, 0, [some (.inr (.inl 4)), some (.inl a1), some (.inl a2), some (.inl a3)], [], M) Q := by
  refine x_iload_n i_51_0 rfl rfl ?_
  refine x_iconst i_51_1 (by decide) rfl ?_
  refine x_icmp (C := ¬ a2 = -1) i_51_2 rfl Iff.rfl rfl ⟨fun c1 => ?_, fun c1 => ?_⟩
  · replace h := h.1 c1
    refine x_aload_n i_51_15 rfl rfl ?_
    refine x_getr i_51_16 f_51_22 g_4 rfl rfl ?_
    refine x_iload_n i_51_19 rfl rfl ?_
    refine x_iload_n i_51_20 rfl rfl ?_
    obtain ⟨q2, h⟩ := h
    refine x_iastore i_51_21 g_17 rfl q2 ?_
    exact x_ret i_51_22 r_51 h
  · replace h := h.2 c1
    refine x_aload_n i_51_5 rfl rfl ?_
    refine x_getr i_51_6 f_51_18 g_4 rfl rfl ?_
    refine x_iload_n i_51_9 rfl rfl ?_
    refine x_iload_n i_51_10 rfl rfl ?_
    obtain ⟨q3, h⟩ := h
    refine x_iastore i_51_11 g_16 rfl q3 ?_
    refine x_goto i_51_12 rfl ?_
    exact x_ret i_51_22 r_51 h
/-! GateBench$Search.watchBoth at 0 -/
theorem s_52_0 {L : Nat} {M : pm_M} {Q : pm_P} {a1 : Int}
    (h : pm_X L (52, 2, [some (.inr (.inl 4)), some (.inl a1), some (.inl 0), none, none], [], M) Q) :
    pm_X L (52, 0, [some (.inr (.inl 4)), some (.inl a1), none, none, none], [], M) Q := by
  refine x_iconst i_52_0 (by decide) rfl ?_
  refine x_istore_n i_52_1 (Nat.le_of_ble_eq_true rfl) rfl rfl ?_
  exact h
/-! GateBench$Search.watchBoth at 2 -/
theorem s_52_2 {L : Nat} {M : pm_M} {Q : pm_P} {a1 a2 : Int} {o3 o4 : Option pm_V}
    (h : ((2 ≤ a2 → Q (.inl none) M) ∧ (¬ (2 ≤ a2) → (0 ≤ a1 ∧ a1 < 16117) ∧ (pm_R (M 14 a1 + a2)) ∧ (0 ≤ M 14 a1 + a2 ∧ M 14 a1 + a2 < 85212) ∧ (pm_R (2 * a1)) ∧ (pm_R ((2 * a1) + a2)) ∧ (0 ≤ M 13 (M 14 a1 + a2) ∧ M 13 (M 14 a1 + a2) < 4000) ∧ (0 ≤ (2 * a1) + a2 ∧ (2 * a1) + a2 < 32232) ∧ (pm_R (a2 + 1)) ∧ pm_X L (52, 2, [some (.inr (.inl 4)), some (.inl a1), some (.inl (a2 + 1)), some (.inl (M 13 (M 14 a1 + a2))), some (.inl ((2 * a1) + a2))], [], pm_set (pm_set M 17 ((2 * a1) + a2) (M 16 (M 13 (M 14 a1 + a2)))) 16 (M 13 (M 14 a1 + a2)) ((2 * a1) + a2)) Q))) :
    pm_X L (52, 2, [some (.inr (.inl 4)), some (.inl a1), some (.inl a2), o3, o4], [], M) Q := by
  refine x_iload_n i_52_2 rfl rfl ?_
  refine x_iconst i_52_3 (by decide) rfl ?_
  refine x_icmp (C := 2 ≤ a2) i_52_4 rfl Iff.rfl rfl ⟨fun c1 => ?_, fun c1 => ?_⟩
  · replace h := h.1 c1
    exact x_ret i_52_61 r_52 h
  · replace h := h.2 c1
    refine x_aload_n i_52_7 rfl rfl ?_
    refine x_getr i_52_8 f_52_36 g_4 rfl rfl ?_
    refine x_getr i_52_11 f_52_88 g_2 rfl rfl ?_
    refine x_aload_n i_52_14 rfl rfl ?_
    refine x_getr i_52_15 f_52_36 g_4 rfl rfl ?_
    refine x_getr i_52_18 f_52_91 g_2 rfl rfl ?_
    refine x_iload_n i_52_21 rfl rfl ?_
    obtain ⟨q2, h⟩ := h
    refine x_iaload (v := M 14 a1) i_52_22 g_14 (rfl) rfl q2 ?_
    refine x_iload_n i_52_23 rfl rfl ?_
    obtain ⟨q3, h⟩ := h
    refine x_iadd i_52_24 rfl q3 ?_
    obtain ⟨q4, h⟩ := h
    refine x_iaload (v := M 13 (M 14 a1 + a2)) i_52_25 g_13 (rfl) rfl q4 ?_
    refine x_istore_n i_52_26 (Nat.le_of_ble_eq_true rfl) rfl rfl ?_
    refine x_iconst i_52_27 (by decide) rfl ?_
    refine x_iload_n i_52_28 rfl rfl ?_
    obtain ⟨q5, h⟩ := h
    refine x_imul i_52_29 rfl q5 ?_
    refine x_iload_n i_52_30 rfl rfl ?_
    obtain ⟨q6, h⟩ := h
    refine x_iadd i_52_31 rfl q6 ?_
    refine x_istore i_52_32 (Nat.le_of_ble_eq_true rfl) rfl rfl ?_
    refine x_aload_n i_52_34 rfl rfl ?_
    refine x_getr i_52_35 f_52_22 g_4 rfl rfl ?_
    refine x_iload i_52_38 rfl rfl ?_
    refine x_aload_n i_52_40 rfl rfl ?_
    refine x_getr i_52_41 f_52_18 g_4 rfl rfl ?_
    refine x_iload_n i_52_44 rfl rfl ?_
    obtain ⟨q7, h⟩ := h
    refine x_iaload (v := M 16 (M 13 (M 14 a1 + a2))) i_52_45 g_16 (rfl) rfl q7 ?_
    obtain ⟨q8, h⟩ := h
    refine x_iastore i_52_46 g_17 rfl q8 ?_
    refine x_aload_n i_52_47 rfl rfl ?_
    refine x_getr i_52_48 f_52_18 g_4 rfl rfl ?_
    refine x_iload_n i_52_51 rfl rfl ?_
    refine x_iload i_52_52 rfl rfl ?_
    refine x_iastore i_52_54 g_16 rfl q7 ?_
    obtain ⟨q9, h⟩ := h
    refine x_iinc i_52_55 rfl (by decide) rfl rfl q9 ?_
    refine x_goto i_52_58 rfl ?_
    exact h
/-! GateBench$Search.learn at 0 -/
theorem s_53_0 {L : Nat} {M : pm_M} {Q : pm_P} {a1 : Int}
    (h : pm_X L (54, 0, [some (.inr (.inl 4)), some (.inl a1), none], [], M) (pm_back (pm_X L) 53 2 [some (.inr (.inl 4)), some (.inl a1), none, none] [] Q)) :
    pm_X L (53, 0, [some (.inr (.inl 4)), some (.inl a1), none, none], [], M) Q := by
  refine x_aload_n i_53_0 rfl rfl ?_
  refine x_iload_n i_53_1 rfl rfl ?_
  refine x_callv (as := [.inl a1]) (rest := []) i_53_2 k_53_139 rfl rfl rfl g_4 (Nat.le_of_ble_eq_true rfl) m_54 rfl h
/-! GateBench$Search.learn at 5 -/
theorem s_53_5 {L : Nat} {M : pm_M} {Q : pm_P} {a1 : Int}
    (h : (pm_R (M 5 4 - 1)) ∧ pm_X L (53, 15, [some (.inr (.inl 4)), some (.inl a1), some (.inl (M 5 4 - 1)), none], [], M) Q) :
    pm_X L (53, 5, [some (.inr (.inl 4)), some (.inl a1), none, none], [], M) Q := by
  refine x_aload_n i_53_5 rfl rfl ?_
  refine x_getr i_53_6 f_53_12 g_4 rfl rfl ?_
  refine x_geti (v := M 5 4) i_53_9 f_53_120 g_5 rfl (rfl) rfl ?_
  refine x_iconst i_53_12 (by decide) rfl ?_
  obtain ⟨q1, h⟩ := h
  refine x_isub i_53_13 rfl q1 ?_
  refine x_istore_n i_53_14 (Nat.le_of_ble_eq_true rfl) rfl rfl ?_
  exact h
/-! GateBench$Search.learn at 15 -/
theorem s_53_15 {L : Nat} {M : pm_M} {Q : pm_P} {a1 a2 : Int} {o3 : Option pm_V}
    (h : ((a2 < 0 → (pm_R (M 2 2 + 1)) ∧ (0 ≤ M 2 2 + 1 ∧ M 2 2 + 1 < 16117) ∧ pm_X L (55, 0, [some (.inr (.inl 4)), some (.inl a1), none, none], [], pm_set (pm_set M 2 2 (M 2 2 + 1)) 14 (M 2 2 + 1) (M 2 3)) (pm_back (pm_X L) 53 97 [some (.inr (.inl 4)), some (.inl a1), some (.inl (M 2 2)), o3] [] Q)) ∧ (¬ (a2 < 0) → (0 ≤ a2 ∧ a2 < 2000) ∧ (0 ≤ (M 22 a2) / 2 ∧ (M 22 a2) / 2 < 2000) ∧ ((M 18 ((M 22 a2) / 2) = 0 → pm_X L (53, 81, [some (.inr (.inl 4)), some (.inl a1), some (.inl a2), some (.inl (M 22 a2))], [], M) Q) ∧ (¬ (M 18 ((M 22 a2) / 2) = 0) → (0 ≤ M 22 a2 ∧ M 22 a2 < 4000) ∧ ((¬ M 21 (M 22 a2) = -1 → pm_X L (54, 0, [some (.inr (.inl 4)), some (.inl (M 21 (M 22 a2))), none], [], M) (pm_back (pm_X L) 53 78 [some (.inr (.inl 4)), some (.inl a1), some (.inl a2), some (.inl (M 22 a2))] [] Q)) ∧ (¬ (¬ M 21 (M 22 a2) = -1) → (0 ≤ M 2 3 ∧ M 2 3 < 85212) ∧ (pm_R (M 2 3 + 1)) ∧ pm_X L (53, 81, [some (.inr (.inl 4)), some (.inl a1), some (.inl a2), some (.inl (M 22 a2))], [], pm_set (pm_set M 13 (M 2 3) (pm_op (M 22 a2))) 2 3 (M 2 3 + 1)) Q))))))) :
    pm_X L (53, 15, [some (.inr (.inl 4)), some (.inl a1), some (.inl a2), o3], [], M) Q := by
  refine x_iload_n i_53_15 rfl rfl ?_
  refine x_if (C := a2 < 0) i_53_16 rfl Iff.rfl rfl ⟨fun c1 => ?_, fun c1 => ?_⟩
  · replace h := h.1 c1
    refine x_aload_n i_53_87 rfl rfl ?_
    refine x_getr i_53_88 f_53_36 g_4 rfl rfl ?_
    refine x_callv (as := []) (rest := []) i_53_91 k_53_151 rfl rfl rfl g_2 (Nat.le_of_ble_eq_true rfl) m_35 rfl ?_
    refine x_aload_n i_35_0 rfl rfl ?_
    refine x_geti (v := M 2 2) i_35_1 f_35_19 g_2 rfl (rfl) rfl ?_
    refine x_istore_n i_35_4 (Nat.le_of_ble_eq_true rfl) rfl rfl ?_
    refine x_aload_n i_35_5 rfl rfl ?_
    refine x_dup i_35_6 rfl rfl ?_
    refine x_geti (v := M 2 2) i_35_7 f_35_19 g_2 rfl (rfl) rfl ?_
    refine x_iconst i_35_10 (by decide) rfl ?_
    obtain ⟨q2, h⟩ := h
    refine x_iadd i_35_11 rfl q2 ?_
    refine x_puti i_35_12 f_35_19 g_2 rfl rfl ?_
    refine x_aload_n i_35_15 rfl rfl ?_
    refine x_getr i_35_16 f_35_16 g_2 rfl rfl ?_
    refine x_aload_n i_35_19 rfl rfl ?_
    refine x_geti (v := M 2 2 + 1) i_35_20 f_35_19 g_2 rfl (pm_get_e) rfl ?_
    refine x_aload_n i_35_23 rfl rfl ?_
    refine x_geti (v := M 2 3) i_35_24 f_35_23 g_2 rfl (pm_get_j (by decide) rfl) rfl ?_
    obtain ⟨q3, h⟩ := h
    refine x_iastore i_35_27 g_14 rfl q3 ?_
    refine x_iload_n i_35_28 rfl rfl ?_
    refine x_ireti i_35_29 r_35 ?_
    refine x_bki rfl ?_
    refine x_istore_n i_53_94 (Nat.le_of_ble_eq_true rfl) rfl rfl ?_
    refine x_aload_n i_53_95 rfl rfl ?_
    refine x_iload_n i_53_96 rfl rfl ?_
    refine x_callv (as := [.inl a1]) (rest := []) i_53_97 k_53_154 rfl rfl rfl g_4 (Nat.le_of_ble_eq_true rfl) m_55 rfl h
  · replace h := h.2 c1
    refine x_aload_n i_53_19 rfl rfl ?_
    refine x_getr i_53_20 f_53_12 g_4 rfl rfl ?_
    refine x_getr i_53_23 f_53_123 g_5 rfl rfl ?_
    refine x_iload_n i_53_26 rfl rfl ?_
    obtain ⟨q4, h⟩ := h
    refine x_iaload (v := M 22 a2) i_53_27 g_22 (rfl) rfl q4 ?_
    refine x_istore_n i_53_28 (Nat.le_of_ble_eq_true rfl) rfl rfl ?_
    refine x_aload_n i_53_29 rfl rfl ?_
    refine x_getr i_53_30 f_53_25 g_4 rfl rfl ?_
    refine x_iload_n i_53_33 rfl rfl ?_
    refine x_calls (as := [.inl (M 22 a2)]) (rest := [.inr (.inl 18)]) i_53_34 k_53_142 rfl rfl rfl (Nat.le_of_ble_eq_true rfl) m_16 rfl ?_
    refine x_iload_n i_16_0 rfl rfl ?_
    refine x_iconst i_16_1 (by decide) rfl ?_
    refine x_ishr i_16_2 rfl ?_
    refine x_ireti i_16_3 r_16 ?_
    refine x_bki rfl ?_
    obtain ⟨q5, h⟩ := h
    refine x_baload (v := M 18 ((M 22 a2) / 2)) i_53_37 g_18 (rfl) rfl q5 ?_
    refine x_if (C := M 18 ((M 22 a2) / 2) = 0) i_53_38 rfl Iff.rfl rfl ⟨fun c6 => ?_, fun c6 => ?_⟩
    · replace h := h.1 c6
      exact h
    · replace h := h.2 c6
      refine x_aload_n i_53_41 rfl rfl ?_
      refine x_getr i_53_42 f_53_12 g_4 rfl rfl ?_
      refine x_getr i_53_45 f_53_145 g_5 rfl rfl ?_
      refine x_iload_n i_53_48 rfl rfl ?_
      obtain ⟨q7, h⟩ := h
      refine x_iaload (v := M 21 (M 22 a2)) i_53_49 g_21 (rfl) rfl q7 ?_
      refine x_iconst i_53_50 (by decide) rfl ?_
      refine x_icmp (C := ¬ M 21 (M 22 a2) = -1) i_53_51 rfl Iff.rfl rfl ⟨fun c8 => ?_, fun c8 => ?_⟩
      · replace h := h.1 c8
        refine x_aload_n i_53_68 rfl rfl ?_
        refine x_aload_n i_53_69 rfl rfl ?_
        refine x_getr i_53_70 f_53_12 g_4 rfl rfl ?_
        refine x_getr i_53_73 f_53_145 g_5 rfl rfl ?_
        refine x_iload_n i_53_76 rfl rfl ?_
        refine x_iaload (v := M 21 (M 22 a2)) i_53_77 g_21 (rfl) rfl q7 ?_
        refine x_callv (as := [.inl (M 21 (M 22 a2))]) (rest := []) i_53_78 k_53_139 rfl rfl rfl g_4 (Nat.le_of_ble_eq_true rfl) m_54 rfl h
      · replace h := h.2 c8
        refine x_aload_n i_53_54 rfl rfl ?_
        refine x_getr i_53_55 f_53_36 g_4 rfl rfl ?_
        refine x_iload_n i_53_58 rfl rfl ?_
        refine x_calls (as := [.inl (M 22 a2)]) (rest := [.inr (.inl 2)]) i_53_59 k_53_97 rfl rfl rfl (Nat.le_of_ble_eq_true rfl) m_15 rfl ?_
        refine x_iload_n i_15_0 rfl rfl ?_
        refine x_iconst i_15_1 (by decide) rfl ?_
        refine x_ixor i_15_2 rfl ?_
        refine x_ireti i_15_3 r_15 ?_
        refine x_bki rfl ?_
        refine x_callv (as := [.inl (pm_op (M 22 a2))]) (rest := []) i_53_62 k_53_148 rfl rfl rfl g_2 (Nat.le_of_ble_eq_true rfl) m_34 rfl ?_
        refine x_aload_n i_34_0 rfl rfl ?_
        refine x_getr i_34_1 f_34_10 g_2 rfl rfl ?_
        refine x_aload_n i_34_4 rfl rfl ?_
        refine x_geti (v := M 2 3) i_34_5 f_34_23 g_2 rfl (rfl) rfl ?_
        refine x_iload_n i_34_8 rfl rfl ?_
        obtain ⟨q9, h⟩ := h
        refine x_iastore i_34_9 g_13 rfl q9 ?_
        refine x_aload_n i_34_10 rfl rfl ?_
        refine x_dup i_34_11 rfl rfl ?_
        refine x_geti (v := M 2 3) i_34_12 f_34_23 g_2 rfl (pm_get_c (by decide) rfl) rfl ?_
        refine x_iconst i_34_15 (by decide) rfl ?_
        obtain ⟨q10, h⟩ := h
        refine x_iadd i_34_16 rfl q10 ?_
        refine x_puti i_34_17 f_34_23 g_2 rfl rfl ?_
        refine x_ret i_34_20 r_34 ?_
        refine x_bkv rfl ?_
        refine x_goto i_53_65 rfl ?_
        exact h
/-! GateBench$Search.learn at 81 -/
theorem s_53_81 {L : Nat} {M : pm_M} {Q : pm_P} {a1 a2 a3 : Int}
    (h : (pm_R (a2 + (-1))) ∧ pm_X L (53, 15, [some (.inr (.inl 4)), some (.inl a1), some (.inl (a2 + (-1))), some (.inl a3)], [], M) Q) :
    pm_X L (53, 81, [some (.inr (.inl 4)), some (.inl a1), some (.inl a2), some (.inl a3)], [], M) Q := by
  obtain ⟨q1, h⟩ := h
  refine x_iinc i_53_81 rfl (by decide) rfl rfl q1 ?_
  refine x_goto i_53_84 rfl ?_
  exact h
/-! GateBench$Search.learn at 100 -/
theorem s_53_100 {L : Nat} {M : pm_M} {Q : pm_P} {a1 a2 : Int} {o3 : Option pm_V}
    (h : pm_X L (39, 0, [some (.inr (.inl 3)), some (.inl a2), some (.inr (.inl 19)), some (.inl (M 4 8))], [], M) (pm_back (pm_X L) 53 113 [some (.inr (.inl 4)), some (.inl a1), some (.inl a2), o3] [] Q)) :
    pm_X L (53, 100, [some (.inr (.inl 4)), some (.inl a1), some (.inl a2), o3], [], M) Q := by
  refine x_aload_n i_53_100 rfl rfl ?_
  refine x_getr i_53_101 f_53_40 g_4 rfl rfl ?_
  refine x_iload_n i_53_104 rfl rfl ?_
  refine x_aload_n i_53_105 rfl rfl ?_
  refine x_getr i_53_106 f_53_29 g_4 rfl rfl ?_
  refine x_aload_n i_53_109 rfl rfl ?_
  refine x_geti (v := M 4 8) i_53_110 f_53_157 g_4 rfl (rfl) rfl ?_
  refine x_callv (as := [.inl a2, .inr (.inl 19), .inl (M 4 8)]) (rest := []) i_53_113 k_53_160 rfl rfl rfl g_3 (Nat.le_of_ble_eq_true rfl) m_39 rfl h
/-! GateBench$Search.learn at 116 -/
theorem s_53_116 {L : Nat} {M : pm_M} {Q : pm_P} {a1 a2 : Int} {o3 : Option pm_V}
    (h : Q (.inl (some (.inl a2))) M) :
    pm_X L (53, 116, [some (.inr (.inl 4)), some (.inl a1), some (.inl a2), o3], [], M) Q := by
  refine x_iload_n i_53_116 rfl rfl ?_
  exact x_ireti i_53_117 r_53 h
/-! GateBench$Search.involve at 0 -/
theorem s_54_0 {L : Nat} {M : pm_M} {Q : pm_P} {a1 : Int}
    (h : (0 ≤ a1 ∧ a1 < 16117) ∧ pm_X L (54, 10, [some (.inr (.inl 4)), some (.inl a1), some (.inl (M 14 a1))], [], M) Q) :
    pm_X L (54, 0, [some (.inr (.inl 4)), some (.inl a1), none], [], M) Q := by
  refine x_aload_n i_54_0 rfl rfl ?_
  refine x_getr i_54_1 f_54_36 g_4 rfl rfl ?_
  refine x_getr i_54_4 f_54_91 g_2 rfl rfl ?_
  refine x_iload_n i_54_7 rfl rfl ?_
  obtain ⟨q1, h⟩ := h
  refine x_iaload (v := M 14 a1) i_54_8 g_14 (rfl) rfl q1 ?_
  refine x_istore_n i_54_9 (Nat.le_of_ble_eq_true rfl) rfl rfl ?_
  exact h
/-! GateBench$Search.involve at 10 -/
theorem s_54_10 {L : Nat} {M : pm_M} {Q : pm_P} {a1 a2 : Int}
    (h : (pm_R (a1 + 1)) ∧ (0 ≤ a1 + 1 ∧ a1 + 1 < 16117) ∧ ((M 14 (a1 + 1) ≤ a2 → Q (.inl none) M) ∧ (¬ (M 14 (a1 + 1) ≤ a2) → (0 ≤ a2 ∧ a2 < 85212) ∧ (0 ≤ (M 13 a2) / 2 ∧ (M 13 a2) / 2 < 2000) ∧ (pm_R (a2 + 1)) ∧ pm_X L (54, 10, [some (.inr (.inl 4)), some (.inl a1), some (.inl (a2 + 1))], [], pm_set M 18 ((M 13 a2) / 2) 1) Q))) :
    pm_X L (54, 10, [some (.inr (.inl 4)), some (.inl a1), some (.inl a2)], [], M) Q := by
  refine x_iload_n i_54_10 rfl rfl ?_
  refine x_aload_n i_54_11 rfl rfl ?_
  refine x_getr i_54_12 f_54_36 g_4 rfl rfl ?_
  refine x_getr i_54_15 f_54_91 g_2 rfl rfl ?_
  refine x_iload_n i_54_18 rfl rfl ?_
  refine x_iconst i_54_19 (by decide) rfl ?_
  obtain ⟨q1, h⟩ := h
  refine x_iadd i_54_20 rfl q1 ?_
  obtain ⟨q2, h⟩ := h
  refine x_iaload (v := M 14 (a1 + 1)) i_54_21 g_14 (rfl) rfl q2 ?_
  refine x_icmp (C := M 14 (a1 + 1) ≤ a2) i_54_22 rfl Iff.rfl rfl ⟨fun c3 => ?_, fun c3 => ?_⟩
  · replace h := h.1 c3
    exact x_ret i_54_49 r_54 h
  · replace h := h.2 c3
    refine x_aload_n i_54_25 rfl rfl ?_
    refine x_getr i_54_26 f_54_25 g_4 rfl rfl ?_
    refine x_aload_n i_54_29 rfl rfl ?_
    refine x_getr i_54_30 f_54_36 g_4 rfl rfl ?_
    refine x_getr i_54_33 f_54_88 g_2 rfl rfl ?_
    refine x_iload_n i_54_36 rfl rfl ?_
    obtain ⟨q4, h⟩ := h
    refine x_iaload (v := M 13 a2) i_54_37 g_13 (rfl) rfl q4 ?_
    refine x_calls (as := [.inl (M 13 a2)]) (rest := [.inr (.inl 18)]) i_54_38 k_54_142 rfl rfl rfl (Nat.le_of_ble_eq_true rfl) m_16 rfl ?_
    refine x_iload_n i_16_0 rfl rfl ?_
    refine x_iconst i_16_1 (by decide) rfl ?_
    refine x_ishr i_16_2 rfl ?_
    refine x_ireti i_16_3 r_16 ?_
    refine x_bki rfl ?_
    refine x_iconst i_54_41 (by decide) rfl ?_
    obtain ⟨q5, h⟩ := h
    refine x_bastore i_54_42 g_18 rfl ⟨q5, by unfold pm_bit; decide⟩ ?_
    obtain ⟨q6, h⟩ := h
    refine x_iinc i_54_43 rfl (by decide) rfl rfl q6 ?_
    refine x_goto i_54_46 rfl ?_
    exact h
/-! GateBench$Search.collectHints at 0 -/
theorem s_55_0 {L : Nat} {M : pm_M} {Q : pm_P} {a1 : Int}
    (h : pm_X L (55, 7, [some (.inr (.inl 4)), some (.inl a1), some (.inl 0), none], [], pm_set M 4 8 0) Q) :
    pm_X L (55, 0, [some (.inr (.inl 4)), some (.inl a1), none, none], [], M) Q := by
  refine x_aload_n i_55_0 rfl rfl ?_
  refine x_iconst i_55_1 (by decide) rfl ?_
  refine x_puti i_55_2 f_55_157 g_4 rfl rfl ?_
  refine x_iconst i_55_5 (by decide) rfl ?_
  refine x_istore_n i_55_6 (Nat.le_of_ble_eq_true rfl) rfl rfl ?_
  exact h
/-! GateBench$Search.collectHints at 7 -/
theorem s_55_7 {L : Nat} {M : pm_M} {Q : pm_P} {a1 a2 : Int} {o3 : Option pm_V}
    (h : ((M 5 4 ≤ a2 → (0 ≤ M 4 8 ∧ M 4 8 < 2001) ∧ (pm_R (M 4 8 + 1)) ∧ Q (.inl none) (pm_set (pm_set M 19 (M 4 8) a1) 4 8 (M 4 8 + 1))) ∧ (¬ (M 5 4 ≤ a2) → (0 ≤ a2 ∧ a2 < 2000) ∧ (0 ≤ (M 22 a2) / 2 ∧ (M 22 a2) / 2 < 2000) ∧ ((M 18 ((M 22 a2) / 2) = 0 → (pm_R (a2 + 1)) ∧ pm_X L (55, 7, [some (.inr (.inl 4)), some (.inl a1), some (.inl (a2 + 1)), some (.inl (M 22 a2))], [], pm_set M 18 ((M 22 a2) / 2) 0) Q) ∧ (¬ (M 18 ((M 22 a2) / 2) = 0) → (0 ≤ M 22 a2 ∧ M 22 a2 < 4000) ∧ ((M 21 (M 22 a2) = -1 → (pm_R (a2 + 1)) ∧ pm_X L (55, 7, [some (.inr (.inl 4)), some (.inl a1), some (.inl (a2 + 1)), some (.inl (M 22 a2))], [], pm_set M 18 ((M 22 a2) / 2) 0) Q) ∧ (¬ (M 21 (M 22 a2) = -1) → (0 ≤ M 4 8 ∧ M 4 8 < 2001) ∧ (pm_R (M 4 8 + 1)) ∧ (pm_R (a2 + 1)) ∧ pm_X L (55, 7, [some (.inr (.inl 4)), some (.inl a1), some (.inl (a2 + 1)), some (.inl (M 22 a2))], [], pm_set (pm_set (pm_set M 19 (M 4 8) (M 21 (M 22 a2))) 4 8 (M 4 8 + 1)) 18 ((M 22 a2) / 2) 0) Q))))))) :
    pm_X L (55, 7, [some (.inr (.inl 4)), some (.inl a1), some (.inl a2), o3], [], M) Q := by
  refine x_iload_n i_55_7 rfl rfl ?_
  refine x_aload_n i_55_8 rfl rfl ?_
  refine x_getr i_55_9 f_55_12 g_4 rfl rfl ?_
  refine x_geti (v := M 5 4) i_55_12 f_55_120 g_5 rfl (rfl) rfl ?_
  refine x_icmp (C := M 5 4 ≤ a2) i_55_15 rfl Iff.rfl rfl ⟨fun c1 => ?_, fun c1 => ?_⟩
  · replace h := h.1 c1
    refine x_aload_n i_55_97 rfl rfl ?_
    refine x_getr i_55_98 f_55_29 g_4 rfl rfl ?_
    refine x_aload_n i_55_101 rfl rfl ?_
    refine x_geti (v := M 4 8) i_55_102 f_55_157 g_4 rfl (rfl) rfl ?_
    refine x_iload_n i_55_105 rfl rfl ?_
    obtain ⟨q2, h⟩ := h
    refine x_iastore i_55_106 g_19 rfl q2 ?_
    refine x_aload_n i_55_107 rfl rfl ?_
    refine x_dup i_55_108 rfl rfl ?_
    refine x_geti (v := M 4 8) i_55_109 f_55_157 g_4 rfl (pm_get_c (by decide) rfl) rfl ?_
    refine x_iconst i_55_112 (by decide) rfl ?_
    obtain ⟨q3, h⟩ := h
    refine x_iadd i_55_113 rfl q3 ?_
    refine x_puti i_55_114 f_55_157 g_4 rfl rfl ?_
    exact x_ret i_55_117 r_55 h
  · replace h := h.2 c1
    refine x_aload_n i_55_18 rfl rfl ?_
    refine x_getr i_55_19 f_55_12 g_4 rfl rfl ?_
    refine x_getr i_55_22 f_55_123 g_5 rfl rfl ?_
    refine x_iload_n i_55_25 rfl rfl ?_
    obtain ⟨q4, h⟩ := h
    refine x_iaload (v := M 22 a2) i_55_26 g_22 (rfl) rfl q4 ?_
    refine x_istore_n i_55_27 (Nat.le_of_ble_eq_true rfl) rfl rfl ?_
    refine x_aload_n i_55_28 rfl rfl ?_
    refine x_getr i_55_29 f_55_25 g_4 rfl rfl ?_
    refine x_iload_n i_55_32 rfl rfl ?_
    refine x_calls (as := [.inl (M 22 a2)]) (rest := [.inr (.inl 18)]) i_55_33 k_55_142 rfl rfl rfl (Nat.le_of_ble_eq_true rfl) m_16 rfl ?_
    refine x_iload_n i_16_0 rfl rfl ?_
    refine x_iconst i_16_1 (by decide) rfl ?_
    refine x_ishr i_16_2 rfl ?_
    refine x_ireti i_16_3 r_16 ?_
    refine x_bki rfl ?_
    obtain ⟨q5, h⟩ := h
    refine x_baload (v := M 18 ((M 22 a2) / 2)) i_55_36 g_18 (rfl) rfl q5 ?_
    refine x_if (C := M 18 ((M 22 a2) / 2) = 0) i_55_37 rfl Iff.rfl rfl ⟨fun c6 => ?_, fun c6 => ?_⟩
    · replace h := h.1 c6
      refine x_aload_n i_55_81 rfl rfl ?_
      refine x_getr i_55_82 f_55_25 g_4 rfl rfl ?_
      refine x_iload_n i_55_85 rfl rfl ?_
      refine x_calls (as := [.inl (M 22 a2)]) (rest := [.inr (.inl 18)]) i_55_86 k_55_142 rfl rfl rfl (Nat.le_of_ble_eq_true rfl) m_16 rfl ?_
      refine x_iload_n i_16_0 rfl rfl ?_
      refine x_iconst i_16_1 (by decide) rfl ?_
      refine x_ishr i_16_2 rfl ?_
      refine x_ireti i_16_3 r_16 ?_
      refine x_bki rfl ?_
      refine x_iconst i_55_89 (by decide) rfl ?_
      refine x_bastore i_55_90 g_18 rfl ⟨q5, by unfold pm_bit; decide⟩ ?_
      obtain ⟨q7, h⟩ := h
      refine x_iinc i_55_91 rfl (by decide) rfl rfl q7 ?_
      refine x_goto i_55_94 rfl ?_
      exact h
    · replace h := h.2 c6
      refine x_aload_n i_55_40 rfl rfl ?_
      refine x_getr i_55_41 f_55_12 g_4 rfl rfl ?_
      refine x_getr i_55_44 f_55_145 g_5 rfl rfl ?_
      refine x_iload_n i_55_47 rfl rfl ?_
      obtain ⟨q8, h⟩ := h
      refine x_iaload (v := M 21 (M 22 a2)) i_55_48 g_21 (rfl) rfl q8 ?_
      refine x_iconst i_55_49 (by decide) rfl ?_
      refine x_icmp (C := M 21 (M 22 a2) = -1) i_55_50 rfl Iff.rfl rfl ⟨fun c9 => ?_, fun c9 => ?_⟩
      · replace h := h.1 c9
        refine x_aload_n i_55_81 rfl rfl ?_
        refine x_getr i_55_82 f_55_25 g_4 rfl rfl ?_
        refine x_iload_n i_55_85 rfl rfl ?_
        refine x_calls (as := [.inl (M 22 a2)]) (rest := [.inr (.inl 18)]) i_55_86 k_55_142 rfl rfl rfl (Nat.le_of_ble_eq_true rfl) m_16 rfl ?_
        refine x_iload_n i_16_0 rfl rfl ?_
        refine x_iconst i_16_1 (by decide) rfl ?_
        refine x_ishr i_16_2 rfl ?_
        refine x_ireti i_16_3 r_16 ?_
        refine x_bki rfl ?_
        refine x_iconst i_55_89 (by decide) rfl ?_
        refine x_bastore i_55_90 g_18 rfl ⟨q5, by unfold pm_bit; decide⟩ ?_
        obtain ⟨q10, h⟩ := h
        refine x_iinc i_55_91 rfl (by decide) rfl rfl q10 ?_
        refine x_goto i_55_94 rfl ?_
        exact h
      · replace h := h.2 c9
        refine x_aload_n i_55_53 rfl rfl ?_
        refine x_getr i_55_54 f_55_29 g_4 rfl rfl ?_
        refine x_aload_n i_55_57 rfl rfl ?_
        refine x_geti (v := M 4 8) i_55_58 f_55_157 g_4 rfl (rfl) rfl ?_
        refine x_aload_n i_55_61 rfl rfl ?_
        refine x_getr i_55_62 f_55_12 g_4 rfl rfl ?_
        refine x_getr i_55_65 f_55_145 g_5 rfl rfl ?_
        refine x_iload_n i_55_68 rfl rfl ?_
        refine x_iaload (v := M 21 (M 22 a2)) i_55_69 g_21 (rfl) rfl q8 ?_
        obtain ⟨q11, h⟩ := h
        refine x_iastore i_55_70 g_19 rfl q11 ?_
        refine x_aload_n i_55_71 rfl rfl ?_
        refine x_dup i_55_72 rfl rfl ?_
        refine x_geti (v := M 4 8) i_55_73 f_55_157 g_4 rfl (pm_get_c (by decide) rfl) rfl ?_
        refine x_iconst i_55_76 (by decide) rfl ?_
        obtain ⟨q12, h⟩ := h
        refine x_iadd i_55_77 rfl q12 ?_
        refine x_puti i_55_78 f_55_157 g_4 rfl rfl ?_
        refine x_aload_n i_55_81 rfl rfl ?_
        refine x_getr i_55_82 f_55_25 g_4 rfl rfl ?_
        refine x_iload_n i_55_85 rfl rfl ?_
        refine x_calls (as := [.inl (M 22 a2)]) (rest := [.inr (.inl 18)]) i_55_86 k_55_142 rfl rfl rfl (Nat.le_of_ble_eq_true rfl) m_16 rfl ?_
        refine x_iload_n i_16_0 rfl rfl ?_
        refine x_iconst i_16_1 (by decide) rfl ?_
        refine x_ishr i_16_2 rfl ?_
        refine x_ireti i_16_3 r_16 ?_
        refine x_bki rfl ?_
        refine x_iconst i_55_89 (by decide) rfl ?_
        refine x_bastore i_55_90 g_18 rfl ⟨q5, by unfold pm_bit; decide⟩ ?_
        obtain ⟨q13, h⟩ := h
        refine x_iinc i_55_91 rfl (by decide) rfl rfl q13 ?_
        refine x_goto i_55_94 rfl ?_
        exact h
/-! GateBench$Search.applyLesson at 0 -/
theorem s_56_0 {L : Nat} {M : pm_M} {Q : pm_P} {a1 : Int}
    (h : (0 ≤ a1 ∧ a1 < 16117) ∧ (pm_R (a1 + 1)) ∧ (0 ≤ a1 + 1 ∧ a1 + 1 < 16117) ∧ (pm_R (M 14 (a1 + 1) - M 14 a1)) ∧ ((M 14 (a1 + 1) - M 14 a1 ≤ 1 → pm_X L (61, 0, [some (.inr (.inl 5)), some (.inl (-1)), none], [], M) (pm_back (pm_X L) 56 56 [some (.inr (.inl 4)), some (.inl a1), some (.inl (M 14 a1))] [] Q)) ∧ (¬ (M 14 (a1 + 1) - M 14 a1 ≤ 1) → (pm_R (M 14 a1 + 1)) ∧ (0 ≤ M 14 a1 + 1 ∧ M 14 a1 + 1 < 85212) ∧ pm_X L (61, 0, [some (.inr (.inl 5)), some (.inl (pm_op (M 13 (M 14 a1 + 1)))), none], [], M) (pm_back (pm_X L) 56 40 [some (.inr (.inl 4)), some (.inl a1), some (.inl (M 14 a1))] [] Q)))) :
    pm_X L (56, 0, [some (.inr (.inl 4)), some (.inl a1), none], [], M) Q := by
  refine x_aload_n i_56_0 rfl rfl ?_
  refine x_getr i_56_1 f_56_36 g_4 rfl rfl ?_
  refine x_getr i_56_4 f_56_91 g_2 rfl rfl ?_
  refine x_iload_n i_56_7 rfl rfl ?_
  obtain ⟨q1, h⟩ := h
  refine x_iaload (v := M 14 a1) i_56_8 g_14 (rfl) rfl q1 ?_
  refine x_istore_n i_56_9 (Nat.le_of_ble_eq_true rfl) rfl rfl ?_
  refine x_aload_n i_56_10 rfl rfl ?_
  refine x_getr i_56_11 f_56_36 g_4 rfl rfl ?_
  refine x_iload_n i_56_14 rfl rfl ?_
  refine x_callv (as := [.inl a1]) (rest := []) i_56_15 k_56_61 rfl rfl rfl g_2 (Nat.le_of_ble_eq_true rfl) m_36 rfl ?_
  refine x_aload_n i_36_0 rfl rfl ?_
  refine x_getr i_36_1 f_36_16 g_2 rfl rfl ?_
  refine x_iload_n i_36_4 rfl rfl ?_
  refine x_iconst i_36_5 (by decide) rfl ?_
  obtain ⟨q2, h⟩ := h
  refine x_iadd i_36_6 rfl q2 ?_
  obtain ⟨q3, h⟩ := h
  refine x_iaload (v := M 14 (a1 + 1)) i_36_7 g_14 (rfl) rfl q3 ?_
  refine x_aload_n i_36_8 rfl rfl ?_
  refine x_getr i_36_9 f_36_16 g_2 rfl rfl ?_
  refine x_iload_n i_36_12 rfl rfl ?_
  refine x_iaload (v := M 14 a1) i_36_13 g_14 (rfl) rfl q1 ?_
  obtain ⟨q4, h⟩ := h
  refine x_isub i_36_14 rfl q4 ?_
  refine x_ireti i_36_15 r_36 ?_
  refine x_bki rfl ?_
  refine x_iconst i_56_18 (by decide) rfl ?_
  refine x_icmp (C := M 14 (a1 + 1) - M 14 a1 ≤ 1) i_56_19 rfl Iff.rfl rfl ⟨fun c5 => ?_, fun c5 => ?_⟩
  · replace h := h.1 c5
    refine x_aload_n i_56_51 rfl rfl ?_
    refine x_getr i_56_52 f_56_12 g_4 rfl rfl ?_
    refine x_iconst i_56_55 (by decide) rfl ?_
    refine x_callv (as := [.inl (-1)]) (rest := []) i_56_56 k_56_166 rfl rfl rfl g_5 (Nat.le_of_ble_eq_true rfl) m_61 rfl h
  · replace h := h.2 c5
    refine x_aload_n i_56_22 rfl rfl ?_
    refine x_getr i_56_23 f_56_12 g_4 rfl rfl ?_
    refine x_aload_n i_56_26 rfl rfl ?_
    refine x_getr i_56_27 f_56_36 g_4 rfl rfl ?_
    refine x_getr i_56_30 f_56_88 g_2 rfl rfl ?_
    refine x_iload_n i_56_33 rfl rfl ?_
    refine x_iconst i_56_34 (by decide) rfl ?_
    obtain ⟨q6, h⟩ := h
    refine x_iadd i_56_35 rfl q6 ?_
    obtain ⟨q7, h⟩ := h
    refine x_iaload (v := M 13 (M 14 a1 + 1)) i_56_36 g_13 (rfl) rfl q7 ?_
    refine x_calls (as := [.inl (M 13 (M 14 a1 + 1))]) (rest := [.inr (.inl 5)]) i_56_37 k_56_97 rfl rfl rfl (Nat.le_of_ble_eq_true rfl) m_15 rfl ?_
    refine x_iload_n i_15_0 rfl rfl ?_
    refine x_iconst i_15_1 (by decide) rfl ?_
    refine x_ixor i_15_2 rfl ?_
    refine x_ireti i_15_3 r_15 ?_
    refine x_bki rfl ?_
    refine x_callv (as := [.inl (pm_op (M 13 (M 14 a1 + 1)))]) (rest := []) i_56_40 k_56_166 rfl rfl rfl g_5 (Nat.le_of_ble_eq_true rfl) m_61 rfl h
/-! GateBench$Search.applyLesson at 43 -/
theorem s_56_43 {L : Nat} {M : pm_M} {Q : pm_P} {a1 a2 : Int}
    (h : pm_X L (52, 0, [some (.inr (.inl 4)), some (.inl a1), none, none, none], [], M) (pm_back (pm_X L) 56 45 [some (.inr (.inl 4)), some (.inl a1), some (.inl a2)] [] Q)) :
    pm_X L (56, 43, [some (.inr (.inl 4)), some (.inl a1), some (.inl a2)], [], M) Q := by
  refine x_aload_n i_56_43 rfl rfl ?_
  refine x_iload_n i_56_44 rfl rfl ?_
  refine x_callv (as := [.inl a1]) (rest := []) i_56_45 k_56_94 rfl rfl rfl g_4 (Nat.le_of_ble_eq_true rfl) m_52 rfl h
/-! GateBench$Search.applyLesson at 48 -/
theorem s_56_48 {L : Nat} {M : pm_M} {Q : pm_P} {a1 a2 : Int}
    (h : pm_X L (56, 59, [some (.inr (.inl 4)), some (.inl a1), some (.inl a2)], [], M) Q) :
    pm_X L (56, 48, [some (.inr (.inl 4)), some (.inl a1), some (.inl a2)], [], M) Q := by
  refine x_goto i_56_48 rfl ?_
  exact h
/-! GateBench$Search.applyLesson at 59 -/
theorem s_56_59 {L : Nat} {M : pm_M} {Q : pm_P} {a1 a2 : Int}
    (h : (0 ≤ a2 ∧ a2 < 85212) ∧ (0 ≤ M 13 a2 ∧ M 13 a2 < 4000) ∧ (0 ≤ M 5 4 ∧ M 5 4 < 2000) ∧ (pm_R (M 5 4 + 1)) ∧ Q (.inl none) (pm_set (pm_set (pm_set (pm_set (pm_set M 4 9 (M 5 4)) 20 (M 13 a2) 1) 21 (M 13 a2) a1) 22 (M 5 4) (M 13 a2)) 5 4 (M 5 4 + 1))) :
    pm_X L (56, 59, [some (.inr (.inl 4)), some (.inl a1), some (.inl a2)], [], M) Q := by
  refine x_aload_n i_56_59 rfl rfl ?_
  refine x_aload_n i_56_60 rfl rfl ?_
  refine x_getr i_56_61 f_56_12 g_4 rfl rfl ?_
  refine x_geti (v := M 5 4) i_56_64 f_56_120 g_5 rfl (rfl) rfl ?_
  refine x_puti i_56_67 f_56_73 g_4 rfl rfl ?_
  refine x_aload_n i_56_70 rfl rfl ?_
  refine x_getr i_56_71 f_56_12 g_4 rfl rfl ?_
  refine x_aload_n i_56_74 rfl rfl ?_
  refine x_getr i_56_75 f_56_36 g_4 rfl rfl ?_
  refine x_getr i_56_78 f_56_88 g_2 rfl rfl ?_
  refine x_iload_n i_56_81 rfl rfl ?_
  obtain ⟨q1, h⟩ := h
  refine x_iaload (v := M 13 a2) i_56_82 g_13 (pm_get_c (by decide) rfl) rfl q1 ?_
  refine x_iload_n i_56_83 rfl rfl ?_
  refine x_callv (as := [.inl (M 13 a2), .inl a1]) (rest := []) i_56_84 k_56_104 rfl rfl rfl g_5 (Nat.le_of_ble_eq_true rfl) m_60 rfl ?_
  refine x_aload_n i_60_0 rfl rfl ?_
  refine x_getr i_60_1 f_60_9 g_5 rfl rfl ?_
  refine x_iload_n i_60_4 rfl rfl ?_
  refine x_iconst i_60_5 (by decide) rfl ?_
  obtain ⟨q2, h⟩ := h
  refine x_bastore i_60_6 g_20 rfl ⟨q2, by unfold pm_bit; decide⟩ ?_
  refine x_aload_n i_60_7 rfl rfl ?_
  refine x_getr i_60_8 f_60_15 g_5 rfl rfl ?_
  refine x_iload_n i_60_11 rfl rfl ?_
  refine x_iload_n i_60_12 rfl rfl ?_
  refine x_iastore i_60_13 g_21 rfl q2 ?_
  refine x_aload_n i_60_14 rfl rfl ?_
  refine x_getr i_60_15 f_60_19 g_5 rfl rfl ?_
  refine x_aload_n i_60_18 rfl rfl ?_
  refine x_geti (v := M 5 4) i_60_19 f_60_37 g_5 rfl (pm_get_c (by decide) (pm_get_c (by decide) (pm_get_c (by decide) rfl))) rfl ?_
  refine x_iload_n i_60_22 rfl rfl ?_
  obtain ⟨q3, h⟩ := h
  refine x_iastore i_60_23 g_22 rfl q3 ?_
  refine x_aload_n i_60_24 rfl rfl ?_
  refine x_dup i_60_25 rfl rfl ?_
  refine x_geti (v := M 5 4) i_60_26 f_60_37 g_5 rfl (pm_get_c (by decide) (pm_get_c (by decide) (pm_get_c (by decide) (pm_get_c (by decide) rfl)))) rfl ?_
  refine x_iconst i_60_29 (by decide) rfl ?_
  obtain ⟨q4, h⟩ := h
  refine x_iadd i_60_30 rfl q4 ?_
  refine x_puti i_60_31 f_60_37 g_5 rfl rfl ?_
  refine x_ret i_60_34 r_60 ?_
  refine x_bkv rfl ?_
  exact x_ret i_56_87 r_56 h
/-! GateBench$Trail.restart at 0 -/
theorem s_57_0 {L : Nat} {M : pm_M} {Q : pm_P}
    (h : pm_X L (62, 0, [some (.inr (.inl 5)), some (.inl 0), none], [], M) (pm_back (pm_X L) 57 2 [some (.inr (.inl 5))] [] Q)) :
    pm_X L (57, 0, [some (.inr (.inl 5))], [], M) Q := by
  refine x_aload_n i_57_0 rfl rfl ?_
  refine x_iconst i_57_1 (by decide) rfl ?_
  refine x_callv (as := [.inl 0]) (rest := []) i_57_2 k_57_25 rfl rfl rfl g_5 (Nat.le_of_ble_eq_true rfl) m_62 rfl h
/-! GateBench$Trail.restart at 5 -/
theorem s_57_5 {L : Nat} {M : pm_M} {Q : pm_P}
    (h : Q (.inl none) (pm_set M 5 5 0)) :
    pm_X L (57, 5, [some (.inr (.inl 5))], [], M) Q := by
  refine x_aload_n i_57_5 rfl rfl ?_
  refine x_iconst i_57_6 (by decide) rfl ?_
  refine x_puti i_57_7 f_57_29 g_5 rfl rfl ?_
  exact x_ret i_57_10 r_57 h
/-! GateBench$Trail.isOpen at 0 -/
theorem s_58_0 {L : Nat} {M : pm_M} {Q : pm_P} {a1 : Int}
    (h : (0 ≤ a1 ∧ a1 < 4000) ∧ ((¬ M 20 a1 = 0 → Q (.inl (some (.inl 0))) M) ∧ (¬ (¬ M 20 a1 = 0) → (0 ≤ pm_op a1 ∧ pm_op a1 < 4000) ∧ ((¬ M 20 (pm_op a1) = 0 → Q (.inl (some (.inl 0))) M) ∧ (¬ (¬ M 20 (pm_op a1) = 0) → Q (.inl (some (.inl 1))) M))))) :
    pm_X L (58, 0, [some (.inr (.inl 5)), some (.inl a1)], [], M) Q := by
  refine x_aload_n i_58_0 rfl rfl ?_
  refine x_getr i_58_1 f_58_9 g_5 rfl rfl ?_
  refine x_iload_n i_58_4 rfl rfl ?_
  obtain ⟨q1, h⟩ := h
  refine x_baload (v := M 20 a1) i_58_5 g_20 (rfl) rfl q1 ?_
  refine x_if (C := ¬ M 20 a1 = 0) i_58_6 rfl Iff.rfl rfl ⟨fun c2 => ?_, fun c2 => ?_⟩
  · replace h := h.1 c2
    refine x_iconst i_58_25 (by decide) rfl ?_
    exact x_iretz i_58_26 r_58 (by unfold pm_bit; decide) h
  · replace h := h.2 c2
    refine x_aload_n i_58_9 rfl rfl ?_
    refine x_getr i_58_10 f_58_9 g_5 rfl rfl ?_
    refine x_iload_n i_58_13 rfl rfl ?_
    refine x_calls (as := [.inl a1]) (rest := [.inr (.inl 20)]) i_58_14 k_58_33 rfl rfl rfl (Nat.le_of_ble_eq_true rfl) m_15 rfl ?_
    refine x_iload_n i_15_0 rfl rfl ?_
    refine x_iconst i_15_1 (by decide) rfl ?_
    refine x_ixor i_15_2 rfl ?_
    refine x_ireti i_15_3 r_15 ?_
    refine x_bki rfl ?_
    obtain ⟨q3, h⟩ := h
    refine x_baload (v := M 20 (pm_op a1)) i_58_17 g_20 (rfl) rfl q3 ?_
    refine x_if (C := ¬ M 20 (pm_op a1) = 0) i_58_18 rfl Iff.rfl rfl ⟨fun c4 => ?_, fun c4 => ?_⟩
    · replace h := h.1 c4
      refine x_iconst i_58_25 (by decide) rfl ?_
      exact x_iretz i_58_26 r_58 (by unfold pm_bit; decide) h
    · replace h := h.2 c4
      refine x_iconst i_58_21 (by decide) rfl ?_
      refine x_goto i_58_22 rfl ?_
      exact x_iretz i_58_26 r_58 (by unfold pm_bit; decide) h
/-! GateBench$Trail.attempt at 0 -/
theorem s_59_0 {L : Nat} {M : pm_M} {Q : pm_P} {a1 : Int}
    (h : (0 ≤ M 5 5 ∧ M 5 5 < 12) ∧ (pm_R (M 5 5 + 1)) ∧ (0 ≤ a1 ∧ a1 < 4000) ∧ (0 ≤ M 5 4 ∧ M 5 4 < 2000) ∧ (pm_R (M 5 4 + 1)) ∧ Q (.inl none) (pm_set (pm_set (pm_set (pm_set (pm_set (pm_set M 23 (M 5 5) (M 5 4)) 5 5 (M 5 5 + 1)) 20 a1 1) 21 a1 (-1)) 22 (M 5 4) a1) 5 4 (M 5 4 + 1))) :
    pm_X L (59, 0, [some (.inr (.inl 5)), some (.inl a1)], [], M) Q := by
  refine x_aload_n i_59_0 rfl rfl ?_
  refine x_getr i_59_1 f_59_22 g_5 rfl rfl ?_
  refine x_aload_n i_59_4 rfl rfl ?_
  refine x_geti (v := M 5 5) i_59_5 f_59_29 g_5 rfl (rfl) rfl ?_
  refine x_aload_n i_59_8 rfl rfl ?_
  refine x_geti (v := M 5 4) i_59_9 f_59_37 g_5 rfl (rfl) rfl ?_
  obtain ⟨q1, h⟩ := h
  refine x_iastore i_59_12 g_23 rfl q1 ?_
  refine x_aload_n i_59_13 rfl rfl ?_
  refine x_dup i_59_14 rfl rfl ?_
  refine x_geti (v := M 5 5) i_59_15 f_59_29 g_5 rfl (pm_get_c (by decide) rfl) rfl ?_
  refine x_iconst i_59_18 (by decide) rfl ?_
  obtain ⟨q2, h⟩ := h
  refine x_iadd i_59_19 rfl q2 ?_
  refine x_puti i_59_20 f_59_29 g_5 rfl rfl ?_
  refine x_aload_n i_59_23 rfl rfl ?_
  refine x_iload_n i_59_24 rfl rfl ?_
  refine x_iconst i_59_25 (by decide) rfl ?_
  refine x_callv (as := [.inl a1, .inl (-1)]) (rest := []) i_59_26 k_59_40 rfl rfl rfl g_5 (Nat.le_of_ble_eq_true rfl) m_60 rfl ?_
  refine x_aload_n i_60_0 rfl rfl ?_
  refine x_getr i_60_1 f_60_9 g_5 rfl rfl ?_
  refine x_iload_n i_60_4 rfl rfl ?_
  refine x_iconst i_60_5 (by decide) rfl ?_
  obtain ⟨q3, h⟩ := h
  refine x_bastore i_60_6 g_20 rfl ⟨q3, by unfold pm_bit; decide⟩ ?_
  refine x_aload_n i_60_7 rfl rfl ?_
  refine x_getr i_60_8 f_60_15 g_5 rfl rfl ?_
  refine x_iload_n i_60_11 rfl rfl ?_
  refine x_iload_n i_60_12 rfl rfl ?_
  refine x_iastore i_60_13 g_21 rfl q3 ?_
  refine x_aload_n i_60_14 rfl rfl ?_
  refine x_getr i_60_15 f_60_19 g_5 rfl rfl ?_
  refine x_aload_n i_60_18 rfl rfl ?_
  refine x_geti (v := M 5 4) i_60_19 f_60_37 g_5 rfl (pm_get_c (by decide) (pm_get_c (by decide) (pm_get_j (by decide) (pm_get_c (by decide) rfl)))) rfl ?_
  refine x_iload_n i_60_22 rfl rfl ?_
  obtain ⟨q4, h⟩ := h
  refine x_iastore i_60_23 g_22 rfl q4 ?_
  refine x_aload_n i_60_24 rfl rfl ?_
  refine x_dup i_60_25 rfl rfl ?_
  refine x_geti (v := M 5 4) i_60_26 f_60_37 g_5 rfl (pm_get_c (by decide) (pm_get_c (by decide) (pm_get_c (by decide) (pm_get_j (by decide) (pm_get_c (by decide) rfl))))) rfl ?_
  refine x_iconst i_60_29 (by decide) rfl ?_
  obtain ⟨q5, h⟩ := h
  refine x_iadd i_60_30 rfl q5 ?_
  refine x_puti i_60_31 f_60_37 g_5 rfl rfl ?_
  refine x_ret i_60_34 r_60 ?_
  refine x_bkv rfl ?_
  exact x_ret i_59_29 r_59 h
/-! GateBench$Trail.hold at 0 -/
theorem s_60_0 {L : Nat} {M : pm_M} {Q : pm_P} {a1 a2 : Int}
    (h : (0 ≤ a1 ∧ a1 < 4000) ∧ (0 ≤ M 5 4 ∧ M 5 4 < 2000) ∧ (pm_R (M 5 4 + 1)) ∧ Q (.inl none) (pm_set (pm_set (pm_set (pm_set M 20 a1 1) 21 a1 a2) 22 (M 5 4) a1) 5 4 (M 5 4 + 1))) :
    pm_X L (60, 0, [some (.inr (.inl 5)), some (.inl a1), some (.inl a2)], [], M) Q := by
  refine x_aload_n i_60_0 rfl rfl ?_
  refine x_getr i_60_1 f_60_9 g_5 rfl rfl ?_
  refine x_iload_n i_60_4 rfl rfl ?_
  refine x_iconst i_60_5 (by decide) rfl ?_
  obtain ⟨q1, h⟩ := h
  refine x_bastore i_60_6 g_20 rfl ⟨q1, by unfold pm_bit; decide⟩ ?_
  refine x_aload_n i_60_7 rfl rfl ?_
  refine x_getr i_60_8 f_60_15 g_5 rfl rfl ?_
  refine x_iload_n i_60_11 rfl rfl ?_
  refine x_iload_n i_60_12 rfl rfl ?_
  refine x_iastore i_60_13 g_21 rfl q1 ?_
  refine x_aload_n i_60_14 rfl rfl ?_
  refine x_getr i_60_15 f_60_19 g_5 rfl rfl ?_
  refine x_aload_n i_60_18 rfl rfl ?_
  refine x_geti (v := M 5 4) i_60_19 f_60_37 g_5 rfl (pm_get_c (by decide) (pm_get_c (by decide) rfl)) rfl ?_
  refine x_iload_n i_60_22 rfl rfl ?_
  obtain ⟨q2, h⟩ := h
  refine x_iastore i_60_23 g_22 rfl q2 ?_
  refine x_aload_n i_60_24 rfl rfl ?_
  refine x_dup i_60_25 rfl rfl ?_
  refine x_geti (v := M 5 4) i_60_26 f_60_37 g_5 rfl (pm_get_c (by decide) (pm_get_c (by decide) (pm_get_c (by decide) rfl))) rfl ?_
  refine x_iconst i_60_29 (by decide) rfl ?_
  obtain ⟨q3, h⟩ := h
  refine x_iadd i_60_30 rfl q3 ?_
  refine x_puti i_60_31 f_60_37 g_5 rfl rfl ?_
  exact x_ret i_60_34 r_60 h
/-! GateBench$Trail.goBackTo at 0 -/
theorem s_61_0 {L : Nat} {M : pm_M} {Q : pm_P} {a1 : Int}
    (h : pm_X L (61, 5, [some (.inr (.inl 5)), some (.inl a1), some (.inl (M 5 4))], [], M) Q) :
    pm_X L (61, 0, [some (.inr (.inl 5)), some (.inl a1), none], [], M) Q := by
  refine x_aload_n i_61_0 rfl rfl ?_
  refine x_geti (v := M 5 4) i_61_1 f_61_37 g_5 rfl (rfl) rfl ?_
  refine x_istore_n i_61_4 (Nat.le_of_ble_eq_true rfl) rfl rfl ?_
  exact h
/-! GateBench$Trail.goBackTo at 5 -/
theorem s_61_5 {L : Nat} {M : pm_M} {Q : pm_P} {a1 a2 : Int}
    (h : ((M 5 5 ≤ 0 → pm_X L (62, 0, [some (.inr (.inl 5)), some (.inl a2), none], [], M) (pm_back (pm_X L) 61 57 [some (.inr (.inl 5)), some (.inl a1), some (.inl a2)] [] Q)) ∧ (¬ (M 5 5 ≤ 0) → (pm_R (M 5 5 - 1)) ∧ (0 ≤ M 5 5 - 1 ∧ M 5 5 - 1 < 12) ∧ (0 ≤ M 23 (M 5 5 - 1) ∧ M 23 (M 5 5 - 1) < 2000) ∧ ((M 22 (M 23 (M 5 5 - 1)) = a1 → pm_X L (62, 0, [some (.inr (.inl 5)), some (.inl a2), none], [], M) (pm_back (pm_X L) 61 57 [some (.inr (.inl 5)), some (.inl a1), some (.inl a2)] [] Q)) ∧ (¬ (M 22 (M 23 (M 5 5 - 1)) = a1) → pm_X L (61, 5, [some (.inr (.inl 5)), some (.inl a1), some (.inl (M 23 (M 5 5 - 1)))], [], pm_set M 5 5 (M 5 5 - 1)) Q))))) :
    pm_X L (61, 5, [some (.inr (.inl 5)), some (.inl a1), some (.inl a2)], [], M) Q := by
  refine x_aload_n i_61_5 rfl rfl ?_
  refine x_geti (v := M 5 5) i_61_6 f_61_29 g_5 rfl (rfl) rfl ?_
  refine x_if (C := M 5 5 ≤ 0) i_61_9 rfl Iff.rfl rfl ⟨fun c1 => ?_, fun c1 => ?_⟩
  · replace h := h.1 c1
    refine x_aload_n i_61_55 rfl rfl ?_
    refine x_iload_n i_61_56 rfl rfl ?_
    refine x_callv (as := [.inl a2]) (rest := []) i_61_57 k_61_25 rfl rfl rfl g_5 (Nat.le_of_ble_eq_true rfl) m_62 rfl h
  · replace h := h.2 c1
    refine x_aload_n i_61_12 rfl rfl ?_
    refine x_getr i_61_13 f_61_19 g_5 rfl rfl ?_
    refine x_aload_n i_61_16 rfl rfl ?_
    refine x_getr i_61_17 f_61_22 g_5 rfl rfl ?_
    refine x_aload_n i_61_20 rfl rfl ?_
    refine x_geti (v := M 5 5) i_61_21 f_61_29 g_5 rfl (rfl) rfl ?_
    refine x_iconst i_61_24 (by decide) rfl ?_
    obtain ⟨q2, h⟩ := h
    refine x_isub i_61_25 rfl q2 ?_
    obtain ⟨q3, h⟩ := h
    refine x_iaload (v := M 23 (M 5 5 - 1)) i_61_26 g_23 (rfl) rfl q3 ?_
    obtain ⟨q4, h⟩ := h
    refine x_iaload (v := M 22 (M 23 (M 5 5 - 1))) i_61_27 g_22 (rfl) rfl q4 ?_
    refine x_iload_n i_61_28 rfl rfl ?_
    refine x_icmp (C := M 22 (M 23 (M 5 5 - 1)) = a1) i_61_29 rfl Iff.rfl rfl ⟨fun c5 => ?_, fun c5 => ?_⟩
    · replace h := h.1 c5
      refine x_aload_n i_61_55 rfl rfl ?_
      refine x_iload_n i_61_56 rfl rfl ?_
      refine x_callv (as := [.inl a2]) (rest := []) i_61_57 k_61_25 rfl rfl rfl g_5 (Nat.le_of_ble_eq_true rfl) m_62 rfl h
    · replace h := h.2 c5
      refine x_aload_n i_61_32 rfl rfl ?_
      refine x_dup i_61_33 rfl rfl ?_
      refine x_geti (v := M 5 5) i_61_34 f_61_29 g_5 rfl (rfl) rfl ?_
      refine x_iconst i_61_37 (by decide) rfl ?_
      refine x_isub i_61_38 rfl q2 ?_
      refine x_puti i_61_39 f_61_29 g_5 rfl rfl ?_
      refine x_aload_n i_61_42 rfl rfl ?_
      refine x_getr i_61_43 f_61_22 g_5 rfl rfl ?_
      refine x_aload_n i_61_46 rfl rfl ?_
      refine x_geti (v := M 5 5 - 1) i_61_47 f_61_29 g_5 rfl (pm_get_e) rfl ?_
      refine x_iaload (v := M 23 (M 5 5 - 1)) i_61_50 g_23 (pm_get_c (by decide) rfl) rfl q3 ?_
      refine x_istore_n i_61_51 (Nat.le_of_ble_eq_true rfl) rfl rfl ?_
      refine x_goto i_61_52 rfl ?_
      exact h
/-! GateBench$Trail.goBackTo at 60 -/
theorem s_61_60 {L : Nat} {M : pm_M} {Q : pm_P} {a1 a2 : Int}
    (h : Q (.inl none) M) :
    pm_X L (61, 60, [some (.inr (.inl 5)), some (.inl a1), some (.inl a2)], [], M) Q := by
  exact x_ret i_61_60 r_61 h
/-! GateBench$Trail.cutTo at 0 -/
theorem s_62_0 {L : Nat} {M : pm_M} {Q : pm_P} {a1 : Int}
    (h : pm_X L (62, 2, [some (.inr (.inl 5)), some (.inl a1), some (.inl a1)], [], M) Q) :
    pm_X L (62, 0, [some (.inr (.inl 5)), some (.inl a1), none], [], M) Q := by
  refine x_iload_n i_62_0 rfl rfl ?_
  refine x_istore_n i_62_1 (Nat.le_of_ble_eq_true rfl) rfl rfl ?_
  exact h
/-! GateBench$Trail.cutTo at 2 -/
theorem s_62_2 {L : Nat} {M : pm_M} {Q : pm_P} {a1 a2 : Int}
    (h : ((M 5 4 ≤ a2 → Q (.inl none) (pm_set M 5 4 a1)) ∧ (¬ (M 5 4 ≤ a2) → (0 ≤ a2 ∧ a2 < 2000) ∧ (0 ≤ M 22 a2 ∧ M 22 a2 < 4000) ∧ (pm_R (a2 + 1)) ∧ pm_X L (62, 2, [some (.inr (.inl 5)), some (.inl a1), some (.inl (a2 + 1))], [], pm_set M 20 (M 22 a2) 0) Q))) :
    pm_X L (62, 2, [some (.inr (.inl 5)), some (.inl a1), some (.inl a2)], [], M) Q := by
  refine x_iload_n i_62_2 rfl rfl ?_
  refine x_aload_n i_62_3 rfl rfl ?_
  refine x_geti (v := M 5 4) i_62_4 f_62_37 g_5 rfl (rfl) rfl ?_
  refine x_icmp (C := M 5 4 ≤ a2) i_62_7 rfl Iff.rfl rfl ⟨fun c1 => ?_, fun c1 => ?_⟩
  · replace h := h.1 c1
    refine x_aload_n i_62_28 rfl rfl ?_
    refine x_iload_n i_62_29 rfl rfl ?_
    refine x_puti i_62_30 f_62_37 g_5 rfl rfl ?_
    exact x_ret i_62_33 r_62 h
  · replace h := h.2 c1
    refine x_aload_n i_62_10 rfl rfl ?_
    refine x_getr i_62_11 f_62_9 g_5 rfl rfl ?_
    refine x_aload_n i_62_14 rfl rfl ?_
    refine x_getr i_62_15 f_62_19 g_5 rfl rfl ?_
    refine x_iload_n i_62_18 rfl rfl ?_
    obtain ⟨q2, h⟩ := h
    refine x_iaload (v := M 22 a2) i_62_19 g_22 (rfl) rfl q2 ?_
    refine x_iconst i_62_20 (by decide) rfl ?_
    obtain ⟨q3, h⟩ := h
    refine x_bastore i_62_21 g_20 rfl ⟨q3, by unfold pm_bit; decide⟩ ?_
    obtain ⟨q4, h⟩ := h
    refine x_iinc i_62_22 rfl (by decide) rfl rfl q4 ?_
    refine x_goto i_62_25 rfl ?_
    exact h
