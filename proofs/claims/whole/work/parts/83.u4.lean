/-! PURE: the law, call by call -/
theorem lw_0 {L : Nat} {Q : pm_P} {M : pm_M} {n a4 : Int} {o5 o6 : Option pm_V} (hC : CpI M (n + 1)) (hn : 0 ≤ n) (ha : 0 ≤ a4 ∧ a4 + 4 ≤ (L : Int)) (hL : L ≤ 100000) (hH : ∀ (M' : pm_M) (o5 o6 : Option pm_V), CpI M' n → pm_X L (95, 23, lw_l (a4 + 4) o5 o6, [], M') Q) :
    pm_X L (86, 0, [some (.inr (.inl 0)), some (.inr (.inl 34)), none], [], M) (pm_back (pm_X L) 95 110 (lw_l a4 o5 o6) [] Q) := by
  have hF := hC.1.1.1.1
  have hN := hC.1.1.2.1.1
  have k1 := hC.1.1.2.2.1
  have k2 := hC.1.1.2.2.2.1
  have h9 : 1 ≤ M 99 0 := by have := hC.1.2.2.2.2.1; omega
  have hr : pm_R (a4 + 4) := by unfold pm_R; omega
  have b1 : pm_R (a4 + 1) := by unfold pm_R; omega
  have b2 : pm_R (a4 + 2) := by unfold pm_R; omega
  have b3 : pm_R (a4 + 3) := by unfold pm_R; omega
  have go1 : (M 1 7 = 12 ∨ M 1 6 = 2000) → ∀ M1 : pm_M, (∀ c, c ≠ 99 → M1 c = M c) → M1 99 0 = M 99 0 - 1 → pm_back (pm_X L) 95 110 (lw_l a4 o5 o6) [] Q (.inl (some (.inl 1))) M1 := by
    intro hc M1 f f9
    have e24 : M1 24 = M 24 := f 24 (by decide)
    have fin : pm_back (pm_X L) 95 116 (lw_l a4 (some (.inl 1)) o6) [] Q (.inl (some (.inl 0))) (pm_set (pm_set M1 24 0 0) 24 0 1) := x_bki rfl (e_119 pm_get_e (fun z => absurd z (by decide)) hr (fun o5 o6 => hH _ o5 o6 (hC.thr hn f f9)))
    refine x_bki rfl (s_95_113 ?_)
    exact s_67_0 ⟨fun _ => fin, fun z => ⟨fun y => by rw [e24] at z y; omega, fun _ => fin⟩⟩
  have go0 : M 1 7 < 12 → M 1 6 < 2000 → ∀ M1 : pm_M, M1 = ai_c M → pm_back (pm_X L) 95 110 (lw_l a4 o5 o6) [] Q (.inl (some (.inl 0))) M1 := by
    intro w1 w2 M1 hM1
    have e24 : M1 24 = M 24 := by rw [hM1]; exact ai_c_o 24 (by decide) (by decide) (by decide) (by decide) (by decide) (by decide)
    have gi : CpI (ai_r M1) n ∧ ai_r M1 24 0 = 0 ∧ ai_r M1 34 0 = M 1 6 := by rw [hM1]; exact input_in hC hn w2 w1
    have fin : pm_back (pm_X L) 95 116 (lw_l a4 (some (.inl 0)) o6) [] Q (.inl (some (.inl (M1 24 1)))) (ai_r M1) := x_bki rfl (e_119 gi.2.1 (fun _ => by rw [gi.2.2, e24, k1]) hr (fun o5 o6 => hH _ o5 o6 gi.1))
    exact x_bki rfl (s_95_113 (s_67_0 ⟨fun z => by rw [e24] at z; omega, fun _ => ⟨fun _ => ⟨by rw [e24]; omega, by rw [e24]; unfold pm_R; omega, by rw [e24]; omega, by rw [e24]; unfold pm_R; omega, fin⟩, fun z => (z (fun y => by rw [e24] at y; omega)).elim⟩⟩))
  exact s_86_0 ⟨fun z => ⟨fun y => ⟨by omega, by unfold pm_R; omega, by omega, by unfold pm_R; omega, go0 (by omega) (by omega) _ rfl⟩, fun y => ⟨h9, go1 (Or.inr (Classical.not_not.mp y)) _ (fun c hc => pm_set_off c hc) pm_get_e⟩⟩, fun z => ⟨h9, go1 (Or.inl (Classical.not_not.mp z)) _ (fun c hc => pm_set_off c hc) pm_get_e⟩⟩
theorem lw_1 {L : Nat} {Q : pm_P} {M : pm_M} {n a4 : Int} {o5 o6 : Option pm_V} (hC : CpI M (n + 1)) (hn : 0 ≤ n) (ha : 0 ≤ a4 ∧ a4 + 4 ≤ (L : Int)) (hL : L ≤ 100000) (hH : ∀ (M' : pm_M) (o5 o6 : Option pm_V), CpI M' n → pm_X L (95, 23, lw_l (a4 + 4) o5 o6, [], M') Q) :
    pm_X L (87, 0, [some (.inr (.inl 0)), some (.inl (M 35 (a4 + 1))), some (.inr (.inl 34)), none], [], M) (pm_back (pm_X L) 95 160 (lw_l a4 o5 o6) [] Q) := by
  have hF := hC.1.1.1.1
  have hN := hC.1.1.2.1.1
  have k1 := hC.1.1.2.2.1
  have k2 := hC.1.1.2.2.2.1
  have h9 : 1 ≤ M 99 0 := by have := hC.1.2.2.2.2.1; omega
  have hr : pm_R (a4 + 4) := by unfold pm_R; omega
  have b1 : pm_R (a4 + 1) := by unfold pm_R; omega
  have b2 : pm_R (a4 + 2) := by unfold pm_R; omega
  have b3 : pm_R (a4 + 3) := by unfold pm_R; omega
  generalize hA : M 35 (a4 + 1) = a
  have go1 : (a < 0 ∨ M 1 6 ≤ a) → ∀ M1 : pm_M, (∀ c, c ≠ 99 → M1 c = M c) → M1 99 0 = M 99 0 - 1 → pm_back (pm_X L) 95 160 (lw_l a4 o5 o6) [] Q (.inl (some (.inl 1))) M1 := by
    intro hc M1 f f9
    have e24 : M1 24 = M 24 := f 24 (by decide)
    have fin : pm_back (pm_X L) 95 172 (lw_l a4 (some (.inl 1)) o6) [] Q (.inl (some (.inl 0))) (pm_set (pm_set M1 24 0 0) 24 0 1) := x_bki rfl (e_175 pm_get_e (fun z => absurd z (by decide)) hr (fun o5 o6 => hH _ o5 o6 (hC.thr hn f f9)))
    refine x_bki rfl (s_95_163 ⟨b1, by omega, ?_⟩)
    rw [f 35 (by decide), hA]
    exact s_68_0 ⟨fun _ => fin, fun y => ⟨fun z => by rw [e24] at z; omega, fun _ => fin⟩⟩
  have go2 : ((0 ≤ a ∧ a < M 1 6) ∧ M 1 6 = 2000) → ∀ M1 : pm_M, (∀ c, c ≠ 99 → M1 c = M c) → M1 99 0 = M 99 0 - 1 → pm_back (pm_X L) 95 160 (lw_l a4 o5 o6) [] Q (.inl (some (.inl 2))) M1 := by
    intro hc M1 f f9
    have e24 : M1 24 = M 24 := f 24 (by decide)
    have fin : pm_back (pm_X L) 95 172 (lw_l a4 (some (.inl 2)) o6) [] Q (.inl (some (.inl 0))) (pm_set (pm_set M1 24 0 0) 24 0 2) := x_bki rfl (e_175 pm_get_e (fun z => absurd z (by decide)) hr (fun o5 o6 => hH _ o5 o6 (hC.thr hn f f9)))
    refine x_bki rfl (s_95_163 ⟨b1, by omega, ?_⟩)
    rw [f 35 (by decide), hA]
    exact s_68_0 ⟨fun z => by omega, fun _ => ⟨fun _ => ⟨fun z => by rw [e24] at z; omega, fun _ => fin⟩, fun z => by rw [e24] at z; omega⟩⟩
  have go0 : ((0 ≤ a ∧ a < M 1 6) ∧ M 1 6 < 2000) → ∀ (M1 : pm_M), M1 = ag_c M (2 * a) (0) (1) → pm_back (pm_X L) 95 160 (lw_l a4 o5 o6) [] Q (.inl (some (.inl 0))) M1 := by
    intro hc M1 hM1
    have e24 : M1 24 = M 24 := by rw [hM1]; exact ag_c_o 24 (by decide) (by decide) (by decide) (by decide) (by decide)
    have e35 : M1 35 = M 35 := by rw [hM1]; exact ag_c_o 35 (by decide) (by decide) (by decide) (by decide) (by decide)
    have gi : CpI (ag_r M1 2 a 0 0) n ∧ ag_r M1 2 a 0 0 24 0 = 0 ∧ ag_r M1 2 a 0 0 34 0 = M 1 6 := by rw [hM1]; exact gate_in hC hn (by omega) (Or.inl ⟨rfl, hc.1, rfl, rfl, rfl⟩)
    have fin : pm_back (pm_X L) 95 172 (lw_l a4 (some (.inl 0)) o6) [] Q (.inl (some (.inl (M1 24 1)))) (ag_r M1 2 a 0 0) := x_bki rfl (e_175 gi.2.1 (fun _ => by rw [gi.2.2, e24, k1]) hr (fun o5 o6 => hH _ o5 o6 gi.1))
    refine x_bki rfl (s_95_163 ⟨b1, by omega, ?_⟩)
    rw [e35, hA]
    exact s_68_0 ⟨fun z => by omega, fun _ => ⟨fun _ => ⟨fun _ => ⟨by rw [e24]; omega, by rw [e24]; unfold pm_R; omega, fin⟩, fun z => (z (fun y => by rw [e24] at y; omega)).elim⟩, fun z => by rw [e24] at z; omega⟩⟩
  rcases (by omega : (a < 0 ∨ M 1 6 ≤ a) ∨ ((0 ≤ a ∧ a < M 1 6) ∧ M 1 6 = 2000) ∨ ((0 ≤ a ∧ a < M 1 6) ∧ M 1 6 < 2000)) with hc | hc | hc
  · exact s_87_0 ⟨fun _ => ⟨h9, go1 hc _ (fun c hc => pm_set_off c hc) pm_get_e⟩, fun _ => ⟨fun z => by omega, fun _ => ⟨h9, go1 hc _ (fun c hc => pm_set_off c hc) pm_get_e⟩⟩⟩
  · exact s_87_0 ⟨fun z => by omega, fun _ => ⟨fun _ => ⟨fun z => by omega, fun _ => ⟨h9, go2 hc _ (fun c hc => pm_set_off c hc) pm_get_e⟩⟩, fun z => by omega⟩⟩
  · exact s_87_0 ⟨fun z => by omega, fun _ => ⟨fun _ => ⟨fun _ => ⟨by unfold pm_R; omega, by omega, by unfold pm_R; omega, go0 hc _ rfl⟩, fun z => (z (by omega)).elim⟩, fun z => by omega⟩⟩
theorem lw_2 {L : Nat} {Q : pm_P} {M : pm_M} {n a4 : Int} {o5 o6 : Option pm_V} (hC : CpI M (n + 1)) (hn : 0 ≤ n) (ha : 0 ≤ a4 ∧ a4 + 4 ≤ (L : Int)) (hL : L ≤ 100000) (hH : ∀ (M' : pm_M) (o5 o6 : Option pm_V), CpI M' n → pm_X L (95, 23, lw_l (a4 + 4) o5 o6, [], M') Q) :
    pm_X L (88, 0, [some (.inr (.inl 0)), some (.inl (M 35 (a4 + 1))), some (.inl (M 35 (a4 + 2))), some (.inl (M 35 (a4 + 3))), some (.inr (.inl 34)), none], [], M) (pm_back (pm_X L) 95 228 (lw_l a4 o5 o6) [] Q) := by
  have hF := hC.1.1.1.1
  have hN := hC.1.1.2.1.1
  have k1 := hC.1.1.2.2.1
  have k2 := hC.1.1.2.2.2.1
  have h9 : 1 ≤ M 99 0 := by have := hC.1.2.2.2.2.1; omega
  have hr : pm_R (a4 + 4) := by unfold pm_R; omega
  have b1 : pm_R (a4 + 1) := by unfold pm_R; omega
  have b2 : pm_R (a4 + 2) := by unfold pm_R; omega
  have b3 : pm_R (a4 + 3) := by unfold pm_R; omega
  generalize hA : M 35 (a4 + 1) = a
  generalize hB : M 35 (a4 + 2) = b
  generalize hD : M 35 (a4 + 3) = d
  have go1 : ((b < 0 ∨ M 1 6 ≤ b) ∨ (d < 0 ∨ M 1 6 ≤ d)) → ∀ M1 : pm_M, (∀ c, c ≠ 99 → M1 c = M c) → M1 99 0 = M 99 0 - 1 → pm_back (pm_X L) 95 228 (lw_l a4 o5 o6) [] Q (.inl (some (.inl 1))) M1 := by
    intro hc M1 f f9
    have e24 : M1 24 = M 24 := f 24 (by decide)
    have fin : pm_back (pm_X L) 95 252 (lw_l a4 (some (.inl 1)) o6) [] Q (.inl (some (.inl 0))) (pm_set (pm_set M1 24 0 0) 24 0 1) := x_bki rfl (e_255 pm_get_e (fun z => absurd z (by decide)) hr (fun o5 o6 => hH _ o5 o6 (hC.thr hn f f9)))
    refine x_bki rfl (s_95_231 ⟨b1, by omega, b2, by omega, b3, by omega, ?_⟩)
    rw [f 35 (by decide), hA, hB, hD]
    exact s_69_0 ⟨fun _ => fin, fun y1 => ⟨fun y2 => ⟨fun _ => fin, fun y3 => ⟨fun y4 => by rw [e24] at y2 y4; omega, fun _ => fin⟩⟩, fun _ => fin⟩⟩
  have go2 : (((0 ≤ b ∧ b < M 1 6) ∧ (0 ≤ d ∧ d < M 1 6)) ∧ (a < 0 ∨ 2 < a)) → ∀ M1 : pm_M, (∀ c, c ≠ 99 → M1 c = M c) → M1 99 0 = M 99 0 - 1 → pm_back (pm_X L) 95 228 (lw_l a4 o5 o6) [] Q (.inl (some (.inl 2))) M1 := by
    intro hc M1 f f9
    have e24 : M1 24 = M 24 := f 24 (by decide)
    have fin : pm_back (pm_X L) 95 252 (lw_l a4 (some (.inl 2)) o6) [] Q (.inl (some (.inl 0))) (pm_set (pm_set M1 24 0 0) 24 0 2) := x_bki rfl (e_255 pm_get_e (fun z => absurd z (by decide)) hr (fun o5 o6 => hH _ o5 o6 (hC.thr hn f f9)))
    refine x_bki rfl (s_95_231 ⟨b1, by omega, b2, by omega, b3, by omega, ?_⟩)
    rw [f 35 (by decide), hA, hB, hD]
    exact s_69_0 ⟨fun z => by omega, fun _ => ⟨fun _ => ⟨fun z => by omega, fun _ => ⟨fun _ => ⟨fun _ => fin, fun y5 => ⟨fun y6 => by omega, fun _ => fin⟩⟩, fun z => by rw [e24] at z; omega⟩⟩, fun z => by rw [e24] at z; omega⟩⟩
  have go3 : (((0 ≤ b ∧ b < M 1 6) ∧ (0 ≤ d ∧ d < M 1 6)) ∧ (0 ≤ a ∧ a ≤ 2) ∧ M 1 6 = 2000) → ∀ M1 : pm_M, (∀ c, c ≠ 99 → M1 c = M c) → M1 99 0 = M 99 0 - 1 → pm_back (pm_X L) 95 228 (lw_l a4 o5 o6) [] Q (.inl (some (.inl 3))) M1 := by
    intro hc M1 f f9
    have e24 : M1 24 = M 24 := f 24 (by decide)
    have fin : pm_back (pm_X L) 95 252 (lw_l a4 (some (.inl 3)) o6) [] Q (.inl (some (.inl 0))) (pm_set (pm_set M1 24 0 0) 24 0 3) := x_bki rfl (e_255 pm_get_e (fun z => absurd z (by decide)) hr (fun o5 o6 => hH _ o5 o6 (hC.thr hn f f9)))
    refine x_bki rfl (s_95_231 ⟨b1, by omega, b2, by omega, b3, by omega, ?_⟩)
    rw [f 35 (by decide), hA, hB, hD]
    exact s_69_0 ⟨fun z => by omega, fun _ => ⟨fun _ => ⟨fun z => by omega, fun _ => ⟨fun _ => ⟨fun z => by omega, fun _ => ⟨fun _ => ⟨fun z => by rw [e24] at z; omega, fun _ => fin⟩, fun z => by omega⟩⟩, fun z => by rw [e24] at z; omega⟩⟩, fun z => by rw [e24] at z; omega⟩⟩
  have go0 : (((0 ≤ b ∧ b < M 1 6) ∧ (0 ≤ d ∧ d < M 1 6)) ∧ (0 ≤ a ∧ a ≤ 2) ∧ M 1 6 < 2000) → ∀ (y z : Int) (M1 : pm_M), M1 = ag_c M (2 * b) (y) (z) → KdX (M 1 6) (3 + a) b d 0 (2 * b) y z → pm_back (pm_X L) 95 228 (lw_l a4 o5 o6) [] Q (.inl (some (.inl 0))) M1 := by
    intro hc y z M1 hM1 hk
    have e24 : M1 24 = M 24 := by rw [hM1]; exact ag_c_o 24 (by decide) (by decide) (by decide) (by decide) (by decide)
    have e35 : M1 35 = M 35 := by rw [hM1]; exact ag_c_o 35 (by decide) (by decide) (by decide) (by decide) (by decide)
    have gi : CpI (ag_r M1 (3 + a) b d 0) n ∧ ag_r M1 (3 + a) b d 0 24 0 = 0 ∧ ag_r M1 (3 + a) b d 0 34 0 = M 1 6 := by rw [hM1]; exact gate_in hC hn (by omega) (hk)
    have fin : pm_back (pm_X L) 95 252 (lw_l a4 (some (.inl 0)) o6) [] Q (.inl (some (.inl (M1 24 1)))) (ag_r M1 (3 + a) b d 0) := x_bki rfl (e_255 gi.2.1 (fun _ => by rw [gi.2.2, e24, k1]) hr (fun o5 o6 => hH _ o5 o6 gi.1))
    refine x_bki rfl (s_95_231 ⟨b1, by omega, b2, by omega, b3, by omega, ?_⟩)
    rw [e35, hA, hB, hD]
    exact s_69_0 ⟨fun z => by omega, fun _ => ⟨fun _ => ⟨fun z => by omega, fun _ => ⟨fun _ => ⟨fun z => by omega, fun _ => ⟨fun _ => ⟨fun _ => ⟨by unfold pm_R; omega, by rw [e24]; omega, by rw [e24]; unfold pm_R; omega, fin⟩, fun z => (z (fun y => by rw [e24] at y; omega)).elim⟩, fun z => by omega⟩⟩, fun z => by rw [e24] at z; omega⟩⟩, fun z => by rw [e24] at z; omega⟩⟩
  rcases (by omega : ((b < 0 ∨ M 1 6 ≤ b) ∨ (d < 0 ∨ M 1 6 ≤ d)) ∨ (((0 ≤ b ∧ b < M 1 6) ∧ (0 ≤ d ∧ d < M 1 6)) ∧ (a < 0 ∨ 2 < a)) ∨ (((0 ≤ b ∧ b < M 1 6) ∧ (0 ≤ d ∧ d < M 1 6)) ∧ (0 ≤ a ∧ a ≤ 2) ∧ M 1 6 = 2000) ∨ (((0 ≤ b ∧ b < M 1 6) ∧ (0 ≤ d ∧ d < M 1 6)) ∧ (0 ≤ a ∧ a ≤ 2) ∧ M 1 6 < 2000)) with hc | hc | hc | hc
  · exact s_88_0 ⟨fun _ => ⟨h9, go1 hc _ (fun c hc => pm_set_off c hc) pm_get_e⟩, fun _ => ⟨fun _ => ⟨fun _ => ⟨h9, go1 hc _ (fun c hc => pm_set_off c hc) pm_get_e⟩, fun _ => ⟨fun z => by omega, fun _ => ⟨h9, go1 hc _ (fun c hc => pm_set_off c hc) pm_get_e⟩⟩⟩, fun _ => ⟨h9, go1 hc _ (fun c hc => pm_set_off c hc) pm_get_e⟩⟩⟩
  · exact s_88_0 ⟨fun z => by omega, fun _ => ⟨fun _ => ⟨fun z => by omega, fun _ => ⟨fun _ => ⟨fun z => by omega, fun _ => ⟨fun z => by omega, fun _ => ⟨fun z => by omega, fun _ => ⟨h9, go2 hc _ (fun c hc => pm_set_off c hc) pm_get_e⟩⟩⟩⟩, fun z => by omega⟩⟩, fun z => by omega⟩⟩
  · exact s_88_0 ⟨fun z => by omega, fun _ => ⟨fun _ => ⟨fun z => by omega, fun _ => ⟨fun _ => ⟨fun _ => ⟨fun z => by omega, fun _ => ⟨h9, go3 hc _ (fun c hc => pm_set_off c hc) pm_get_e⟩⟩, fun _ => ⟨fun _ => ⟨fun z => by omega, fun _ => ⟨h9, go3 hc _ (fun c hc => pm_set_off c hc) pm_get_e⟩⟩, fun _ => ⟨fun _ => ⟨fun z => by omega, fun _ => ⟨h9, go3 hc _ (fun c hc => pm_set_off c hc) pm_get_e⟩⟩, fun z => by omega⟩⟩⟩, fun z => by omega⟩⟩, fun z => by omega⟩⟩
  · have j0 : a = 0 → KdX (M 1 6) (3 + a) b d 0 (2 * b) (2 * d) 0 := fun q => Or.inr (Or.inl ⟨by omega, hc.1.1, hc.1.2, rfl, rfl, rfl⟩)
    have j1 : a = 1 → KdX (M 1 6) (3 + a) b d 0 (2 * b) 1 (2 * d) := fun q => Or.inr (Or.inr (Or.inl ⟨by omega, hc.1.1, hc.1.2, rfl, rfl, rfl⟩))
    have j2 : a = 2 → KdX (M 1 6) (3 + a) b d 0 (2 * b) (pm_op (2 * d)) (2 * d) := fun q => Or.inr (Or.inr (Or.inr (Or.inl ⟨by omega, hc.1.1, hc.1.2, rfl, rfl, rfl⟩)))
    exact s_88_0 ⟨fun z => by omega, fun _ => ⟨fun _ => ⟨fun z => by omega, fun _ => ⟨fun _ => ⟨fun q => ⟨fun _ => ⟨fun z => by omega, fun _ => ⟨by unfold pm_R; omega, by unfold pm_R; omega, by omega, by unfold pm_R; omega, go0 hc _ _ _ rfl (j0 q)⟩⟩, fun z => (z (by omega)).elim⟩, fun _ => ⟨fun q => ⟨fun _ => ⟨fun z => by omega, fun _ => ⟨by unfold pm_R; omega, by unfold pm_R; omega, by omega, by unfold pm_R; omega, go0 hc _ _ _ rfl (j1 q)⟩⟩, fun z => (z (by omega)).elim⟩, fun _ => ⟨fun q => ⟨fun _ => ⟨by unfold pm_R; omega, by unfold pm_R; omega, by omega, by unfold pm_R; omega, go0 hc _ _ _ rfl (j2 q)⟩, fun z => (z (by omega)).elim⟩, fun z => by omega⟩⟩⟩, fun z => by omega⟩⟩, fun z => by omega⟩⟩
theorem lw_3 {L : Nat} {Q : pm_P} {M : pm_M} {n a4 : Int} {o5 o6 : Option pm_V} (hC : CpI M (n + 1)) (hn : 0 ≤ n) (ha : 0 ≤ a4 ∧ a4 + 4 ≤ (L : Int)) (hL : L ≤ 100000) (hH : ∀ (M' : pm_M) (o5 o6 : Option pm_V), CpI M' n → pm_X L (95, 23, lw_l (a4 + 4) o5 o6, [], M') Q) :
    pm_X L (89, 0, [some (.inr (.inl 0)), some (.inl (M 35 (a4 + 1))), some (.inl (M 35 (a4 + 2))), some (.inl (M 35 (a4 + 3))), some (.inr (.inl 34)), none], [], M) (pm_back (pm_X L) 95 308 (lw_l a4 o5 o6) [] Q) := by
  have hF := hC.1.1.1.1
  have hN := hC.1.1.2.1.1
  have k1 := hC.1.1.2.2.1
  have k2 := hC.1.1.2.2.2.1
  have h9 : 1 ≤ M 99 0 := by have := hC.1.2.2.2.2.1; omega
  have hr : pm_R (a4 + 4) := by unfold pm_R; omega
  have b1 : pm_R (a4 + 1) := by unfold pm_R; omega
  have b2 : pm_R (a4 + 2) := by unfold pm_R; omega
  have b3 : pm_R (a4 + 3) := by unfold pm_R; omega
  generalize hA : M 35 (a4 + 1) = a
  generalize hB : M 35 (a4 + 2) = b
  generalize hD : M 35 (a4 + 3) = d
  have go1 : ((a < 0 ∨ M 1 6 ≤ a) ∨ (b < 0 ∨ M 1 6 ≤ b) ∨ (d < 0 ∨ M 1 6 ≤ d)) → ∀ M1 : pm_M, (∀ c, c ≠ 99 → M1 c = M c) → M1 99 0 = M 99 0 - 1 → pm_back (pm_X L) 95 308 (lw_l a4 o5 o6) [] Q (.inl (some (.inl 1))) M1 := by
    intro hc M1 f f9
    have e24 : M1 24 = M 24 := f 24 (by decide)
    have fin : pm_back (pm_X L) 95 332 (lw_l a4 (some (.inl 1)) o6) [] Q (.inl (some (.inl 0))) (pm_set (pm_set M1 24 0 0) 24 0 1) := x_bki rfl (e_335 pm_get_e (fun z => absurd z (by decide)) hr (fun o5 o6 => hH _ o5 o6 (hC.thr hn f f9)))
    refine x_bki rfl (s_95_311 ⟨b1, by omega, b2, by omega, b3, by omega, ?_⟩)
    rw [f 35 (by decide), hA, hB, hD]
    exact s_70_0 ⟨fun _ => fin, fun y1 => ⟨fun y2 => ⟨fun _ => fin, fun y3 => ⟨fun y4 => ⟨fun _ => fin, fun y5 => ⟨fun y6 => by rw [e24] at y2 y4 y6; omega, fun _ => fin⟩⟩, fun _ => fin⟩⟩, fun _ => fin⟩⟩
  have go2 : (((0 ≤ a ∧ a < M 1 6) ∧ (0 ≤ b ∧ b < M 1 6) ∧ (0 ≤ d ∧ d < M 1 6)) ∧ M 1 6 = 2000) → ∀ M1 : pm_M, (∀ c, c ≠ 99 → M1 c = M c) → M1 99 0 = M 99 0 - 1 → pm_back (pm_X L) 95 308 (lw_l a4 o5 o6) [] Q (.inl (some (.inl 2))) M1 := by
    intro hc M1 f f9
    have e24 : M1 24 = M 24 := f 24 (by decide)
    have fin : pm_back (pm_X L) 95 332 (lw_l a4 (some (.inl 2)) o6) [] Q (.inl (some (.inl 0))) (pm_set (pm_set M1 24 0 0) 24 0 2) := x_bki rfl (e_335 pm_get_e (fun z => absurd z (by decide)) hr (fun o5 o6 => hH _ o5 o6 (hC.thr hn f f9)))
    refine x_bki rfl (s_95_311 ⟨b1, by omega, b2, by omega, b3, by omega, ?_⟩)
    rw [f 35 (by decide), hA, hB, hD]
    exact s_70_0 ⟨fun z => by omega, fun _ => ⟨fun _ => ⟨fun z => by omega, fun _ => ⟨fun _ => ⟨fun z => by omega, fun _ => ⟨fun _ => ⟨fun z => by rw [e24] at z; omega, fun _ => fin⟩, fun z => by rw [e24] at z; omega⟩⟩, fun z => by rw [e24] at z; omega⟩⟩, fun z => by rw [e24] at z; omega⟩⟩
  have go0 : (((0 ≤ a ∧ a < M 1 6) ∧ (0 ≤ b ∧ b < M 1 6) ∧ (0 ≤ d ∧ d < M 1 6)) ∧ M 1 6 < 2000) → ∀ (M1 : pm_M), M1 = ag_c M (2 * a) (2 * b) (2 * d) → pm_back (pm_X L) 95 308 (lw_l a4 o5 o6) [] Q (.inl (some (.inl 0))) M1 := by
    intro hc M1 hM1
    have e24 : M1 24 = M 24 := by rw [hM1]; exact ag_c_o 24 (by decide) (by decide) (by decide) (by decide) (by decide)
    have e35 : M1 35 = M 35 := by rw [hM1]; exact ag_c_o 35 (by decide) (by decide) (by decide) (by decide) (by decide)
    have gi : CpI (ag_r M1 6 a b d) n ∧ ag_r M1 6 a b d 24 0 = 0 ∧ ag_r M1 6 a b d 34 0 = M 1 6 := by rw [hM1]; exact gate_in hC hn (by omega) (Or.inr (Or.inr (Or.inr (Or.inr ⟨rfl, hc.1.1, hc.1.2.1, hc.1.2.2, rfl, rfl, rfl⟩))))
    have fin : pm_back (pm_X L) 95 332 (lw_l a4 (some (.inl 0)) o6) [] Q (.inl (some (.inl (M1 24 1)))) (ag_r M1 6 a b d) := x_bki rfl (e_335 gi.2.1 (fun _ => by rw [gi.2.2, e24, k1]) hr (fun o5 o6 => hH _ o5 o6 gi.1))
    refine x_bki rfl (s_95_311 ⟨b1, by omega, b2, by omega, b3, by omega, ?_⟩)
    rw [e35, hA, hB, hD]
    exact s_70_0 ⟨fun z => by omega, fun _ => ⟨fun _ => ⟨fun z => by omega, fun _ => ⟨fun _ => ⟨fun z => by omega, fun _ => ⟨fun _ => ⟨fun _ => ⟨by rw [e24]; omega, by rw [e24]; unfold pm_R; omega, fin⟩, fun z => (z (fun y => by rw [e24] at y; omega)).elim⟩, fun z => by rw [e24] at z; omega⟩⟩, fun z => by rw [e24] at z; omega⟩⟩, fun z => by rw [e24] at z; omega⟩⟩
  rcases (by omega : ((a < 0 ∨ M 1 6 ≤ a) ∨ (b < 0 ∨ M 1 6 ≤ b) ∨ (d < 0 ∨ M 1 6 ≤ d)) ∨ (((0 ≤ a ∧ a < M 1 6) ∧ (0 ≤ b ∧ b < M 1 6) ∧ (0 ≤ d ∧ d < M 1 6)) ∧ M 1 6 = 2000) ∨ (((0 ≤ a ∧ a < M 1 6) ∧ (0 ≤ b ∧ b < M 1 6) ∧ (0 ≤ d ∧ d < M 1 6)) ∧ M 1 6 < 2000)) with hc | hc | hc
  · exact s_89_0 ⟨fun _ => ⟨h9, go1 hc _ (fun c hc => pm_set_off c hc) pm_get_e⟩, fun _ => ⟨fun _ => ⟨fun _ => ⟨h9, go1 hc _ (fun c hc => pm_set_off c hc) pm_get_e⟩, fun _ => ⟨fun _ => ⟨fun _ => ⟨h9, go1 hc _ (fun c hc => pm_set_off c hc) pm_get_e⟩, fun _ => ⟨fun z => by omega, fun _ => ⟨h9, go1 hc _ (fun c hc => pm_set_off c hc) pm_get_e⟩⟩⟩, fun _ => ⟨h9, go1 hc _ (fun c hc => pm_set_off c hc) pm_get_e⟩⟩⟩, fun _ => ⟨h9, go1 hc _ (fun c hc => pm_set_off c hc) pm_get_e⟩⟩⟩
  · exact s_89_0 ⟨fun z => by omega, fun _ => ⟨fun _ => ⟨fun z => by omega, fun _ => ⟨fun _ => ⟨fun z => by omega, fun _ => ⟨fun _ => ⟨fun z => by omega, fun _ => ⟨h9, go2 hc _ (fun c hc => pm_set_off c hc) pm_get_e⟩⟩, fun z => by omega⟩⟩, fun z => by omega⟩⟩, fun z => by omega⟩⟩
  · exact s_89_0 ⟨fun z => by omega, fun _ => ⟨fun _ => ⟨fun z => by omega, fun _ => ⟨fun _ => ⟨fun z => by omega, fun _ => ⟨fun _ => ⟨fun _ => ⟨by unfold pm_R; omega, by unfold pm_R; omega, by unfold pm_R; omega, by omega, by unfold pm_R; omega, go0 hc _ rfl⟩, fun z => (z (by omega)).elim⟩, fun z => by omega⟩⟩, fun z => by omega⟩⟩, fun z => by omega⟩⟩
abbrev wa_c (M : pm_M) (a : Int) : pm_M := pm_set (pm_set (pm_set M 6 (M 0 5) a) 0 5 (M 0 5 + 1)) 34 0 (M 0 5 + 1)
abbrev wa_r (M : pm_M) (a : Int) : pm_M := pm_set (pm_set (pm_set M 24 0 0) 24 3 (M 24 3 + 1)) 29 (M 24 3) a
theorem want_in {M M1 : pm_M} {n a : Int} (hC : CpI M (n + 1)) (hn : 0 ≤ n) (ha : 0 ≤ a ∧ a < M 1 6) (h5 : M 0 5 < 20) (hM1 : M1 = wa_c M a) : CpI (wa_r M1 a) n ∧ wa_r M1 a 24 0 = 0 ∧ wa_r M1 a 34 0 = M1 24 3 + 1 := by
  obtain ⟨⟨hR, hS, ⟨a1, a2, a3, a4⟩, ⟨n0, n1, n2⟩⟩, ⟨l1, l2, l3⟩, t⟩ := hC
  have c0 : M1 0 = upf (M 0) 5 (M 0 5 + 1) := by rw [hM1]; unfold wa_c; rw [pm_set_off 0 (by decide), pm_cell, if_pos rfl, pm_set_off 0 (by decide)]
  have c6 : M1 6 = upf (M 6) (M 0 5) a := by rw [hM1]; unfold wa_c; rw [pm_set_off 6 (by decide), pm_set_off 6 (by decide), pm_cell, if_pos rfl]
  have c34 : M1 34 0 = M 0 5 + 1 := by rw [hM1]; exact pm_get_e
  have co : ∀ c, c ≠ 0 → c ≠ 6 → c ≠ 34 → M1 c = M c := fun c h0 h6 h34 => by rw [hM1]; unfold wa_c; rw [pm_set_off c h34, pm_set_off c h0, pm_set_off c h6]
  have c24 : M1 24 = M 24 := co 24 (by decide) (by decide) (by decide)
  have c29 : M1 29 = M 29 := co 29 (by decide) (by decide) (by decide)
  have r24 : wa_r M1 a 24 = upf (upf (M 24) 0 0) 3 (M 0 5 + 1) := by
    unfold wa_r
    rw [pm_set_off 24 (by decide), pm_cell, if_pos rfl, pm_cell, if_pos rfl, c24, l2]
  have r29 : wa_r M1 a 29 = upf (M 29) (M 0 5) a := by
    unfold wa_r
    rw [pm_cell, if_pos rfl, pm_set_off 29 (by decide), pm_set_off 29 (by decide), c24, c29, l2]
  have ro : ∀ c, c ≠ 24 → c ≠ 29 → wa_r M1 a c = M1 c := fun c h1 h2 => by
    unfold wa_r
    rw [pm_set_off c h2, pm_set_off c h1, pm_set_off c h1]
  have r34 : wa_r M1 a 34 0 = M1 24 3 + 1 := by rw [ro 34 (by decide) (by decide), c34, c24, l2]
  have r0 : wa_r M1 a 0 = upf (M 0) 5 (M 0 5 + 1) := (ro 0 (by decide) (by decide)).trans c0
  have r6 : wa_r M1 a 6 = upf (M 6) (M 0 5) a := (ro 6 (by decide) (by decide)).trans c6
  have rr : ∀ c, c ≠ 0 → c ≠ 6 → c ≠ 24 → c ≠ 29 → c ≠ 34 → wa_r M1 a c = M c := fun c h0 h6 h24 h29 h34 => (ro c h24 h29).trans (co c h0 h6 h34)
  generalize wa_r M1 a = M' at r24 r29 r34 r0 r6 rr ⊢
  have e1 : M' 1 = M 1 := rr 1 (by decide) (by decide) (by decide) (by decide) (by decide)
  have e3 : M' 3 = M 3 := rr 3 (by decide) (by decide) (by decide) (by decide) (by decide)
  have e10 : M' 10 = M 10 := rr 10 (by decide) (by decide) (by decide) (by decide) (by decide)
  have e12 : M' 12 = M 12 := rr 12 (by decide) (by decide) (by decide) (by decide) (by decide)
  have e30 : M' 30 = M 30 := rr 30 (by decide) (by decide) (by decide) (by decide) (by decide)
  have e99 : M' 99 = M 99 := rr 99 (by decide) (by decide) (by decide) (by decide) (by decide)
  have z5 : M' 0 5 = M 0 5 + 1 := by rw [r0, upf_e]
  refine ⟨⟨⟨hR.of e1 (rr 7 (by decide) (by decide) (by decide) (by decide) (by decide)) (rr 8 (by decide) (by decide) (by decide) (by decide) (by decide)) (rr 9 (by decide) (by decide) (by decide) (by decide) (by decide)) e12 (by rw [r24, upf_n _ _ (by decide), upf_n _ _ (by decide)]) (by rw [r24, upf_n _ _ (by decide), upf_n _ _ (by decide)]) (rr 25 (by decide) (by decide) (by decide) (by decide) (by decide)) (rr 26 (by decide) (by decide) (by decide) (by decide) (by decide)) (rr 27 (by decide) (by decide) (by decide) (by decide) (by decide)) (rr 28 (by decide) (by decide) (by decide) (by decide) (by decide)), hS.of e3 (rr 5 (by decide) (by decide) (by decide) (by decide) (by decide)) (rr 14 (by decide) (by decide) (by decide) (by decide) (by decide)) (rr 15 (by decide) (by decide) (by decide) (by decide) (by decide)) (rr 18 (by decide) (by decide) (by decide) (by decide) (by decide)) (rr 20 (by decide) (by decide) (by decide) (by decide) (by decide)) (rr 22 (by decide) (by decide) (by decide) (by decide) (by decide)), ⟨by rw [r0, upf_n _ _ (by decide)]; exact a1, by rw [e10]; exact a2, by rw [e10, e1]; exact a3, by rw [e30]; exact a4⟩, ⟨hn, by rw [e99]; omega, by rw [e3]; omega⟩⟩, ⟨⟨by have := l1.1; omega, fun i i0 i1 => ?_⟩, by rw [r24, upf_e, z5], fun i i0 i1 => ?_⟩, by unfold CpT; rw [e1, e10, e12, e30]; exact t⟩, by rw [r24, upf_n _ _ (by decide), upf_e], r34⟩
  · rw [z5] at i1
    rw [r6, e1]
    rcases (by omega : i = M 0 5 ∨ i < M 0 5) with u | u
    · rw [u, upf_e]; exact ha
    · rw [upf_n _ _ (by omega)]; exact l1.2 i i0 u
  · rw [z5] at i1
    rw [r6, r29]
    rcases (by omega : i = M 0 5 ∨ i < M 0 5) with u | u
    · rw [u, upf_e, upf_e]
    · rw [upf_n _ _ (by omega), upf_n _ _ (by omega)]; exact l3 i i0 u
theorem lw_4 {L : Nat} {Q : pm_P} {M : pm_M} {n a4 : Int} {o5 o6 : Option pm_V} (hC : CpI M (n + 1)) (hn : 0 ≤ n) (ha : 0 ≤ a4 ∧ a4 + 4 ≤ (L : Int)) (hL : L ≤ 100000) (hH : ∀ (M' : pm_M) (o5 o6 : Option pm_V), CpI M' n → pm_X L (95, 23, lw_l (a4 + 4) o5 o6, [], M') Q) :
    pm_X L (90, 0, [some (.inr (.inl 0)), some (.inl (M 35 (a4 + 1))), some (.inr (.inl 34)), none], [], M) (pm_back (pm_X L) 95 376 (lw_l a4 o5 o6) [] Q) := by
  have hF := hC.1.1.1.1
  have hN := hC.1.1.2.1.1
  have k1 := hC.1.1.2.2.1
  have k2 := hC.1.1.2.2.2.1
  have h9 : 1 ≤ M 99 0 := by have := hC.1.2.2.2.2.1; omega
  have hr : pm_R (a4 + 4) := by unfold pm_R; omega
  have b1 : pm_R (a4 + 1) := by unfold pm_R; omega
  have b2 : pm_R (a4 + 2) := by unfold pm_R; omega
  have b3 : pm_R (a4 + 3) := by unfold pm_R; omega
  generalize hA : M 35 (a4 + 1) = a
  have hl := hC.2.1.1.1
  have l2 := hC.2.1.2.1
  have go1 : (a < 0 ∨ M 1 6 ≤ a) → ∀ M1 : pm_M, (∀ c, c ≠ 99 → M1 c = M c) → M1 99 0 = M 99 0 - 1 → pm_back (pm_X L) 95 376 (lw_l a4 o5 o6) [] Q (.inl (some (.inl 1))) M1 := by
    intro hc M1 f f9
    have e24 : M1 24 = M 24 := f 24 (by decide)
    have fin : pm_back (pm_X L) 95 388 (lw_l a4 (some (.inl 1)) o6) [] Q (.inl (some (.inl 0))) (pm_set (pm_set M1 24 0 0) 24 0 1) := x_bki rfl (e_391 pm_get_e (fun z => absurd z (by decide)) hr (fun o5 o6 => hH _ o5 o6 (hC.thr hn f f9)))
    refine x_bki rfl (s_95_379 ⟨b1, by omega, ?_⟩)
    rw [f 35 (by decide), hA]
    exact s_71_0 ⟨fun _ => fin, fun y => ⟨fun z => by rw [e24] at z; omega, fun _ => fin⟩⟩
  have go2 : ((0 ≤ a ∧ a < M 1 6) ∧ M 0 5 = 20) → ∀ M1 : pm_M, (∀ c, c ≠ 99 → M1 c = M c) → M1 99 0 = M 99 0 - 1 → pm_back (pm_X L) 95 376 (lw_l a4 o5 o6) [] Q (.inl (some (.inl 2))) M1 := by
    intro hc M1 f f9
    have e24 : M1 24 = M 24 := f 24 (by decide)
    have fin : pm_back (pm_X L) 95 388 (lw_l a4 (some (.inl 2)) o6) [] Q (.inl (some (.inl 0))) (pm_set (pm_set M1 24 0 0) 24 0 2) := x_bki rfl (e_391 pm_get_e (fun z => absurd z (by decide)) hr (fun o5 o6 => hH _ o5 o6 (hC.thr hn f f9)))
    refine x_bki rfl (s_95_379 ⟨b1, by omega, ?_⟩)
    rw [f 35 (by decide), hA]
    exact s_71_0 ⟨fun z => by omega, fun _ => ⟨fun _ => ⟨fun z => by rw [e24] at z; omega, fun _ => fin⟩, fun z => by rw [e24] at z; omega⟩⟩
  have go0 : ((0 ≤ a ∧ a < M 1 6) ∧ M 0 5 < 20) → ∀ M1 : pm_M, M1 = wa_c M a → pm_back (pm_X L) 95 376 (lw_l a4 o5 o6) [] Q (.inl (some (.inl 0))) M1 := by
    intro hc M1 hM1
    have e24 : M1 24 = M 24 := by rw [hM1]; unfold wa_c; rw [pm_set_off 24 (by decide), pm_set_off 24 (by decide), pm_set_off 24 (by decide)]
    have e35 : M1 35 = M 35 := by rw [hM1]; unfold wa_c; rw [pm_set_off 35 (by decide), pm_set_off 35 (by decide), pm_set_off 35 (by decide)]
    have gi := want_in hC hn hc.1 hc.2 hM1
    have fin : pm_back (pm_X L) 95 388 (lw_l a4 (some (.inl 0)) o6) [] Q (.inl (some (.inl (M1 24 3 + 1)))) (wa_r M1 a) := x_bki rfl (e_391 gi.2.1 (fun _ => gi.2.2) hr (fun o5 o6 => hH _ o5 o6 gi.1))
    refine x_bki rfl (s_95_379 ⟨b1, by omega, ?_⟩)
    rw [e35, hA]
    exact s_71_0 ⟨fun z => by omega, fun _ => ⟨fun _ => ⟨fun _ => ⟨by rw [e24]; unfold pm_R; omega, by rw [e24]; omega, fin⟩, fun z => (z (fun y => by rw [e24] at y; omega)).elim⟩, fun z => by rw [e24] at z; omega⟩⟩
  rcases (by omega : (a < 0 ∨ M 1 6 ≤ a) ∨ ((0 ≤ a ∧ a < M 1 6) ∧ M 0 5 = 20) ∨ ((0 ≤ a ∧ a < M 1 6) ∧ M 0 5 < 20)) with hc | hc | hc
  · exact s_90_0 ⟨fun _ => ⟨h9, go1 hc _ (fun c hc => pm_set_off c hc) pm_get_e⟩, fun _ => ⟨fun z => by omega, fun _ => ⟨h9, go1 hc _ (fun c hc => pm_set_off c hc) pm_get_e⟩⟩⟩
  · exact s_90_0 ⟨fun z => by omega, fun _ => ⟨fun _ => ⟨fun z => by omega, fun _ => ⟨h9, go2 hc _ (fun c hc => pm_set_off c hc) pm_get_e⟩⟩, fun z => by omega⟩⟩
  · exact s_90_0 ⟨fun z => by omega, fun _ => ⟨fun _ => ⟨fun _ => ⟨by omega, by unfold pm_R; omega, go0 hc _ rfl⟩, fun z => (z (by omega)).elim⟩, fun z => by omega⟩⟩
theorem lw_5 {L : Nat} {Q : pm_P} {M : pm_M} {n a4 : Int} {o5 o6 : Option pm_V} (hC : CpI M (n + 1)) (hn : 0 ≤ n) (ha : 0 ≤ a4 ∧ a4 + 4 ≤ (L : Int)) (hL : L ≤ 100000) (hH : ∀ (M' : pm_M) (o5 o6 : Option pm_V), CpI M' n → pm_X L (95, 23, lw_l (a4 + 4) o5 o6, [], M') Q) :
    pm_X L (5, 0, [some (.inr (.inl 0)), none], [], M) (pm_back (pm_X L) 95 425 (lw_l a4 o5 o6) [] Q) := by
  have hF := hC.1.1.1.1
  have hN := hC.1.1.2.1.1
  have k1 := hC.1.1.2.2.1
  have k2 := hC.1.1.2.2.2.1
  have h9 : 1 ≤ M 99 0 := by have := hC.1.2.2.2.2.1; omega
  have hr : pm_R (a4 + 4) := by unfold pm_R; omega
  have b1 : pm_R (a4 + 1) := by unfold pm_R; omega
  have b2 : pm_R (a4 + 2) := by unfold pm_R; omega
  have b3 : pm_R (a4 + 3) := by unfold pm_R; omega
  obtain ⟨⟨hR, hS, ⟨a1, a2, a3, a4'⟩, ⟨n0, n1, n2⟩⟩, ⟨l1, l2, l3⟩, t⟩ := hC
  refine s_5_0 (x_bki rfl (s_95_428 (s_72_0 (x_bki rfl (e_432 ?_ hr (fun o5 o6 => hH _ o5 o6 ?_))))))
  · rw [pm_set_off 24 (by decide)]; exact l2.symm
  · have e : ∀ c, c ≠ 0 → c ≠ 24 → pm_set (pm_set (pm_set M 0 5 0) 24 0 0) 24 3 0 c = M c := fun c h0 h24 => by rw [pm_set_off c h24, pm_set_off c h24, pm_set_off c h0]
    have r24 : pm_set (pm_set (pm_set M 0 5 0) 24 0 0) 24 3 0 24 = upf (upf (M 24) 0 0) 3 0 := by rw [pm_cell, if_pos rfl, pm_cell, if_pos rfl, pm_set_off 24 (by decide)]
    have r0 : pm_set (pm_set (pm_set M 0 5 0) 24 0 0) 24 3 0 0 = upf (M 0) 5 0 := by rw [pm_set_off 0 (by decide), pm_set_off 0 (by decide), pm_cell, if_pos rfl]
    generalize pm_set (pm_set (pm_set M 0 5 0) 24 0 0) 24 3 0 = M' at e r24 r0 ⊢
    have e1 : M' 1 = M 1 := e 1 (by decide) (by decide)
    have e3 : M' 3 = M 3 := e 3 (by decide) (by decide)
    have e10 : M' 10 = M 10 := e 10 (by decide) (by decide)
    have e12 : M' 12 = M 12 := e 12 (by decide) (by decide)
    have e30 : M' 30 = M 30 := e 30 (by decide) (by decide)
    have e99 : M' 99 = M 99 := e 99 (by decide) (by decide)
    have z5 : M' 0 5 = 0 := by rw [r0, upf_e]
    exact ⟨⟨hR.of e1 (e 7 (by decide) (by decide)) (e 8 (by decide) (by decide)) (e 9 (by decide) (by decide)) e12 (by rw [r24, upf_n _ _ (by decide), upf_n _ _ (by decide)]) (by rw [r24, upf_n _ _ (by decide), upf_n _ _ (by decide)]) (e 25 (by decide) (by decide)) (e 26 (by decide) (by decide)) (e 27 (by decide) (by decide)) (e 28 (by decide) (by decide)), hS.of e3 (e 5 (by decide) (by decide)) (e 14 (by decide) (by decide)) (e 15 (by decide) (by decide)) (e 18 (by decide) (by decide)) (e 20 (by decide) (by decide)) (e 22 (by decide) (by decide)), ⟨by rw [r0, upf_n _ _ (by decide)]; exact a1, by rw [e10]; exact a2, by rw [e10, e1]; exact a3, by rw [e30]; exact a4'⟩, ⟨hn, by rw [e99]; omega, by rw [e3]; omega⟩⟩, ⟨⟨by omega, fun i i0 i1 => by omega⟩, by rw [r24, upf_e, z5], fun i i0 i1 => by omega⟩, by unfold CpT; rw [e1, e10, e12, e30]; exact t⟩
theorem lw_8 {L : Nat} {Q : pm_P} {M : pm_M} {n a4 : Int} {o5 o6 : Option pm_V} (hC : CpI M (n + 1)) (hn : 0 ≤ n) (ha : 0 ≤ a4 ∧ a4 + 4 ≤ (L : Int)) (hL : L ≤ 100000) (hH : ∀ (M' : pm_M) (o5 o6 : Option pm_V), CpI M' n → pm_X L (95, 23, lw_l (a4 + 4) o5 o6, [], M') Q) :
    pm_X L (91, 0, [some (.inr (.inl 0)), some (.inl (M 35 (a4 + 1))), some (.inr (.inl 34)), none], [], M) (pm_back (pm_X L) 95 471 (lw_l a4 o5 o6) [] Q) := by
  have hF := hC.1.1.1.1
  have hN := hC.1.1.2.1.1
  have k1 := hC.1.1.2.2.1
  have k2 := hC.1.1.2.2.2.1
  have h9 : 1 ≤ M 99 0 := by have := hC.1.2.2.2.2.1; omega
  have hr : pm_R (a4 + 4) := by unfold pm_R; omega
  have b1 : pm_R (a4 + 1) := by unfold pm_R; omega
  have b2 : pm_R (a4 + 2) := by unfold pm_R; omega
  have b3 : pm_R (a4 + 3) := by unfold pm_R; omega
  generalize hA : M 35 (a4 + 1) = a
  have hl := hC.2.1.1.1
  have l2 := hC.2.1.2.1
  have l3 := hC.2.1.2.2
  have go1 : (a < 0 ∨ M 0 5 ≤ a) → ∀ M1 : pm_M, (∀ c, c ≠ 99 → M1 c = M c) → M1 99 0 = M 99 0 - 1 → pm_back (pm_X L) 95 471 (lw_l a4 o5 o6) [] Q (.inl (some (.inl 1))) M1 := by
    intro hc M1 f f9
    have e24 : M1 24 = M 24 := f 24 (by decide)
    have fin : pm_back (pm_X L) 95 483 (lw_l a4 (some (.inl 1)) o6) [] Q (.inl (some (.inl 0))) (pm_set (pm_set M1 24 0 0) 24 0 1) := x_bki rfl (e_486 pm_get_e (fun z => absurd z (by decide)) hr (fun o5 o6 => hH _ o5 o6 (hC.thr hn f f9)))
    refine x_bki rfl (s_95_474 ⟨b1, by omega, ?_⟩)
    rw [f 35 (by decide), hA]
    exact s_80_0 ⟨fun _ => fin, fun y => ⟨fun z => by rw [e24] at z; omega, fun _ => fin⟩⟩
  have go0 : (0 ≤ a ∧ a < M 0 5) → ∀ M1 : pm_M, M1 = pm_set M 34 0 (M 6 a) → pm_back (pm_X L) 95 471 (lw_l a4 o5 o6) [] Q (.inl (some (.inl 0))) M1 := by
    intro hc M1 hM1
    have f : ∀ c, c ≠ 34 → M1 c = M c := fun c hc => by rw [hM1, pm_set_off c hc]
    have e24 : M1 24 = M 24 := f 24 (by decide)
    have e34 : M1 34 0 = M 6 a := by rw [hM1]; exact pm_get_e
    have fin : pm_back (pm_X L) 95 483 (lw_l a4 (some (.inl 0)) o6) [] Q (.inl (some (.inl (M1 29 a)))) (pm_set M1 24 0 0) := x_bki rfl (e_486 pm_get_e (fun _ => by rw [pm_set_off 34 (by decide), e34, f 29 (by decide)]; exact (l3 a hc.1 hc.2).symm) hr (fun o5 o6 => hH _ o5 o6 (hC.nil hn f)))
    refine x_bki rfl (s_95_474 ⟨b1, by omega, ?_⟩)
    rw [f 35 (by decide), hA]
    exact s_80_0 ⟨fun z => by omega, fun _ => ⟨fun _ => ⟨by omega, fin⟩, fun z => by rw [e24] at z; omega⟩⟩
  rcases (by omega : (a < 0 ∨ M 0 5 ≤ a) ∨ (0 ≤ a ∧ a < M 0 5)) with hc | hc
  · exact s_91_0 ⟨fun _ => ⟨h9, go1 hc _ (fun c hc => pm_set_off c hc) pm_get_e⟩, fun _ => ⟨fun z => by omega, fun _ => ⟨h9, go1 hc _ (fun c hc => pm_set_off c hc) pm_get_e⟩⟩⟩
  · exact s_91_0 ⟨fun z => by omega, fun _ => ⟨fun _ => ⟨by omega, go0 hc _ rfl⟩, fun z => by omega⟩⟩
theorem lw_12 {L : Nat} {Q : pm_P} {M : pm_M} {n a4 : Int} {o5 o6 : Option pm_V} (hC : CpI M (n + 1)) (hn : 0 ≤ n) (ha : 0 ≤ a4 ∧ a4 + 4 ≤ (L : Int)) (hL : L ≤ 100000) (hH : ∀ (M' : pm_M) (o5 o6 : Option pm_V), CpI M' n → pm_X L (95, 23, lw_l (a4 + 4) o5 o6, [], M') Q) :
    pm_X L (12, 0, [some (.inr (.inl 0))], [], M) (pm_back (pm_X L) 95 749 (lw_l a4 o5 o6) [] Q) := by
  have hF := hC.1.1.1.1
  have hN := hC.1.1.2.1.1
  have k1 := hC.1.1.2.2.1
  have k2 := hC.1.1.2.2.2.1
  have h9 : 1 ≤ M 99 0 := by have := hC.1.2.2.2.2.1; omega
  have hr : pm_R (a4 + 4) := by unfold pm_R; omega
  have b1 : pm_R (a4 + 1) := by unfold pm_R; omega
  have b2 : pm_R (a4 + 2) := by unfold pm_R; omega
  have b3 : pm_R (a4 + 3) := by unfold pm_R; omega
  exact s_12_0 (x_bki rfl (s_95_752 (s_84_0 (x_bki rfl (e_756 hC.1.2.2.1.1 hr (fun o5 o6 => hH _ o5 o6 (hC.nil hn (fun _ _ => rfl))))))))
theorem lw_13 {L : Nat} {Q : pm_P} {M : pm_M} {n a4 : Int} {o5 o6 : Option pm_V} (hC : CpI M (n + 1)) (hn : 0 ≤ n) (ha : 0 ≤ a4 ∧ a4 + 4 ≤ (L : Int)) (hL : L ≤ 100000) (hH : ∀ (M' : pm_M) (o5 o6 : Option pm_V), CpI M' n → pm_X L (95, 23, lw_l (a4 + 4) o5 o6, [], M') Q) :
    pm_X L (13, 0, [some (.inr (.inl 0)), some (.inl (M 35 (a4 + 1)))], [], M) (pm_back (pm_X L) 95 768 (lw_l a4 o5 o6) [] Q) := by
  have hF := hC.1.1.1.1
  have hN := hC.1.1.2.1.1
  have k1 := hC.1.1.2.2.1
  have k2 := hC.1.1.2.2.2.1
  have h9 : 1 ≤ M 99 0 := by have := hC.1.2.2.2.2.1; omega
  have hr : pm_R (a4 + 4) := by unfold pm_R; omega
  have b1 : pm_R (a4 + 1) := by unfold pm_R; omega
  have b2 : pm_R (a4 + 2) := by unfold pm_R; omega
  have b3 : pm_R (a4 + 3) := by unfold pm_R; omega
  have l2 := hC.2.1.2.1
  have hd := fun o5 o6 => hH _ o5 o6 (hC.nil (x := 0) hn (fun _ _ => rfl))
  refine s_13_0 ⟨fun q => ?_, fun q => ?_, fun q => ?_, fun q => ?_⟩
  · exact x_bki rfl (s_95_771 ⟨b1, by omega, s_85_0 ⟨fun _ => x_bki rfl (e_781 k1.symm hr hd), fun z => by omega, fun z => by omega, fun z => by omega⟩⟩)
  · exact x_bki rfl (s_95_771 ⟨b1, by omega, s_85_0 ⟨fun z => by omega, fun _ => x_bki rfl (e_781 k2.symm hr hd), fun z => by omega, fun z => by omega⟩⟩)
  · exact x_bki rfl (s_95_771 ⟨b1, by omega, s_85_0 ⟨fun z => by omega, fun z => by omega, fun _ => x_bki rfl (e_781 l2.symm hr hd), fun z => by omega⟩⟩)
  · exact x_bki rfl (s_95_771 ⟨b1, by omega, s_85_0 ⟨fun z => by omega, fun z => by omega, fun z => by omega, fun _ => x_bki rfl (e_781 rfl hr hd)⟩⟩)
abbrev pt_r (M : pm_M) (a v : Int) : pm_M := pm_set (pm_set M 24 0 0) 30 a v
theorem put_in {M M1 : pm_M} {n a v y : Int} (hC : CpI M (n + 1)) (hn : 0 ≤ n) (ha : 0 ≤ a ∧ a < M 1 7) (hv : v = 0 ∨ v = 1) (hM1 : M1 = pm_set (pm_set M 10 (M 12 a) v) 34 0 y) : CpI (pt_r M1 a v) n ∧ pt_r M1 a v 24 0 = 0 ∧ pt_r M1 a v 34 0 = y := by
  obtain ⟨⟨hR, hS, ⟨a1, a2, a3, a4⟩, ⟨n0, n1, n2⟩⟩, ⟨l1, l2, l3⟩, t⟩ := hC
  have hI := hR.2.1
  have hra := hI.2.1 a ha.1 ha.2
  have c10 : M1 10 = upf (M 10) (M 12 a) v := by rw [hM1, pm_set_off 10 (by decide), pm_cell, if_pos rfl]
  have c34 : M1 34 0 = y := by rw [hM1]; exact pm_get_e
  have co : ∀ c, c ≠ 10 → c ≠ 34 → M1 c = M c := fun c h10 h34 => by rw [hM1, pm_set_off c h34, pm_set_off c h10]
  have r24 : pt_r M1 a v 24 = upf (M 24) 0 0 := by
    unfold pt_r
    rw [pm_set_off 24 (by decide), pm_cell, if_pos rfl, co 24 (by decide) (by decide)]
  have r30 : pt_r M1 a v 30 = upf (M 30) a v := by
    unfold pt_r
    rw [pm_cell, if_pos rfl, pm_set_off 30 (by decide), co 30 (by decide) (by decide)]
  have ro : ∀ c, c ≠ 24 → c ≠ 30 → pt_r M1 a v c = M1 c := fun c h1 h2 => by
    unfold pt_r
    rw [pm_set_off c h2, pm_set_off c h1]
  have r10 : pt_r M1 a v 10 = upf (M 10) (M 12 a) v := (ro 10 (by decide) (by decide)).trans c10
  have r34 : pt_r M1 a v 34 0 = y := by rw [ro 34 (by decide) (by decide)]; exact c34
  have rr : ∀ c, (c ≤ 9 ∨ (11 ≤ c ∧ c ≤ 23) ∨ (25 ≤ c ∧ c ≤ 29) ∨ 35 ≤ c) → pt_r M1 a v c = M c := fun c hc => (ro c (by omega) (by omega)).trans (co c (by omega) (by omega))
  generalize pt_r M1 a v = M' at r24 r30 r10 r34 rr ⊢
  have e0 : M' 0 = M 0 := rr 0 (by omega)
  have e1 : M' 1 = M 1 := rr 1 (by omega)
  have e3 : M' 3 = M 3 := rr 3 (by omega)
  have e6 : M' 6 = M 6 := rr 6 (by omega)
  have e12 : M' 12 = M 12 := rr 12 (by omega)
  have e29 : M' 29 = M 29 := rr 29 (by omega)
  have e99 : M' 99 = M 99 := rr 99 (by omega)
  refine ⟨⟨⟨hR.of e1 (rr 7 (by omega)) (rr 8 (by omega)) (rr 9 (by omega)) e12 (by rw [r24, upf_n _ _ (by decide)]) (by rw [r24, upf_n _ _ (by decide)]) (rr 25 (by omega)) (rr 26 (by omega)) (rr 27 (by omega)) (rr 28 (by omega)), hS.of e3 (rr 5 (by omega)) (rr 14 (by omega)) (rr 15 (by omega)) (rr 18 (by omega)) (rr 20 (by omega)) (rr 22 (by omega)), ⟨by rw [e0]; exact a1, by rw [r10, upf_n _ _ (by omega)]; exact a2, fun f hf => ?_, fun k ka kb => ?_⟩, ⟨hn, by rw [e99]; omega, by rw [e3]; omega⟩⟩, ⟨by unfold LI; rw [e0, e6, e1]; exact l1, by rw [r24, upf_n _ _ (by decide), e0]; exact l2, by rw [e0, e29, e6]; exact l3⟩, fun k ka kb => ?_⟩, by rw [r24, upf_e], r34⟩
  · rw [e1] at hf
    rw [r10, upf_n _ _ (by omega)]
    exact a3 f hf
  · rw [r30]
    rcases (by omega : k = a ∨ k ≠ a) with u | u
    · rw [u, upf_e]; exact hv
    · rw [upf_n _ _ u]; exact a4 k ka kb
  · rw [e1] at kb
    rw [e12, r10, r30]
    rcases (by omega : k = a ∨ k ≠ a) with u | u
    · rw [u, upf_e, upf_e]
    · rw [upf_n _ _ u, upf_n _ _ (fun z => u (hI.2.2 k a ka kb ha.1 ha.2 z))]
      exact t k ka kb
theorem lw_10 {L : Nat} {Q : pm_P} {M : pm_M} {n a4 v : Int} {o5 o6 : Option pm_V} (hC : CpI M (n + 1)) (hn : 0 ≤ n) (ha : 0 ≤ a4 ∧ a4 + 4 ≤ (L : Int)) (hL : L ≤ 100000) (hv : (v = 0 ∧ M 35 (a4 + 2) = 0) ∨ (v = 1 ∧ M 35 (a4 + 2) ≠ 0)) (hH : ∀ (M' : pm_M) (o5 o6 : Option pm_V), CpI M' n → pm_X L (95, 23, lw_l (a4 + 4) o5 o6, [], M') Q) :
    pm_X L (93, 0, [some (.inr (.inl 0)), some (.inl (M 35 (a4 + 1))), some (.inl v), some (.inr (.inl 34)), none], [], M) (pm_back (pm_X L) 95 616 (lw_l a4 o5 o6) [] Q) := by
  have hN := hC.1.1.2.1.1
  have k2 := hC.1.1.2.2.2.1
  have h9 : 1 ≤ M 99 0 := by have := hC.1.2.2.2.2.1; omega
  have hr : pm_R (a4 + 4) := by unfold pm_R; omega
  have b1 : pm_R (a4 + 1) := by unfold pm_R; omega
  have b2 : pm_R (a4 + 2) := by unfold pm_R; omega
  have hF := hC.1.1.1.1
  have hI := hC.1.1.2.1
  have t := hC.2.2
  have hbit := hC.1.2.2.1.2.2.2
  generalize hA : M 35 (a4 + 1) = a
  have hb : v = 0 ∨ v = 1 := by omega
  -- the reference's side, whatever the class answered
  have ref : ∀ (M1 : pm_M) (x : Int), M1 35 = M 35 → pm_X L (82, 0, [some (.inr (.inl 24)), some (.inl a), some (.inl v), none], [], M1) (pm_back (pm_X L) 95 642 (lw_l a4 (some (.inl x)) o6) [] Q) → pm_back (pm_X L) 95 616 (lw_l a4 o5 o6) [] Q (.inl (some (.inl x))) M1 := by
    intro M1 x e35 h
    refine x_bki rfl (s_95_619 ⟨b1, by omega, b2, by omega, ?_⟩)
    rw [e35, hA]
    rcases hv with ⟨u1, u2⟩ | ⟨u1, u2⟩
    · rw [u1] at h
      exact ⟨fun _ => h, fun z => absurd u2 z⟩
    · rw [u1] at h
      exact ⟨fun z => absurd z u2, fun _ => h⟩
  have go1 : (a < 0 ∨ M 1 7 ≤ a) → ∀ M1 : pm_M, (∀ c, c ≠ 99 → M1 c = M c) → M1 99 0 = M 99 0 - 1 → pm_back (pm_X L) 95 616 (lw_l a4 o5 o6) [] Q (.inl (some (.inl 1))) M1 := by
    intro hc M1 f f9
    have e24 : M1 24 = M 24 := f 24 (by decide)
    have fin : pm_back (pm_X L) 95 642 (lw_l a4 (some (.inl 1)) o6) [] Q (.inl (some (.inl 0))) (pm_set (pm_set M1 24 0 0) 24 0 1) := x_bki rfl (e_645 (Or.inl rfl) pm_get_e (fun z => absurd z (by decide)) hr (fun o5 o6 => hH _ o5 o6 (hC.thr hn f f9)))
    exact ref M1 1 (f 35 (by decide)) (s_82_0 ⟨fun _ => fin, fun y => ⟨fun z => by rw [e24] at z; omega, fun _ => fin⟩⟩)
  have go0 : (0 ≤ a ∧ a < M 1 7) → ∀ (M1 : pm_M) (y : Int), y = M 10 (M 12 a) → M1 = pm_set (pm_set M 10 (M 12 a) v) 34 0 y → pm_back (pm_X L) 95 616 (lw_l a4 o5 o6) [] Q (.inl (some (.inl 0))) M1 := by
    intro hc M1 y hy hM1
    have gi := put_in hC hn hc hb hM1
    have e24 : M1 24 = M 24 := by rw [hM1, pm_set_off 24 (by decide), pm_set_off 24 (by decide)]
    have e30 : M1 30 = M 30 := by rw [hM1, pm_set_off 30 (by decide), pm_set_off 30 (by decide)]
    have e35 : M1 35 = M 35 := by rw [hM1, pm_set_off 35 (by decide), pm_set_off 35 (by decide)]
    have hy2 : y = M1 30 a := by rw [hy, e30]; exact t a hc.1 hc.2
    have hbb : M1 30 a = 0 ∨ M1 30 a = 1 := by rw [e30]; exact hbit a hc.1 (by omega)
    have fin : pm_back (pm_X L) 95 642 (lw_l a4 (some (.inl 0)) o6) [] Q (.inl (some (.inl (M1 30 a)))) (pt_r M1 a v) := x_bki rfl (e_645 hbb gi.2.1 (fun _ => gi.2.2.trans hy2) hr (fun o5 o6 => hH _ o5 o6 gi.1))
    exact ref M1 0 e35 (s_82_0 ⟨fun z => by omega, fun _ => ⟨fun _ => ⟨by omega, ⟨by omega, hb⟩, hbb, fin⟩, fun z => by rw [e24] at z; omega⟩⟩)
  rcases (by omega : (a < 0 ∨ M 1 7 ≤ a) ∨ (0 ≤ a ∧ a < M 1 7)) with hc | hc
  · exact s_93_0 ⟨fun _ => ⟨h9, go1 hc _ (fun c hc => pm_set_off c hc) pm_get_e⟩, fun _ => ⟨fun z => by omega, fun _ => ⟨h9, go1 hc _ (fun c hc => pm_set_off c hc) pm_get_e⟩⟩⟩
  · have hra := hI.2.1 a hc.1 hc.2
    have hbb : M 10 (M 12 a) = 0 ∨ M 10 (M 12 a) = 1 := by rw [t a hc.1 hc.2]; exact hbit a hc.1 (by omega)
    exact s_93_0 ⟨fun z => by omega, fun _ => ⟨fun _ => ⟨by omega, by omega, ⟨by omega, hb⟩, hbb, fun q => go0 hc _ 0 q.symm rfl, fun q => go0 hc _ 1 (hbb.resolve_left q).symm rfl⟩, fun z => by omega⟩⟩
