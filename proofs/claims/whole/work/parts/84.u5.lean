/-! PURE: the law, the calls that look for inputs -/
theorem CpI.next {M M2 : pm_M} {n : Int} (hC : CpI M (n + 1)) (hn : 0 ≤ n) (e : ∀ c, (c = 1 ∨ (7 ≤ c ∧ c ≤ 9) ∨ c = 12 ∨ (25 ≤ c ∧ c ≤ 28) ∨ c = 99) → M2 c = M c) (e06 : M2 0 6 = M 0 6) (k1 : M2 24 1 = M 24 1) (k2 : M2 24 2 = M 24 2) (hS : SrS M2) (h3 : M2 3 2 ≤ M 3 2 + 86016) (t0 : ∀ f, (f = 0 ∨ M 1 6 ≤ f) → M2 10 f = M 10 f) (hb : ∀ k, 0 ≤ k → k < 12 → pm_bit (M2 30 k)) (hL : CpL M2) (hT : ∀ k, 0 ≤ k → k < M 1 7 → M2 10 (M 12 k) = M2 30 k) : CpI M2 n := by
  obtain ⟨⟨hR, -, ⟨a1, a2, a3, -⟩, ⟨n0, n1, n2⟩⟩, -, -⟩ := hC
  have e1 : M2 1 = M 1 := e 1 (by omega)
  have e12 : M2 12 = M 12 := e 12 (by omega)
  have e99 : M2 99 = M 99 := e 99 (by omega)
  refine ⟨⟨hR.of e1 (e 7 (by omega)) (e 8 (by omega)) (e 9 (by omega)) e12 k1 k2 (e 25 (by omega)) (e 26 (by omega)) (e 27 (by omega)) (e 28 (by omega)), hS, ⟨by rw [e06]; exact a1, by rw [t0 0 (Or.inl rfl)]; exact a2, fun f hf => ?_, hb⟩, ⟨hn, by rw [e99]; omega, by omega⟩⟩, hL, by unfold CpT; rw [e1, e12]; exact hT⟩
  rw [e1] at hf
  rw [t0 f (Or.inr hf)]
  exact a3 f hf
/-- both found the least -/
theorem both_found {M M1 M2 : pm_M} {n : Int} {V V2 : Int → Bool} (hC : CpI M (n + 1)) (hn : 0 ≤ n) (w1 : ∀ c, (c ≤ 1 ∨ (6 ≤ c ∧ c ≤ 9) ∨ c = 12 ∨ 24 ≤ c) → c ≠ 34 → M1 c = M c) (w2 : SrS M1) (w3 : M1 3 2 ≤ M 3 2 + 4096) (w5 : ∀ k, 0 ≤ k → k < M 1 7 → M1 10 (M 12 k) = b01 (V (M 12 k))) (w6 : ∀ f, (∀ k, 0 ≤ k → k < M 1 7 → M 12 k ≠ f) → M1 10 f = M 10 f)
    (f1 : ∀ c, c ≠ 24 → c ≠ 30 → c ≠ 31 → c ≠ 32 → M2 c = M1 c) (f2 : ∀ j, j ≠ 0 → M2 24 j = M1 24 j) (v2 : ∀ k, 0 ≤ k → k < M 1 7 → M2 30 k = b01 (V2 (M 12 k))) (v3 : ∀ k, M 1 7 ≤ k → k < 12 → M2 30 k = 0)
    (hle : mk_n (nV M V2) (M 1 7).toNat ≤ mk_n (nV M V) (M 1 7).toNat) (hlex : ∀ k, k < (M 1 7).toNat → (∀ k', k' < k → nV M V k' = nV M V2 k') → nV M V k = true → nV M V2 k = true) : CpI M2 n := by
  have hI := hC.1.1.2.1
  have l1 := hC.2.1.1
  have l2 := hC.2.1.2.1
  have l3 := hC.2.1.2.2
  have hsame := least_same hle hlex
  have g24 : M1 24 = M 24 := w1 24 (by omega) (by decide)
  have m0 : M2 0 = M 0 := (f1 0 (by decide) (by decide) (by decide) (by decide)).trans (w1 0 (by omega) (by decide))
  have m1 : M2 1 = M 1 := (f1 1 (by decide) (by decide) (by decide) (by decide)).trans (w1 1 (by omega) (by decide))
  have m6 : M2 6 = M 6 := (f1 6 (by decide) (by decide) (by decide) (by decide)).trans (w1 6 (by omega) (by decide))
  have m29 : M2 29 = M 29 := (f1 29 (by decide) (by decide) (by decide) (by decide)).trans (w1 29 (by omega) (by decide))
  have m3 : M2 3 = M1 3 := f1 3 (by decide) (by decide) (by decide) (by decide)
  have m10 : M2 10 = M1 10 := f1 10 (by decide) (by decide) (by decide) (by decide)
  refine hC.next hn (fun c hc => (f1 c (by omega) (by omega) (by omega) (by omega)).trans (w1 c (by omega) (by omega))) (by rw [m0]) (by rw [f2 1 (by decide), g24]) (by rw [f2 2 (by decide), g24]) (w2.of m3 (f1 5 (by decide) (by decide) (by decide) (by decide)) (f1 14 (by decide) (by decide) (by decide) (by decide)) (f1 15 (by decide) (by decide) (by decide) (by decide)) (f1 18 (by decide) (by decide) (by decide) (by decide)) (f1 20 (by decide) (by decide) (by decide) (by decide)) (f1 22 (by decide) (by decide) (by decide) (by decide))) (by rw [m3]; omega) (fun f hf => ?_) (fun k ka kb => ?_) ⟨by unfold LI; rw [m0, m6, m1]; exact l1, by rw [f2 3 (by decide), g24, m0]; exact l2, by rw [m0, m29, m6]; exact l3⟩ (fun k ka kb => ?_)
  · rw [m10]
    exact w6 f (fun k ka kb => by have := hI.2.1 k ka kb; omega)
  · rcases (by omega : k < M 1 7 ∨ M 1 7 ≤ k) with u | u
    · rw [v2 k ka u]; exact b01_bit _
    · rw [v3 k u kb]; exact Or.inl rfl
  · rw [m10, w5 k ka kb, v2 k ka kb]
    have h := hsame k.toNat (by omega)
    unfold nV at h
    rw [show ((k.toNat : Nat) : Int) = k by omega] at h
    rw [h]
/-- none found any -/
theorem both_none {M M1 M2 : pm_M} {n : Int} (hC : CpI M (n + 1)) (hn : 0 ≤ n) (w1 : ∀ c, (c ≤ 1 ∨ (6 ≤ c ∧ c ≤ 10) ∨ c = 12 ∨ 24 ≤ c) → c ≠ 34 → M1 c = M c) (w2 : SrS M1) (w3 : M1 3 2 ≤ M 3 2 + 86016)
    (f1 : ∀ c, c ≠ 24 → c ≠ 30 → c ≠ 31 → c ≠ 32 → M2 c = M1 c) (f2 : ∀ j, j ≠ 0 → M2 24 j = M1 24 j) (v : ∀ k, 0 ≤ k → k < 12 → M2 30 k = M1 30 k) : CpI M2 n := by
  have hN := hC.1.1.2.1.1
  have hb := hC.1.2.2.1.2.2.2
  have l1 := hC.2.1.1
  have l2 := hC.2.1.2.1
  have l3 := hC.2.1.2.2
  have t := hC.2.2
  have g24 : M1 24 = M 24 := w1 24 (by omega) (by decide)
  have g30 : M1 30 = M 30 := w1 30 (by omega) (by decide)
  have m0 : M2 0 = M 0 := (f1 0 (by decide) (by decide) (by decide) (by decide)).trans (w1 0 (by omega) (by decide))
  have m1 : M2 1 = M 1 := (f1 1 (by decide) (by decide) (by decide) (by decide)).trans (w1 1 (by omega) (by decide))
  have m6 : M2 6 = M 6 := (f1 6 (by decide) (by decide) (by decide) (by decide)).trans (w1 6 (by omega) (by decide))
  have m10 : M2 10 = M 10 := (f1 10 (by decide) (by decide) (by decide) (by decide)).trans (w1 10 (by omega) (by decide))
  have m29 : M2 29 = M 29 := (f1 29 (by decide) (by decide) (by decide) (by decide)).trans (w1 29 (by omega) (by decide))
  have m3 : M2 3 = M1 3 := f1 3 (by decide) (by decide) (by decide) (by decide)
  refine hC.next hn (fun c hc => (f1 c (by omega) (by omega) (by omega) (by omega)).trans (w1 c (by omega) (by omega))) (by rw [m0]) (by rw [f2 1 (by decide), g24]) (by rw [f2 2 (by decide), g24]) (w2.of m3 (f1 5 (by decide) (by decide) (by decide) (by decide)) (f1 14 (by decide) (by decide) (by decide) (by decide)) (f1 15 (by decide) (by decide) (by decide) (by decide)) (f1 18 (by decide) (by decide) (by decide) (by decide)) (f1 20 (by decide) (by decide) (by decide) (by decide)) (f1 22 (by decide) (by decide) (by decide) (by decide))) (by rw [m3]; exact w3) (fun f hf => by rw [m10]) (fun k ka kb => by rw [v k ka kb, g30]; exact hb k ka kb) ⟨by unfold LI; rw [m0, m6, m1]; exact l1, by rw [f2 3 (by decide), g24, m0]; exact l2, by rw [m0, m29, m6]; exact l3⟩ (fun k ka kb => by rw [m10, v k ka (by omega), g30]; exact t k ka kb)
theorem lw_6 {L : Nat} {Q : pm_P} {M : pm_M} {n a4 : Int} {o5 o6 : Option pm_V} (hC : CpI M (n + 1)) (hn : 0 ≤ n) (ha : 0 ≤ a4 ∧ a4 + 4 ≤ (L : Int)) (hL : L ≤ 100000) (hH : ∀ (M' : pm_M) (o5 o6 : Option pm_V), CpI M' n → pm_X L (95, 23, lw_l (a4 + 4) o5 o6, [], M') Q) :
    pm_X L (6, 0, [some (.inr (.inl 0)), none], [], M) (pm_back (pm_X L) 95 438 (lw_l a4 o5 o6) [] Q) := by
  have hF := hC.1.1.1.1
  have hN := hC.1.1.2.1.1
  have k1 := hC.1.1.2.2.1
  have k2 := hC.1.1.2.2.2.1
  have h9 : 1 ≤ M 99 0 := by have := hC.1.2.2.2.2.1; omega
  have hr : pm_R (a4 + 4) := by unfold pm_R; omega
  have b1 : pm_R (a4 + 1) := by unfold pm_R; omega
  have b2 : pm_R (a4 + 2) := by unfold pm_R; omega
  have b3 : pm_R (a4 + 3) := by unfold pm_R; omega
  have hC0 := hC
  obtain ⟨⟨hR, hS, ⟨a1, a2, a3, a4'⟩, ⟨n0, n1, n2⟩⟩, ⟨l1, l2, l3⟩, t⟩ := hC
  have hl := l1.1
  have r29 : ∀ i, 0 ≤ i → i < M 24 3 → 0 ≤ M 29 i ∧ M 29 i < M 1 6 := fun i i0 i1 => by rw [l2] at i1; rw [l3 i i0 i1]; exact l1.2 i i0 i1
  have al : ∀ V, ALL M 29 (M 24 3) V ↔ LoP (M 6) (M 0 5) (-1) V := fun V => by
    rw [l2]
    exact ⟨fun h i i0 i1 _ => by rw [← l3 i i0 i1]; exact h i i0 i1, fun h i i0 i1 => by rw [l3 i i0 i1]; exact h i i0 i1 (by omega)⟩
  refine p_6 hR l1 hS (by omega) (fun M1 V w1 w2 w3 w4 w5 w6 w7 w8 => ?_) (fun M1 w1 w2 w3 w4 => ?_)
  · have g1 : M1 1 = M 1 := w1 1 (by omega)
    have g7 : M1 7 = M 7 := w1 7 (by omega)
    have g8 : M1 8 = M 8 := w1 8 (by omega)
    have g9 : M1 9 = M 9 := w1 9 (by omega)
    have g12 : M1 12 = M 12 := w1 12 (by omega)
    have g24 : M1 24 = M 24 := w1 24 (by omega)
    have g29 : M1 29 = M 29 := w1 29 (by omega)
    have g30 : M1 30 = M 30 := w1 30 (by omega)
    have hR1 : RK M1 := hR.of g1 g7 g8 g9 g12 (by rw [g24]) (by rw [g24]) (w1 25 (by omega)) (w1 26 (by omega)) (w1 27 (by omega)) (w1 28 (by omega))
    have gvi : ∀ V, GV M V → GV M1 V := fun V h => h.of g1 g7 g8 g9
    have gvj : ∀ V, GV M1 V → GV M V := fun V h => h.of g1.symm g7.symm g8.symm g9.symm
    have en : ∀ V, nV M1 V = nV M V := fun V => by unfold nV; rw [g12]
    have alm : ∀ V, ALL M1 29 (M1 24 3) V ↔ LoP (M 6) (M 0 5) (-1) V := fun V => by
      unfold ALL
      rw [g24, g29]
      exact al V
    refine x_bki rfl (s_95_441 (p_78 hR1 (by rw [g24]; omega) (by rw [g24, g29, g1]; exact r29) (by rw [g30]; exact a4') (fun M2 V2 f1 f2 f3 v1 v2 v3 v4 v5 => ?_) (fun M2 f1 f2 f3 v1 v2 => ?_)))
    · have h5 := v5 V (gvi V w4) ((alm V).mpr w7)
      rw [g1, en, en] at h5
      rw [g1, g12] at v2
      rw [g1] at v3
      exact x_bki rfl (e_445 rfl hr (fun o5 o6 => hH _ o5 o6 (both_found hC0 hn (fun c hc _ => w1 c hc) w2 w3 w5 w6 f1 f2 v2 v3 h5 (fun k hk hkk ht => w8 V2 (gvj V2 v1) ((alm V2).mp v4) k (by omega) hkk ht))))
    · exact absurd ((alm V).mpr w7) (v2 V (gvi V w4))
  · have g1 : M1 1 = M 1 := w1 1 (by omega)
    have g7 : M1 7 = M 7 := w1 7 (by omega)
    have g8 : M1 8 = M 8 := w1 8 (by omega)
    have g9 : M1 9 = M 9 := w1 9 (by omega)
    have g12 : M1 12 = M 12 := w1 12 (by omega)
    have g24 : M1 24 = M 24 := w1 24 (by omega)
    have g29 : M1 29 = M 29 := w1 29 (by omega)
    have g30 : M1 30 = M 30 := w1 30 (by omega)
    have hR1 : RK M1 := hR.of g1 g7 g8 g9 g12 (by rw [g24]) (by rw [g24]) (w1 25 (by omega)) (w1 26 (by omega)) (w1 27 (by omega)) (w1 28 (by omega))
    have gvi : ∀ V, GV M V → GV M1 V := fun V h => h.of g1 g7 g8 g9
    have gvj : ∀ V, GV M1 V → GV M V := fun V h => h.of g1.symm g7.symm g8.symm g9.symm
    have en : ∀ V, nV M1 V = nV M V := fun V => by unfold nV; rw [g12]
    have alm : ∀ V, ALL M1 29 (M1 24 3) V ↔ LoP (M 6) (M 0 5) (-1) V := fun V => by
      unfold ALL
      rw [g24, g29]
      exact al V
    refine x_bki rfl (s_95_441 (p_78 hR1 (by rw [g24]; omega) (by rw [g24, g29, g1]; exact r29) (by rw [g30]; exact a4') (fun M2 V2 f1 f2 f3 v1 v2 v3 v4 v5 => ?_) (fun M2 f1 f2 f3 v1 v2 => ?_)))
    · exact absurd ((alm V2).mp v4) (w4 V2 (gvj V2 v1))
    · exact x_bki rfl (e_445 rfl hr (fun o5 o6 => hH _ o5 o6 (both_none hC0 hn (fun c hc _ => w1 c hc) w2 (by omega) f1 f2 v1)))
theorem lw_7 {L : Nat} {Q : pm_P} {M : pm_M} {n a4 : Int} {o5 o6 : Option pm_V} (hC : CpI M (n + 1)) (hn : 0 ≤ n) (ha : 0 ≤ a4 ∧ a4 + 4 ≤ (L : Int)) (hL : L ≤ 100000) (hH : ∀ (M' : pm_M) (o5 o6 : Option pm_V), CpI M' n → pm_X L (95, 23, lw_l (a4 + 4) o5 o6, [], M') Q) :
    pm_X L (7, 0, [some (.inr (.inl 0)), none, none], [], M) (pm_back (pm_X L) 95 451 (lw_l a4 o5 o6) [] Q) := by
  have hF := hC.1.1.1.1
  have hN := hC.1.1.2.1.1
  have k1 := hC.1.1.2.2.1
  have k2 := hC.1.1.2.2.2.1
  have h9 : 1 ≤ M 99 0 := by have := hC.1.2.2.2.2.1; omega
  have hr : pm_R (a4 + 4) := by unfold pm_R; omega
  have b1 : pm_R (a4 + 1) := by unfold pm_R; omega
  have b2 : pm_R (a4 + 2) := by unfold pm_R; omega
  have b3 : pm_R (a4 + 3) := by unfold pm_R; omega
  have hC0 := hC
  obtain ⟨⟨hR, hS, ⟨a1, a2, a3, a4'⟩, ⟨n0, n1, n2⟩⟩, ⟨l1, l2, l3⟩, t⟩ := hC
  have hl := l1.1
  have r29 : ∀ i, 0 ≤ i → i < M 24 3 → 0 ≤ M 29 i ∧ M 29 i < M 1 6 := fun i i0 i1 => by rw [l2] at i1; rw [l3 i i0 i1]; exact l1.2 i i0 i1
  have al : ∀ V, LoP (M 29) (M 24 3) (-1) V ↔ LoP (M 6) (M 0 5) (-1) V := fun V => by
    rw [l2]
    exact ⟨fun h => h.congr l3, fun h => h.congr (fun i i0 i1 => (l3 i i0 i1).symm)⟩
  refine p_7 (B := M 3 2 + 86016) (by omega) hR l1 hS (Int.le_refl _) (fun M1 w1 w2 w3 w4 => ?_) (fun M1 w1 w2 w3 w4 w5 w6 w7 => ?_)
  · have g1 : M1 1 = M 1 := w1 1 (by omega)
    have g7 : M1 7 = M 7 := w1 7 (by omega)
    have g8 : M1 8 = M 8 := w1 8 (by omega)
    have g9 : M1 9 = M 9 := w1 9 (by omega)
    have g12 : M1 12 = M 12 := w1 12 (by omega)
    have g24 : M1 24 = M 24 := w1 24 (by omega)
    have g29 : M1 29 = M 29 := w1 29 (by omega)
    have g30 : M1 30 = M 30 := w1 30 (by omega)
    have hR1 : RK M1 := hR.of g1 g7 g8 g9 g12 (by rw [g24]) (by rw [g24]) (w1 25 (by omega)) (w1 26 (by omega)) (w1 27 (by omega)) (w1 28 (by omega))
    have gvi : ∀ V, GV M V → GV M1 V := fun V h => h.of g1 g7 g8 g9
    have gvj : ∀ V, GV M1 V → GV M V := fun V h => h.of g1.symm g7.symm g8.symm g9.symm
    have en : ∀ V, nV M1 V = nV M V := fun V => by unfold nV; rw [g12]
    obtain ⟨V, v1, v2⟩ := w4
    refine x_bki rfl (s_95_454 (p_79 hR1 (by rw [g24]; omega) (by rw [g24, g29, g1]; exact r29) (by rw [g30]; exact a4') (fun _ M2 f1 f2 f3 => ?_) (fun hno => ?_)))
    · exact x_bki rfl (e_458 rfl hr (fun o5 o6 => hH _ o5 o6 (both_none hC0 hn (fun c hc _ => w1 c hc) w2 w3 f1 f2 f3)))
    · have h := hno V (gvi V v1)
      rw [g24, g29] at h
      exact absurd ((al V).mpr v2) h
  · have g1 : M1 1 = M 1 := w1 1 (by omega)
    have g7 : M1 7 = M 7 := w1 7 (by omega)
    have g8 : M1 8 = M 8 := w1 8 (by omega)
    have g9 : M1 9 = M 9 := w1 9 (by omega)
    have g12 : M1 12 = M 12 := w1 12 (by omega)
    have g24 : M1 24 = M 24 := w1 24 (by omega)
    have g29 : M1 29 = M 29 := w1 29 (by omega)
    have g30 : M1 30 = M 30 := w1 30 (by omega)
    have hR1 : RK M1 := hR.of g1 g7 g8 g9 g12 (by rw [g24]) (by rw [g24]) (w1 25 (by omega)) (w1 26 (by omega)) (w1 27 (by omega)) (w1 28 (by omega))
    have gvi : ∀ V, GV M V → GV M1 V := fun V h => h.of g1 g7 g8 g9
    have gvj : ∀ V, GV M1 V → GV M V := fun V h => h.of g1.symm g7.symm g8.symm g9.symm
    have en : ∀ V, nV M1 V = nV M V := fun V => by unfold nV; rw [g12]
    refine x_bki rfl (s_95_454 (p_79 hR1 (by rw [g24]; omega) (by rw [g24, g29, g1]; exact r29) (by rw [g30]; exact a4') (fun hex => ?_) (fun _ => ⟨M1 6, M1 0 5, ?_, fun M2 f1 f2 f3 f4 f5 => ?_⟩)))
    · obtain ⟨V, v1, v2⟩ := hex
      rw [g24, g29] at v2
      exact absurd ((al V).mp v2) (w6 V (gvj V v1))
    · rw [SoP.of g1 g7 g8 g9, g24, g29, l2]
      exact GrR.congr _ _ _ _ _ (Int.le_refl _) (fun i i0 i1 => (l3 i i0 i1).symm) w7
    · have m0 : M2 0 = M1 0 := f1 0 (by decide) (by decide) (by decide) (by decide) (by decide) (by decide)
      have m1 : M2 1 = M1 1 := f1 1 (by decide) (by decide) (by decide) (by decide) (by decide) (by decide)
      have m3 : M2 3 = M1 3 := f1 3 (by decide) (by decide) (by decide) (by decide) (by decide) (by decide)
      have m6 : M2 6 = M1 6 := f1 6 (by decide) (by decide) (by decide) (by decide) (by decide) (by decide)
      have m10 : M2 10 = M 10 := (f1 10 (by decide) (by decide) (by decide) (by decide) (by decide) (by decide)).trans (w1 10 (by omega))
      refine x_bki rfl (e_458 rfl hr (fun o5 o6 => hH _ o5 o6 (hC0.next hn (fun c hc => (f1 c (by omega) (by omega) (by omega) (by omega) (by omega) (by omega)).trans (w1 c (by omega))) (by rw [m0]; exact w3) (by rw [f2 1 (by decide) (by decide), g24]) (by rw [f2 2 (by decide) (by decide), g24]) (w4.of m3 (f1 5 (by decide) (by decide) (by decide) (by decide) (by decide) (by decide)) (f1 14 (by decide) (by decide) (by decide) (by decide) (by decide) (by decide)) (f1 15 (by decide) (by decide) (by decide) (by decide) (by decide) (by decide)) (f1 18 (by decide) (by decide) (by decide) (by decide) (by decide) (by decide)) (f1 20 (by decide) (by decide) (by decide) (by decide) (by decide) (by decide)) (f1 22 (by decide) (by decide) (by decide) (by decide) (by decide) (by decide))) (by rw [m3]; exact w5) (fun f _ => by rw [m10]) (fun k ka kb => by rw [f5 k ka kb, g30]; exact a4' k ka kb) ⟨by unfold LI; rw [m0, m6, m1]; exact w2, by rw [m0]; exact f3, by rw [m0, m6]; exact f4⟩ (fun k ka kb => by rw [m10, f5 k ka (by omega), g30]; exact t k ka kb))))
theorem lw_9 {L : Nat} {Q : pm_P} {M : pm_M} {n a4 : Int} {o5 o6 : Option pm_V} (hC : CpI M (n + 1)) (hn : 0 ≤ n) (ha : 0 ≤ a4 ∧ a4 + 4 ≤ (L : Int)) (hL : L ≤ 100000) (hH : ∀ (M' : pm_M) (o5 o6 : Option pm_V), CpI M' n → pm_X L (95, 23, lw_l (a4 + 4) o5 o6, [], M') Q) :
    pm_X L (92, 0, [some (.inr (.inl 0)), some (.inl (M 35 (a4 + 1))), some (.inl (M 35 (a4 + 2))), some (.inr (.inl 34)), none], [], M) (pm_back (pm_X L) 95 533 (lw_l a4 o5 o6) [] Q) := by
  have hF := hC.1.1.1.1
  have hN := hC.1.1.2.1.1
  have k1 := hC.1.1.2.2.1
  have k2 := hC.1.1.2.2.2.1
  have h9 : 1 ≤ M 99 0 := by have := hC.1.2.2.2.2.1; omega
  have hr : pm_R (a4 + 4) := by unfold pm_R; omega
  have b1 : pm_R (a4 + 1) := by unfold pm_R; omega
  have b2 : pm_R (a4 + 2) := by unfold pm_R; omega
  have b3 : pm_R (a4 + 3) := by unfold pm_R; omega
  generalize hA : M 35 (a4 + 1) = a
  generalize hB : M 35 (a4 + 2) = b
  have go1 : ((a < 0 ∨ M 1 6 ≤ a) ∨ (b < 0 ∨ M 1 6 ≤ b)) → ∀ M1 : pm_M, (∀ c, c ≠ 99 → M1 c = M c) → M1 99 0 = M 99 0 - 1 → pm_back (pm_X L) 95 533 (lw_l a4 o5 o6) [] Q (.inl (some (.inl 1))) M1 := by
    intro hc M1 f f9
    have e24 : M1 24 = M 24 := f 24 (by decide)
    have fin : pm_back (pm_X L) 95 551 (lw_l a4 (some (.inl 1)) o6) [] Q (.inl (some (.inl 0))) (pm_set (pm_set M1 24 0 0) 24 0 1) := x_bki rfl (e_554 (Or.inl rfl) pm_get_e (fun z => absurd z (by decide)) hr (fun o5 o6 => hH _ o5 o6 (hC.thr hn f f9)))
    refine x_bki rfl (s_95_536 ⟨b1, by omega, b2, by omega, ?_⟩)
    rw [f 35 (by decide), hA, hB]
    exact s_81_0 ⟨fun _ => fin, fun y1 => ⟨fun y2 => ⟨fun _ => fin, fun y3 => ⟨fun y4 => by rw [e24] at y2 y4; omega, fun _ => fin⟩⟩, fun _ => fin⟩⟩
  have bk : ∀ M1 : pm_M, (∀ c, c ≠ 99 → M1 c = M c) → M1 99 0 = M 99 0 - 1 → ((a < 0 ∨ M 1 6 ≤ a) ∨ (b < 0 ∨ M 1 6 ≤ b)) → pm_back (pm_X L) 92 5 [some (.inr (.inl 0)), some (.inl a), some (.inl b), some (.inr (.inl 34)), none] [.inl 0, .inr (.inl 34)] (pm_back (pm_X L) 95 533 (lw_l a4 o5 o6) [] Q) (.inr 0) M1 :=
    fun M1 f f9 hc => x_bkc (h0 := 20) (nx := 22) (i := 4) rfl rfl (x_iconst i_92_22 (by decide) rfl (x_ireti i_92_23 r_92 (go1 hc M1 f f9)))
  rcases (by omega : ((a < 0 ∨ M 1 6 ≤ a) ∨ (b < 0 ∨ M 1 6 ≤ b)) ∨ ((0 ≤ a ∧ a < M 1 6) ∧ (0 ≤ b ∧ b < M 1 6))) with hc | hc
  · exact s_92_0 (s_9_0 ⟨fun _ => ⟨h9, bk _ (fun c hc => pm_set_off c hc) pm_get_e hc⟩, fun _ => ⟨fun _ => ⟨fun _ => ⟨h9, bk _ (fun c hc => pm_set_off c hc) pm_get_e hc⟩, fun _ => ⟨fun z => by omega, fun _ => ⟨h9, bk _ (fun c hc => pm_set_off c hc) pm_get_e hc⟩⟩⟩, fun _ => ⟨h9, bk _ (fun c hc => pm_set_off c hc) pm_get_e hc⟩⟩⟩)
  have hC0 := hC
  obtain ⟨⟨hR, hS, ⟨a1, a2, a3, a4'⟩, ⟨n0, n1, n2⟩⟩, ⟨l1, l2, l3⟩, t⟩ := hC
  refine s_92_0 (p_9 hR hc.1 hc.2 hS (by omega) (fun M1 V w1 w2 w3 w4 w5 w6 w7 w8 => ?_) (fun M1 w1 w2 w3 w4 => ?_))
  · refine x_bki rfl (s_92_8 ⟨fun _ => ⟨by omega, ?_⟩, fun z => absurd rfl z⟩)
    generalize hM3 : pm_set M1 34 0 0 = M3
    have u : ∀ c, c ≠ 34 → M3 c = M1 c := fun c hc => by rw [← hM3]; exact pm_set_off c hc
    have u34 : M3 34 0 = 0 := by rw [← hM3]; exact pm_get_e
    have g1 : M3 1 = M 1 := (u 1 (by decide)).trans (w1 1 (by omega))
    have g7 : M3 7 = M 7 := (u 7 (by decide)).trans (w1 7 (by omega))
    have g8 : M3 8 = M 8 := (u 8 (by decide)).trans (w1 8 (by omega))
    have g9 : M3 9 = M 9 := (u 9 (by decide)).trans (w1 9 (by omega))
    have g12 : M3 12 = M 12 := (u 12 (by decide)).trans (w1 12 (by omega))
    have g24 : M3 24 = M 24 := (u 24 (by decide)).trans (w1 24 (by omega))
    have g29 : M3 29 = M 29 := (u 29 (by decide)).trans (w1 29 (by omega))
    have g30 : M3 30 = M 30 := (u 30 (by decide)).trans (w1 30 (by omega))
    have hR1 : RK M3 := hR.of g1 g7 g8 g9 g12 (by rw [g24]) (by rw [g24]) ((u 25 (by decide)).trans (w1 25 (by omega))) ((u 26 (by decide)).trans (w1 26 (by omega))) ((u 27 (by decide)).trans (w1 27 (by omega))) ((u 28 (by decide)).trans (w1 28 (by omega)))
    have gvi : ∀ V, GV M V → GV M3 V := fun V h => h.of g1 g7 g8 g9
    have gvj : ∀ V, GV M3 V → GV M V := fun V h => h.of g1.symm g7.symm g8.symm g9.symm
    have en : ∀ V, nV M3 V = nV M V := fun V => by unfold nV; rw [g12]
    have g35 : M3 35 = M 35 := (u 35 (by decide)).trans (w1 35 (by omega))
    refine x_bki rfl (s_95_536 ⟨b1, by omega, b2, by omega, ?_⟩)
    rw [g35, hA, hB]
    refine p_81 hR1 (by rw [g1]; exact hc.1) (by rw [g1]; exact hc.2) (by rw [g30]; exact a4') (fun M2 V2 f1 f2 f3 v1 v2 v3 v4 v5 => ?_) (fun M2 f1 f2 f3 v1 v2 => ?_)
    · have h5 := v5 V (gvi V w4) w7
      rw [g1, en, en] at h5
      rw [g1, g12] at v2
      rw [g1] at v3
      have m34 : M2 34 0 = 0 := by rw [f1 34 (by decide) (by decide) (by decide) (by decide)]; exact u34
      refine x_bki rfl (e_554 (Or.inl rfl) f3 (fun _ => m34) hr (fun o5 o6 => hH _ o5 o6 (both_found (M1 := M3) hC0 hn (fun c hc h34 => (u c h34).trans (w1 c hc)) (w2.of (u 3 (by decide)) (u 5 (by decide)) (u 14 (by decide)) (u 15 (by decide)) (u 18 (by decide)) (u 20 (by decide)) (u 22 (by decide))) (by rw [u 3 (by decide)]; exact w3) (by rw [u 10 (by decide)]; exact w5) (by rw [u 10 (by decide)]; exact w6) f1 f2 v2 v3 h5 (fun k hk hkk ht => w8 V2 (gvj V2 v1) v4 k (by omega) hkk ht))))
    · exact absurd (v2 V (gvi V w4)) w7
  · refine x_bki rfl (s_92_8 ⟨fun z => absurd z (by decide), fun _ => ⟨by omega, ?_⟩⟩)
    generalize hM3 : pm_set M1 34 0 1 = M3
    have u : ∀ c, c ≠ 34 → M3 c = M1 c := fun c hc => by rw [← hM3]; exact pm_set_off c hc
    have u34 : M3 34 0 = 1 := by rw [← hM3]; exact pm_get_e
    have g1 : M3 1 = M 1 := (u 1 (by decide)).trans (w1 1 (by omega))
    have g7 : M3 7 = M 7 := (u 7 (by decide)).trans (w1 7 (by omega))
    have g8 : M3 8 = M 8 := (u 8 (by decide)).trans (w1 8 (by omega))
    have g9 : M3 9 = M 9 := (u 9 (by decide)).trans (w1 9 (by omega))
    have g12 : M3 12 = M 12 := (u 12 (by decide)).trans (w1 12 (by omega))
    have g24 : M3 24 = M 24 := (u 24 (by decide)).trans (w1 24 (by omega))
    have g29 : M3 29 = M 29 := (u 29 (by decide)).trans (w1 29 (by omega))
    have g30 : M3 30 = M 30 := (u 30 (by decide)).trans (w1 30 (by omega))
    have hR1 : RK M3 := hR.of g1 g7 g8 g9 g12 (by rw [g24]) (by rw [g24]) ((u 25 (by decide)).trans (w1 25 (by omega))) ((u 26 (by decide)).trans (w1 26 (by omega))) ((u 27 (by decide)).trans (w1 27 (by omega))) ((u 28 (by decide)).trans (w1 28 (by omega)))
    have gvi : ∀ V, GV M V → GV M3 V := fun V h => h.of g1 g7 g8 g9
    have gvj : ∀ V, GV M3 V → GV M V := fun V h => h.of g1.symm g7.symm g8.symm g9.symm
    have en : ∀ V, nV M3 V = nV M V := fun V => by unfold nV; rw [g12]
    have g35 : M3 35 = M 35 := (u 35 (by decide)).trans (w1 35 (by omega))
    refine x_bki rfl (s_95_536 ⟨b1, by omega, b2, by omega, ?_⟩)
    rw [g35, hA, hB]
    refine p_81 hR1 (by rw [g1]; exact hc.1) (by rw [g1]; exact hc.2) (by rw [g30]; exact a4') (fun M2 V2 f1 f2 f3 v1 v2 v3 v4 v5 => ?_) (fun M2 f1 f2 f3 v1 v2 => ?_)
    · exact absurd (w4 V2 (gvj V2 v1)) v4
    · have m34 : M2 34 0 = 1 := by rw [f1 34 (by decide) (by decide) (by decide) (by decide)]; exact u34
      exact x_bki rfl (e_554 (Or.inr rfl) f3 (fun _ => m34) hr (fun o5 o6 => hH _ o5 o6 (both_none (M1 := M3) hC0 hn (fun c hc h34 => (u c h34).trans (w1 c hc)) (w2.of (u 3 (by decide)) (u 5 (by decide)) (u 14 (by decide)) (u 15 (by decide)) (u 18 (by decide)) (u 20 (by decide)) (u 22 (by decide))) (by rw [u 3 (by decide)]; omega) f1 f2 v1)))
theorem lw_11 {L : Nat} {Q : pm_P} {M : pm_M} {n a4 : Int} {o5 o6 : Option pm_V} (hC : CpI M (n + 1)) (hn : 0 ≤ n) (ha : 0 ≤ a4 ∧ a4 + 4 ≤ (L : Int)) (hL : L ≤ 100000) (hH : ∀ (M' : pm_M) (o5 o6 : Option pm_V), CpI M' n → pm_X L (95, 23, lw_l (a4 + 4) o5 o6, [], M') Q) :
    pm_X L (94, 0, [some (.inr (.inl 0)), some (.inl (M 35 (a4 + 1))), some (.inr (.inl 34)), none], [], M) (pm_back (pm_X L) 95 693 (lw_l a4 o5 o6) [] Q) := by
  have hF := hC.1.1.1.1
  have hN := hC.1.1.2.1.1
  have k1 := hC.1.1.2.2.1
  have k2 := hC.1.1.2.2.2.1
  have h9 : 1 ≤ M 99 0 := by have := hC.1.2.2.2.2.1; omega
  have hr : pm_R (a4 + 4) := by unfold pm_R; omega
  have b1 : pm_R (a4 + 1) := by unfold pm_R; omega
  have b2 : pm_R (a4 + 2) := by unfold pm_R; omega
  have b3 : pm_R (a4 + 3) := by unfold pm_R; omega
  generalize hA : M 35 (a4 + 1) = a
  have go1 : (a < 0 ∨ M 1 6 ≤ a) → ∀ M1 : pm_M, (∀ c, c ≠ 99 → M1 c = M c) → M1 99 0 = M 99 0 - 1 → pm_back (pm_X L) 95 693 (lw_l a4 o5 o6) [] Q (.inl (some (.inl 1))) M1 := by
    intro hc M1 f f9
    have e24 : M1 24 = M 24 := f 24 (by decide)
    have fin : pm_back (pm_X L) 95 705 (lw_l a4 (some (.inl 1)) o6) [] Q (.inl (some (.inl 0))) (pm_set (pm_set M1 24 0 0) 24 0 1) := x_bki rfl (e_708 (Or.inl rfl) pm_get_e (fun z => absurd z (by decide)) hr (fun o5 o6 => hH _ o5 o6 (hC.thr hn f f9)))
    refine x_bki rfl (s_95_696 ⟨b1, by omega, ?_⟩)
    rw [f 35 (by decide), hA]
    exact s_83_0 ⟨fun _ => fin, fun y => ⟨fun z => by rw [e24] at z; omega, fun _ => fin⟩⟩
  have bk : ∀ M1 : pm_M, (∀ c, c ≠ 99 → M1 c = M c) → M1 99 0 = M 99 0 - 1 → (a < 0 ∨ M 1 6 ≤ a) → pm_back (pm_X L) 94 4 [some (.inr (.inl 0)), some (.inl a), some (.inr (.inl 34)), none] [.inl 0, .inr (.inl 34)] (pm_back (pm_X L) 95 693 (lw_l a4 o5 o6) [] Q) (.inr 0) M1 :=
    fun M1 f f9 hc => x_bkc (h0 := 19) (nx := 20) (i := 3) rfl rfl (x_iconst i_94_20 (by decide) rfl (x_ireti i_94_21 r_94 (go1 hc M1 f f9)))
  rcases (by omega : (a < 0 ∨ M 1 6 ≤ a) ∨ (0 ≤ a ∧ a < M 1 6)) with hc | hc
  · exact s_94_0 (s_11_0 ⟨fun _ => ⟨h9, bk _ (fun c hc => pm_set_off c hc) pm_get_e hc⟩, fun _ => ⟨fun z => by omega, fun _ => ⟨h9, bk _ (fun c hc => pm_set_off c hc) pm_get_e hc⟩⟩⟩)
  have hC0 := hC
  obtain ⟨⟨hR, hS, ⟨a1, a2, a3, a4'⟩, ⟨n0, n1, n2⟩⟩, ⟨l1, l2, l3⟩, t⟩ := hC
  obtain ⟨V, hV, hVi⟩ := gv_in hR (M 30) a4'
  refine s_94_0 (s_11_0 ⟨fun z => by omega, fun _ => ⟨fun _ => p_26 (V := V) hR.1 hV hc a2 (fun f f0 f1 f2 => ?_) (fun M1 w1 w2 w3 => x_bki rfl (s_11_13 ⟨b01_bit _, ?_⟩)), fun z => by omega⟩⟩)
  · obtain ⟨k, q0, q1⟩ := in_12 hR f0 f1 f2
    rw [← q1, t k q0.1 q0.2]
    exact hVi k q0.1 q0.2
  have go0 : ∀ y : Int, y = b01 (V a) → pm_back (pm_X L) 95 693 (lw_l a4 o5 o6) [] Q (.inl (some (.inl 0))) (pm_set M1 34 0 y) := by
    intro y hy
    generalize hM3 : pm_set M1 34 0 y = M3
    have u : ∀ c, c ≠ 34 → M3 c = M1 c := fun c hc => by rw [← hM3]; exact pm_set_off c hc
    have u34 : M3 34 0 = y := by rw [← hM3]; exact pm_get_e
    have g1 : M3 1 = M 1 := (u 1 (by decide)).trans (w1 1 (by decide))
    have g7 : M3 7 = M 7 := (u 7 (by decide)).trans (w1 7 (by decide))
    have g8 : M3 8 = M 8 := (u 8 (by decide)).trans (w1 8 (by decide))
    have g9 : M3 9 = M 9 := (u 9 (by decide)).trans (w1 9 (by decide))
    have g12 : M3 12 = M 12 := (u 12 (by decide)).trans (w1 12 (by decide))
    have g24 : M3 24 = M 24 := (u 24 (by decide)).trans (w1 24 (by decide))
    have g29 : M3 29 = M 29 := (u 29 (by decide)).trans (w1 29 (by decide))
    have g30 : M3 30 = M 30 := (u 30 (by decide)).trans (w1 30 (by decide))
    have hR1 : RK M3 := hR.of g1 g7 g8 g9 g12 (by rw [g24]) (by rw [g24]) ((u 25 (by decide)).trans (w1 25 (by decide))) ((u 26 (by decide)).trans (w1 26 (by decide))) ((u 27 (by decide)).trans (w1 27 (by decide))) ((u 28 (by decide)).trans (w1 28 (by decide)))
    have gvi : ∀ V, GV M V → GV M3 V := fun V h => h.of g1 g7 g8 g9
    have gvj : ∀ V, GV M3 V → GV M V := fun V h => h.of g1.symm g7.symm g8.symm g9.symm
    have en : ∀ V, nV M3 V = nV M V := fun V => by unfold nV; rw [g12]
    have g35 : M3 35 = M 35 := (u 35 (by decide)).trans (w1 35 (by decide))
    have g0 : M3 0 = M 0 := (u 0 (by decide)).trans (w1 0 (by decide))
    have g6 : M3 6 = M 6 := (u 6 (by decide)).trans (w1 6 (by decide))
    have g10 : M3 10 = M1 10 := u 10 (by decide)
    refine x_bki rfl (s_95_696 ⟨b1, by omega, ?_⟩)
    rw [g35, hA]
    refine p_83 (V := V) hR1 (by rw [g1]; exact hc) (gvi V hV) (by rw [g1, g12, g30]; exact hVi) (fun M2 f1 f2 f3 => ?_)
    have fr : ∀ c, c ≠ 10 → c ≠ 24 → c ≠ 32 → c ≠ 34 → M2 c = M c := fun c h10 h24 h32 h34 => (f1 c h24 h32).trans ((u c h34).trans (w1 c h10))
    have m0 : M2 0 = M 0 := fr 0 (by decide) (by decide) (by decide) (by decide)
    have m1 : M2 1 = M 1 := fr 1 (by decide) (by decide) (by decide) (by decide)
    have m3 : M2 3 = M 3 := fr 3 (by decide) (by decide) (by decide) (by decide)
    have m6 : M2 6 = M 6 := fr 6 (by decide) (by decide) (by decide) (by decide)
    have m29 : M2 29 = M 29 := fr 29 (by decide) (by decide) (by decide) (by decide)
    have m30 : M2 30 = M 30 := fr 30 (by decide) (by decide) (by decide) (by decide)
    have m10 : M2 10 = M1 10 := (f1 10 (by decide) (by decide)).trans g10
    have m34 : M2 34 0 = b01 (V a) := by rw [f1 34 (by decide) (by decide), u34, hy]
    refine x_bki rfl (e_708 (b01_bit _) f3 (fun _ => m34) hr (fun o5 o6 => hH _ o5 o6 (hC0.next hn (fun c hc => fr c (by omega) (by omega) (by omega) (by omega)) (by rw [m0]) (by rw [f2 1 (by decide), g24]) (by rw [f2 2 (by decide), g24]) (hS.of m3 (fr 5 (by decide) (by decide) (by decide) (by decide)) (fr 14 (by decide) (by decide) (by decide) (by decide)) (fr 15 (by decide) (by decide) (by decide) (by decide)) (fr 18 (by decide) (by decide) (by decide) (by decide)) (fr 20 (by decide) (by decide) (by decide) (by decide)) (fr 22 (by decide) (by decide) (by decide) (by decide))) (by rw [m3]; omega) (fun f hf => by rw [m10]; exact w3 f (by omega)) (by rw [m30]; exact a4') ⟨by unfold LI; rw [m0, m6, m1]; exact l1, by rw [f2 3 (by decide), g24, m0]; exact l2, by rw [m0, m29, m6]; exact l3⟩ (fun k ka kb => by rw [m10, w3 _ (Or.inr (Or.inr (hR.2.2.2.2.2 k ka kb))), m30]; exact t k ka kb))))
  exact x_bki rfl (s_94_7 ⟨fun z => ⟨by omega, go0 0 z.symm⟩, fun z => ⟨by omega, go0 1 ((b01_bit (V a)).resolve_left z).symm⟩⟩)
/-! PURE: THE LAW -/
theorem law_l {L : Nat} {Q : pm_P} (hL : L ≤ 100000) (hq : ∀ M' : pm_M, Q (.inl (some (.inl 1))) M') : ∀ (m : Nat) (M : pm_M) (a4 : Int) (o5 o6 : Option pm_V), CpI M m → 0 ≤ a4 → (L : Int) - a4 ≤ 4 * m + 3 → pm_X L (95, 23, lw_l a4 o5 o6, [], M) Q := by
  intro m
  induction m with
  | zero =>
    intro M a4 o5 o6 hC h0 h1
    exact s_95_23 ⟨hL, by unfold pm_R; omega, fun _ => hq M, fun z => by omega⟩
  | succ m ih =>
    intro M a4 o5 o6 hC h0 h1
    have hC1 : CpI M ((m : Int) + 1) := by
      rw [show ((m + 1 : Nat) : Int) = (m : Int) + 1 by omega] at hC
      exact hC
    refine s_95_23 ⟨hL, by unfold pm_R; omega, fun _ => hq M, fun z => ⟨by omega, ?_⟩⟩
    have ha : 0 ≤ a4 ∧ a4 + 4 ≤ (L : Int) := by omega
    have hm : 0 ≤ (m : Int) := by omega
    have hr : pm_R (a4 + 4) := by unfold pm_R; omega
    have b1 : pm_R (a4 + 1) := by unfold pm_R; omega
    have b2 : pm_R (a4 + 2) := by unfold pm_R; omega
    have b3 : pm_R (a4 + 3) := by unfold pm_R; omega
    have hH : ∀ (M' : pm_M) (o5 o6 : Option pm_V), CpI M' (m : Int) → pm_X L (95, 23, lw_l (a4 + 4) o5 o6, [], M') Q := fun M' o5 o6 h => ih M' (a4 + 4) o5 o6 h (by omega) (by omega)
    have h9 := hC1.1.2.2.2.2.1
    refine ⟨fun _ => lw_0 hC1 hm ha hL hH, fun _ => ⟨b1, by omega, lw_1 hC1 hm ha hL hH⟩, fun _ => ⟨b1, by omega, b2, by omega, b3, by omega, lw_2 hC1 hm ha hL hH⟩, fun _ => ⟨b1, by omega, b2, by omega, b3, by omega, lw_3 hC1 hm ha hL hH⟩, fun _ => ⟨b1, by omega, lw_4 hC1 hm ha hL hH⟩, fun _ => lw_5 hC1 hm ha hL hH, fun _ => lw_6 hC1 hm ha hL hH, fun _ => lw_7 hC1 hm ha hL hH, fun _ => ⟨b1, by omega, lw_8 hC1 hm ha hL hH⟩, fun _ => ⟨b1, by omega, b2, by omega, lw_9 hC1 hm ha hL hH⟩, fun _ => ⟨b1, by omega, b2, by omega, fun q => lw_10 (v := 0) hC1 hm ha hL (Or.inl ⟨rfl, q⟩) hH, fun q => lw_10 (v := 1) hC1 hm ha hL (Or.inr ⟨rfl, q⟩) hH⟩, fun _ => ⟨b1, by omega, lw_11 hC1 hm ha hL hH⟩, fun _ => lw_12 hC1 hm ha hL hH, fun _ => ⟨b1, by omega, lw_13 hC1 hm ha hL hH⟩, fun _ => ⟨hr, hH M _ _ (hC1.of (fun _ _ => rfl) (fun _ _ => rfl) hm (by omega) (by omega))⟩⟩
/-- how memory is when both objects are new -/
def NewM (M : pm_M) : Prop := (∀ c j, c ≠ 1 → c ≠ 7 → c ≠ 24 → c ≠ 35 → c ≠ 99 → M c j = 0) ∧ (∀ j, j ≠ 6 → M 1 j = 0) ∧ M 1 6 = 1 ∧ (∀ j, j ≠ 0 → M 7 j = 0) ∧ M 7 0 = -1 ∧ (∀ j, j ≠ 1 → M 24 j = 0) ∧ M 24 1 = 1 ∧ M 99 0 = 512
theorem NewM.cp {M : pm_M} (h : NewM M) : CpI M 512 := by
  obtain ⟨z, z1, z16, z7, z70, z24, z241, z99⟩ := h
  have h17 : M 1 7 = 0 := z1 7 (by decide)
  have h05 : M 0 5 = 0 := z 0 5 (by decide) (by decide) (by decide) (by decide) (by decide)
  have h32 : M 3 2 = 0 := z 3 2 (by decide) (by decide) (by decide) (by decide) (by decide)
  have h54 : M 5 4 = 0 := z 5 4 (by decide) (by decide) (by decide) (by decide) (by decide)
  have h242 : M 24 2 = 0 := z24 2 (by decide)
  have h243 : M 24 3 = 0 := z24 3 (by decide)
  refine ⟨⟨⟨⟨⟨by omega, by omega⟩, fun f f0 f1 => by omega⟩, ⟨⟨by omega, by omega⟩, fun k ka kb => by omega, fun j k ja jb => by omega⟩, by omega, by omega, fun f f0 f1 => Or.inl ⟨z 25 f (by decide) (by decide) (by decide) (by decide) (by decide), by omega⟩, fun k ka kb => by omega⟩, ⟨by omega, fun i i0 i1 => by omega, fun l hl => absurd (z 20 l (by decide) (by decide) (by decide) (by decide) (by decide)) hl, fun f => z 18 f (by decide) (by decide) (by decide) (by decide) (by decide), by omega, fun l => by rw [z 15 l (by decide) (by decide) (by decide) (by decide) (by decide)]; omega, z 14 0 (by decide) (by decide) (by decide) (by decide) (by decide)⟩, ⟨z 0 6 (by decide) (by decide) (by decide) (by decide) (by decide), z 10 0 (by decide) (by decide) (by decide) (by decide) (by decide), fun f _ => z 10 f (by decide) (by decide) (by decide) (by decide) (by decide), fun k _ _ => Or.inl (z 30 k (by decide) (by decide) (by decide) (by decide) (by decide))⟩, ⟨by omega, by omega, by omega⟩⟩, ⟨⟨⟨by omega, by omega⟩, fun i i0 i1 => by omega⟩, by omega, fun i i0 i1 => by omega⟩, fun k ka kb => by omega⟩
/-- from where both objects are new the law answers true -/
theorem law_true {L : Nat} {Q : pm_P} {M : pm_M} (hL : L ≤ 2051) (h : NewM M) (hq : ∀ M' : pm_M, Q (.inl (some (.inl 1))) M') : pm_X L (95, 20, [some (.inr (.inl 35)), some (.inr (.inl 0)), some (.inr (.inl 24)), some (.inr (.inl 34)), none, none, none], [], M) Q :=
  s_95_20 (law_l (by omega) hq 512 M 0 none none h.cp (Int.le_refl _) (by omega))
