/-! MEANING: the least by the first difference is the least by number -/
theorem least_same {N : Nat} {A B : Nat → Bool} (hle : mk_n B N ≤ mk_n A N) (hlex : ∀ k, k < N → (∀ k', k' < k → A k' = B k') → A k = true → B k = true) : ∀ i, i < N → A i = B i := by
  intro i
  induction i using Nat.strongRecOn with
  | ind i ih =>
    intro hi
    have hl : ∀ k', k' < i → A k' = B k' := fun k' h => ih k' h (by omega)
    cases ha : A i with
    | true => exact (hlex i hi hl ha).symm
    | false =>
      cases hb : B i with
      | false => rfl
      | true =>
        have := mk_lex ha hb hl (N - i - 1)
        rw [show i + 1 + (N - i - 1) = N by omega] at this
        omega
/-- the reference's can -/
theorem p_78 {L : Nat} {Q : pm_P} {M : pm_M} (hR : RK M) (hn : M 24 3 ≤ 20) (hr : ∀ i, 0 ≤ i → i < M 24 3 → 0 ≤ M 29 i ∧ M 29 i < M 1 6) (hb : ∀ k, 0 ≤ k → k < 12 → pm_bit (M 30 k))
    (hq1 : ∀ (M' : pm_M) (V : Int → Bool), (∀ c, c ≠ 24 → c ≠ 30 → c ≠ 31 → c ≠ 32 → M' c = M c) → (∀ j, j ≠ 0 → M' 24 j = M 24 j) → M' 24 0 = 0 → GV M V → (∀ k, 0 ≤ k → k < M 1 7 → M' 30 k = b01 (V (M 12 k))) → (∀ k, M 1 7 ≤ k → k < 12 → M' 30 k = 0) → ALL M 29 (M 24 3) V → (∀ V', GV M V' → ALL M 29 (M 24 3) V' → mk_n (nV M V) (M 1 7).toNat ≤ mk_n (nV M V') (M 1 7).toNat) → Q (.inl (some (.inl 1))) M')
    (hq0 : ∀ M' : pm_M, (∀ c, c ≠ 24 → c ≠ 30 → c ≠ 31 → c ≠ 32 → M' c = M c) → (∀ j, j ≠ 0 → M' 24 j = M 24 j) → M' 24 0 = 0 → (∀ k, 0 ≤ k → k < 12 → M' 30 k = M 30 k) → (∀ V, GV M V → ¬ ALL M 29 (M 24 3) V) → Q (.inl (some (.inl 0))) M') :
    pm_X L (78, 0, [some (.inr (.inl 24))], [], M) Q := by
  refine s_78_0 ?_
  generalize hM1 : pm_set M 24 0 0 = M1
  have o1 : ∀ c, c ≠ 24 → M1 c = M c := fun c hc => by rw [← hM1]; exact pm_set_off c hc
  have o2 : ∀ j, j ≠ 0 → M1 24 j = M 24 j := fun j hj => by rw [← hM1]; exact pm_get_j hj rfl
  have o3 : M1 24 0 = 0 := by rw [← hM1]; exact pm_get_e
  have e1 : M1 1 = M 1 := o1 1 (by decide)
  have e7 : M1 7 = M 7 := o1 7 (by decide)
  have e8 : M1 8 = M 8 := o1 8 (by decide)
  have e9 : M1 9 = M 9 := o1 9 (by decide)
  have e12 : M1 12 = M 12 := o1 12 (by decide)
  have e29 : M1 29 = M 29 := o1 29 (by decide)
  have e30 : M1 30 = M 30 := o1 30 (by decide)
  have hR1 : RK M1 := hR.of e1 e7 e8 e9 e12 (o2 1 (by decide)) (o2 2 (by decide)) (o1 25 (by decide)) (o1 26 (by decide)) (o1 27 (by decide)) (o1 28 (by decide))
  have gvi : ∀ V, GV M V → GV M1 V := fun V h => h.of e1 e7 e8 e9
  have gvj : ∀ V, GV M1 V → GV M V := fun V h => h.of e1.symm e7.symm e8.symm e9.symm
  have al : ∀ V, ALL M1 29 (M 24 3) V ↔ ALL M 29 (M 24 3) V := fun V => by unfold ALL; rw [e29]
  have en : ∀ V, nV M1 V = nV M V := fun V => by unfold nV; rw [e12]
  refine p_77 g_29 (by decide) (by decide) (by decide) hR1 hn (by rw [e29, e1]; exact hr) (by rw [e30]; exact hb) ?_ ?_
  · rw [e1, e12]
    intro M2 V f1 w1 w2 w3 _ w4 w5
    have f24 : M2 24 = M1 24 := f1 24 (by decide) (by decide) (by decide)
    refine x_bki rfl (s_78_17 ⟨Or.inr rfl, hq1 M2 V (fun c a b d e => (f1 c b d e).trans (o1 c a)) (by rw [f24]; exact o2) (by rw [f24]; exact o3) (gvj V w1) w2 w3 ((al V).mp w4) (fun V' u1 u2 => ?_)⟩)
    have := w5 V' (gvi V' u1) ((al V').mpr u2)
    rw [en, en] at this
    exact this
  · rw [e30]
    intro M2 f1 w1 w2
    have f24 : M2 24 = M1 24 := f1 24 (by decide) (by decide) (by decide)
    exact x_bki rfl (s_78_17 ⟨Or.inl rfl, hq0 M2 (fun c a b d e => (f1 c b d e).trans (o1 c a)) (by rw [f24]; exact o2) (by rw [f24]; exact o3) w1 (fun V u1 u2 => w2 V (gvi V u1) ((al V).mpr u2))⟩)
