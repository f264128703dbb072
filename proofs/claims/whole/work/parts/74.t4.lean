/-! PURE: the reference's some -/
theorem p_77l {L : Nat} {Q : pm_P} {M0 : pm_M} {q : Nat} (gq : (pm_cells L)[q]? = some (.inl (0, 20))) (q30 : q ≠ 30) (q31 : q ≠ 31) (q32 : q ≠ 32) (hR : RK M0) {n : Int} {K : Int → Int} {P : Nat} (hP : P = 2 ^ (M0 1 7).toNat) (hn : n ≤ 20) (hr : ∀ i, 0 ≤ i → i < n → 0 ≤ M0 q i ∧ M0 q i < M0 1 6) (hKb : ∀ k, 0 ≤ k → k < 12 → pm_bit (K k))
    (hq1 : ∀ (M' : pm_M) (V : Int → Bool), (∀ c, c ≠ 30 → c ≠ 31 → c ≠ 32 → M' c = M0 c) → GV M0 V → (∀ k, 0 ≤ k → k < M0 1 7 → M' 30 k = b01 (V (M0 12 k))) → (∀ k, M0 1 7 ≤ k → k < 12 → M' 30 k = 0) → (∀ k, 0 ≤ k → k < 12 → M' 31 k = K k) → ALL M0 q n V → (∀ V', GV M0 V' → ALL M0 q n V' → mk_n (nV M0 V) (M0 1 7).toNat ≤ mk_n (nV M0 V') (M0 1 7).toNat) → Q (.inl (some (.inl 1))) M')
    (hq0 : ∀ M' : pm_M, (∀ c, c ≠ 30 → c ≠ 31 → c ≠ 32 → M' c = M0 c) → (∀ k, 0 ≤ k → k < 12 → M' 30 k = K k) → (∀ V, GV M0 V → ¬ ALL M0 q n V) → Q (.inl (some (.inl 0))) M') :
    ∀ (m : Nat) (M : pm_M) (o4 o5 : Option pm_V), P - mk_n (nIn (M 30)) (M0 1 7).toNat ≤ m → (∀ c, c ≠ 30 → c ≠ 31 → c ≠ 32 → M c = M0 c) → (∀ k, 0 ≤ k → k < 12 → pm_bit (M 30 k)) → (∀ k, M0 1 7 ≤ k → k < 12 → M 30 k = 0) → (∀ k, 0 ≤ k → k < 12 → M 31 k = K k) →
    (∀ V', GV M0 V' → ALL M0 q n V' → mk_n (nIn (M 30)) (M0 1 7).toNat ≤ mk_n (nV M0 V') (M0 1 7).toNat) →
    pm_X L (77, 6, [some (.inr (.inl 24)), some (.inr (.inl q)), some (.inl n), some (.inl 1), o4, o5], [], M) Q := by
  have hR0 := hR
  obtain ⟨hW, hI, k1, k2, hKD, h7⟩ := hR
  have hN := hI.1
  have hF := hW.1
  intro m
  induction m with
  | zero =>
    intro M o4 o5 hm
    have := mk_lt (nIn (M 30)) (M0 1 7).toNat
    rw [← hP] at this
    omega
  | succ m ih =>
    intro M o4 o5 hm c1 c2 c3 c4 c5
    have hlt := mk_lt (nIn (M 30)) (M0 1 7).toNat
    rw [← hP] at hlt
    obtain ⟨V, hV, hVi⟩ := gv_in hR0 (M 30) c2
    have hnum : mk_n (nIn (M 30)) (M0 1 7).toNat = mk_n (nV M0 V) (M0 1 7).toNat := mk_ext _ (fun i hi => by
      unfold nIn nV
      rw [hVi i (by omega) (by omega)]
      cases V (M0 12 i) <;> rfl)
    have e1 : M 1 = M0 1 := c1 1 (by decide) (by decide) (by decide)
    have e7 : M 7 = M0 7 := c1 7 (by decide) (by decide) (by decide)
    have e8 : M 8 = M0 8 := c1 8 (by decide) (by decide) (by decide)
    have e9 : M 9 = M0 9 := c1 9 (by decide) (by decide) (by decide)
    have e12 : M 12 = M0 12 := c1 12 (by decide) (by decide) (by decide)
    have e24 : M 24 = M0 24 := c1 24 (by decide) (by decide) (by decide)
    have hRM : RK M := hR0.of e1 e7 e8 e9 e12 (by rw [e24]) (by rw [e24]) (c1 25 (by decide) (by decide) (by decide)) (c1 26 (by decide) (by decide) (by decide)) (c1 27 (by decide) (by decide) (by decide)) (c1 28 (by decide) (by decide) (by decide))
    refine s_77_6 gq ⟨fun z => absurd z (by decide), fun _ => p_73 (V := V) hRM.1.1 hRM.2.1.1.2 hRM.2.2.1 hRM.2.2.2.2.1 (hV.of e1 e7 e8 e9) (by rw [e1, e12]; exact hVi) ?_⟩
    intro M1 f1 v1
    rw [e1] at v1
    have g30 : M1 30 = M 30 := f1 30 (by decide)
    have g31 : M1 31 = M 31 := f1 31 (by decide)
    have gQ : M1 q = M0 q := (f1 q q32).trans (c1 q q30 q31 q32)
    have g24 : M1 24 = M0 24 := (f1 24 (by decide)).trans e24
    have fr1 : ∀ c, c ≠ 30 → c ≠ 31 → c ≠ 32 → M1 c = M0 c := fun c a b d => (f1 c d).trans (c1 c a b d)
    have al : ∀ W, ALL M1 q n W ↔ ALL M0 q n W := fun W => by unfold ALL; rw [gQ]
    refine x_bkv rfl (s_77_14 gq (p_77i gq (V := V) hn ?_ (fun hall => ?_) (fun hno a4 a5 => ?_) _ 1 0 (Nat.le_refl _) (Int.le_refl _) (Or.inl ⟨rfl, fun i i0 i1 => by omega⟩)))
    · rw [gQ]
      intro i i0 i1
      have h := hr i i0 i1
      exact ⟨⟨h.1, by omega⟩, v1 _ h.1 h.2⟩
    · refine hq1 M1 V fr1 hV (by rw [g30]; exact hVi) (by rw [g30]; exact c3) (by rw [g31]; exact c4) ((al V).mp hall) (fun V' w1 w2 => ?_)
      rw [← hnum]
      exact c5 V' w1 w2
    · have neq : ∀ V', GV M0 V' → ALL M0 q n V' → mk_n (nIn (M 30)) (M0 1 7).toNat ≠ mk_n (nV M0 V') (M0 1 7).toNat := by
        intro V' w1 w2 z
        rw [hnum] at z
        have hi := mk_inj _ z
        refine hno ((al V).mpr (fun i i0 i1 => ?_))
        have h := hr i i0 i1
        rw [hV.same hW w1 (fun f f0 f1 f2 => ?_) (M0 q i).toNat (M0 q i) rfl h.1 h.2]
        · exact w2 i i0 i1
        · rcases hKD f (by omega) f1 with ⟨a, b⟩ | ⟨a, b0, b1, b2, b3⟩ | ⟨a, b0, b1, b2, b3⟩ | ⟨a, b0, b1, b2, b3, b4⟩ | ⟨a, b0, b1, b2, b3, b4⟩ | ⟨a, b0, b1, b2, b3, b4⟩ | ⟨a, b0, b1, b2, b2', b3, b4⟩
          · omega
          · have h5 : nV M0 V (M0 26 f).toNat = nV M0 V' (M0 26 f).toNat := hi (M0 26 f).toNat (by omega)
            unfold nV at h5
            rw [show (((M0 26 f).toNat : Nat) : Int) = M0 26 f by omega, b3] at h5
            exact h5
          all_goals omega
      refine p_74 (by rw [g24, k2]; exact hN) (by rw [g30]; exact c2) ?_ ?_
      · rw [g24, k2, g30]
        intro M2 d1 d2 d3 d4
        refine x_bki rfl (s_77_67 gq (ih M2 _ _ (by omega) (fun c a b d => (d1 c a).trans (fr1 c a b d)) d2 (fun k ka kb => by rw [d3 k ka]; exact c3 k ka kb) (by rw [d1 31 (by decide), g31]; exact c4) (fun V' w1 w2 => ?_)))
        have h1 := c5 V' w1 w2
        have h2 := neq V' w1 w2
        omega
      · rw [g24, k2, g30]
        intro M2 d1 d2
        have g31' : M2 31 = M 31 := (d1 31 (by decide)).trans g31
        refine x_bki rfl (s_77_67 gq (s_77_6 gq ⟨fun _ => p_76 (by rw [g31']; exact fun k ka kb => by rw [c4 k ka kb]; exact hKb k ka kb) (fun M3 w1 w2 => x_bkv rfl (s_77_75 gq ?_)), fun z => absurd rfl z⟩))
        refine hq0 M3 (fun c a b d => (w1 c a).trans ((d1 c a).trans (fr1 c a b d))) (fun k ka kb => by rw [w2 k ka kb, g31']; exact c4 k ka kb) (fun V' u1 u2 => ?_)
        have h1 := c5 V' u1 u2
        have h2 := neq V' u1 u2
        have h3 := mk_lt (nV M0 V') (M0 1 7).toNat
        rw [← d2] at h3
        omega
theorem p_77 {L : Nat} {Q : pm_P} {M : pm_M} {q : Nat} (gq : (pm_cells L)[q]? = some (.inl (0, 20))) (q30 : q ≠ 30) (q31 : q ≠ 31) (q32 : q ≠ 32) (hR : RK M) {n : Int} (hn : n ≤ 20) (hr : ∀ i, 0 ≤ i → i < n → 0 ≤ M q i ∧ M q i < M 1 6) (hb : ∀ k, 0 ≤ k → k < 12 → pm_bit (M 30 k))
    (hq1 : ∀ (M' : pm_M) (V : Int → Bool), (∀ c, c ≠ 30 → c ≠ 31 → c ≠ 32 → M' c = M c) → GV M V → (∀ k, 0 ≤ k → k < M 1 7 → M' 30 k = b01 (V (M 12 k))) → (∀ k, M 1 7 ≤ k → k < 12 → M' 30 k = 0) → (∀ k, 0 ≤ k → k < 12 → M' 31 k = M 30 k) → ALL M q n V → (∀ V', GV M V' → ALL M q n V' → mk_n (nV M V) (M 1 7).toNat ≤ mk_n (nV M V') (M 1 7).toNat) → Q (.inl (some (.inl 1))) M')
    (hq0 : ∀ M' : pm_M, (∀ c, c ≠ 30 → c ≠ 31 → c ≠ 32 → M' c = M c) → (∀ k, 0 ≤ k → k < 12 → M' 30 k = M 30 k) → (∀ V, GV M V → ¬ ALL M q n V) → Q (.inl (some (.inl 0))) M') :
    pm_X L (77, 0, [some (.inr (.inl 24)), some (.inr (.inl q)), some (.inl n), none, none, none], [], M) Q := by
  have hN := hR.2.1.1
  refine s_77_0 gq (p_75 hb (fun M1 f1 f2 f3 => x_bkv rfl (s_77_4 gq ?_)))
  refine p_77l gq q30 q31 q32 hR (K := M 30) rfl hn hr hb hq1 hq0 _ M1 none none (Nat.le_refl _) (fun c a b _ => f1 c a b) (fun k ka kb => by rw [f3 k ka kb]; exact Or.inl rfl) (fun k ka kb => f3 k (by omega) kb) f2 (fun V' _ _ => ?_)
  have e : mk_n (nIn (M1 30)) (M 1 7).toNat = mk_n (fun _ => false) (M 1 7).toNat := mk_ext _ (fun i hi => by
    unfold nIn
    rw [f3 i (by omega) (by omega)]
    rfl)
  rw [e, mk_zero]
  omega
