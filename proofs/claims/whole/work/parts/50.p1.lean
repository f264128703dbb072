/-! PURE: the trail's methods -/
theorem p_62l {L : Nat} {Q : pm_P} {a1 : Int} : ∀ (n : Nat) (M : pm_M) (a2 : Int), (M 5 4 - a2).toNat ≤ n → 0 ≤ a2 → M 5 4 ≤ 2000 → (∀ i, a2 ≤ i → i < M 5 4 → 0 ≤ M 22 i ∧ M 22 i < 4000) →
    (∀ M' : pm_M, (∀ c, c ≠ 5 → c ≠ 20 → M' c = M c) → M' 5 4 = a1 → M' 5 5 = M 5 5 → (∀ l, (∃ i, a2 ≤ i ∧ i < M 5 4 ∧ M 22 i = l) → M' 20 l = 0) → (∀ l, (¬ ∃ i, a2 ≤ i ∧ i < M 5 4 ∧ M 22 i = l) → M' 20 l = M 20 l) → Q (.inl none) M') →
    pm_X L (62, 2, [some (.inr (.inl 5)), some (.inl a1), some (.inl a2)], [], M) Q := by
  intro n
  induction n with
  | zero =>
    intro M a2 hn h0 h1 h2 hq
    refine s_62_2 ⟨fun c => ?_, fun c => by omega⟩
    exact hq _ (fun c h5 _ => pm_set_off c h5) pm_get_e (pm_get_j (by decide) rfl) (fun l ⟨i, b1, b2, _⟩ => by omega) (fun l _ => by rw [pm_set_off 20 (by decide)])
  | succ n ih =>
    intro M a2 hn h0 h1 h2 hq
    refine s_62_2 ⟨fun c => ?_, fun c => ?_⟩
    · exact hq _ (fun c h5 _ => pm_set_off c h5) pm_get_e (pm_get_j (by decide) rfl) (fun l ⟨i, b1, b2, _⟩ => by omega) (fun l _ => by rw [pm_set_off 20 (by decide)])
    · refine ⟨⟨h0, by omega⟩, h2 a2 (by omega) (by omega), by unfold pm_R; omega, ?_⟩
      have e5 : pm_set M 20 (M 22 a2) 0 5 = M 5 := pm_set_off 5 (by decide)
      have e22 : pm_set M 20 (M 22 a2) 0 22 = M 22 := pm_set_off 22 (by decide)
      refine ih _ _ (by rw [e5]; omega) (by omega) (by rw [e5]; exact h1) (by rw [e5, e22]; exact fun i b1 b2 => h2 i (by omega) b2) ?_
      rw [e5, e22]
      intro M' q1 q2 q3 q4 q5
      refine hq M' (fun c c5 c20 => by rw [q1 c c5 c20]; exact pm_set_off c c20) q2 q3 (fun l ⟨i, b1, b2, b3⟩ => ?_) (fun l hl => ?_)
      · by_cases hx : ∃ i, a2 + 1 ≤ i ∧ i < M 5 4 ∧ M 22 i = l
        · exact q4 l hx
        · rw [q5 l hx]
          have : i = a2 := by
            rcases (by omega : i = a2 ∨ a2 + 1 ≤ i) with z | z
            · exact z
            · exact absurd ⟨i, z, b2, b3⟩ hx
          subst this
          rw [← b3]
          exact pm_get_e
      · rw [q5 l (fun ⟨i, b1, b2, b3⟩ => hl ⟨i, by omega, b2, b3⟩)]
        exact pm_get_j (fun z => hl ⟨a2, by omega, by omega, z.symm⟩) rfl
theorem p_62 {L : Nat} {Q : pm_P} {a1 : Int} {M : pm_M} (h0 : 0 ≤ a1) (h1 : M 5 4 ≤ 2000) (h2 : ∀ i, a1 ≤ i → i < M 5 4 → 0 ≤ M 22 i ∧ M 22 i < 4000)
    (hq : ∀ M' : pm_M, (∀ c, c ≠ 5 → c ≠ 20 → M' c = M c) → M' 5 4 = a1 → M' 5 5 = M 5 5 → (∀ l, (∃ i, a1 ≤ i ∧ i < M 5 4 ∧ M 22 i = l) → M' 20 l = 0) → (∀ l, (¬ ∃ i, a1 ≤ i ∧ i < M 5 4 ∧ M 22 i = l) → M' 20 l = M 20 l) → Q (.inl none) M') :
    pm_X L (62, 0, [some (.inr (.inl 5)), some (.inl a1), none], [], M) Q := s_62_0 (p_62l _ M a1 (Nat.le_refl _) h0 h1 h2 hq)
/-- goBackTo -/
theorem p_61l {L : Nat} {Q : pm_P} {a1 : Int} : ∀ (n : Nat) (M : pm_M) (a2 : Int), (M 5 5).toNat ≤ n → 0 ≤ M 5 5 → M 5 5 ≤ 12 → 0 ≤ a2 → M 5 4 ≤ 2000 → (∀ t, 0 ≤ t → t < M 5 5 → 0 ≤ M 23 t ∧ M 23 t < 2000) → (∀ i, 0 ≤ i → i < M 5 4 → 0 ≤ M 22 i ∧ M 22 i < 4000) →
    (∀ (M' : pm_M) (lv' e' : Int), 0 ≤ lv' → lv' ≤ M 5 5 → (lv' = 0 ∨ M 22 (M 23 (lv' - 1)) = a1) → (∀ t, lv' ≤ t → t < M 5 5 → M 22 (M 23 t) ≠ a1) → (lv' < M 5 5 → e' = M 23 lv') → (lv' = M 5 5 → e' = a2) → (∀ c, c ≠ 5 → c ≠ 20 → M' c = M c) → M' 5 4 = e' → M' 5 5 = lv' →
      (∀ l, (∃ i, e' ≤ i ∧ i < M 5 4 ∧ M 22 i = l) → M' 20 l = 0) → (∀ l, (¬ ∃ i, e' ≤ i ∧ i < M 5 4 ∧ M 22 i = l) → M' 20 l = M 20 l) → Q (.inl none) M') →
    pm_X L (61, 5, [some (.inr (.inl 5)), some (.inl a1), some (.inl a2)], [], M) Q := by
  intro n
  induction n with
  | zero =>
    intro M a2 hn h0 h12 ha h1 h2 h3 hq
    refine s_61_5 ⟨fun c => ?_, fun c => by omega⟩
    refine p_62 ha h1 (fun i b1 b2 => h3 i (by omega) b2) (fun M' q1 q2 q3 q4 q5 => x_bkv rfl (s_61_60 ?_))
    exact hq M' (M 5 5) a2 h0 (Int.le_refl _) (Or.inl (by omega)) (fun t b1 b2 => by omega) (fun z => by omega) (fun _ => rfl) q1 q2 q3 q4 q5
  | succ n ih =>
    intro M a2 hn h0 h12 ha h1 h2 h3 hq
    refine s_61_5 ⟨fun c => ?_, fun c => ?_⟩
    · refine p_62 ha h1 (fun i b1 b2 => h3 i (by omega) b2) (fun M' q1 q2 q3 q4 q5 => x_bkv rfl (s_61_60 ?_))
      exact hq M' (M 5 5) a2 h0 (Int.le_refl _) (Or.inl (by omega)) (fun t b1 b2 => by omega) (fun z => by omega) (fun _ => rfl) q1 q2 q3 q4 q5
    · have h9 := h2 (M 5 5 - 1) (by omega) (by omega)
      refine ⟨by unfold pm_R; omega, ⟨by omega, by omega⟩, h9, fun d => ?_, fun d => ?_⟩
      · refine p_62 ha h1 (fun i b1 b2 => h3 i (by omega) b2) (fun M' q1 q2 q3 q4 q5 => x_bkv rfl (s_61_60 ?_))
        exact hq M' (M 5 5) a2 h0 (Int.le_refl _) (Or.inr d) (fun t b1 b2 => by omega) (fun z => by omega) (fun _ => rfl) q1 q2 q3 q4 q5
      · have e55 : pm_set M 5 5 (M 5 5 - 1) 5 5 = M 5 5 - 1 := pm_get_e
        have e54 : pm_set M 5 5 (M 5 5 - 1) 5 4 = M 5 4 := pm_get_j (by decide) rfl
        have e22 : pm_set M 5 5 (M 5 5 - 1) 22 = M 22 := pm_set_off 22 (by decide)
        have e23 : pm_set M 5 5 (M 5 5 - 1) 23 = M 23 := pm_set_off 23 (by decide)
        have e20 : pm_set M 5 5 (M 5 5 - 1) 20 = M 20 := pm_set_off 20 (by decide)
        refine ih _ _ (by rw [e55]; omega) (by rw [e55]; omega) (by rw [e55]; omega) h9.1 (by rw [e54]; exact h1) (by rw [e55, e23]; exact fun t b1 b2 => h2 t b1 (by omega)) (by rw [e54, e22]; exact h3) ?_
        rw [e55, e54, e22, e23, e20]
        intro M' lv' e' r1 r2 r3 r4 r5 r6 q1 q2 q3 q4 q5
        refine hq M' lv' e' r1 (by omega) r3 (fun t b1 b2 => ?_) (fun z => ?_) (fun z => by omega) (fun c c5 c20 => by rw [q1 c c5 c20]; exact pm_set_off c c5) q2 q3 q4 q5
        · rcases (by omega : t = M 5 5 - 1 ∨ t < M 5 5 - 1) with z | z
          · rw [z]; exact d
          · exact r4 t b1 z
        · rcases (by omega : lv' = M 5 5 - 1 ∨ lv' < M 5 5 - 1) with z | z
          · rw [r6 z, z]
          · exact r5 z
theorem p_61 {L : Nat} {Q : pm_P} {a1 : Int} {M : pm_M} (h0 : 0 ≤ M 5 5) (h12 : M 5 5 ≤ 12) (hn : 0 ≤ M 5 4) (h1 : M 5 4 ≤ 2000) (h2 : ∀ t, 0 ≤ t → t < M 5 5 → 0 ≤ M 23 t ∧ M 23 t < 2000) (h3 : ∀ i, 0 ≤ i → i < M 5 4 → 0 ≤ M 22 i ∧ M 22 i < 4000)
    (hq : ∀ (M' : pm_M) (lv' e' : Int), 0 ≤ lv' → lv' ≤ M 5 5 → (lv' = 0 ∨ M 22 (M 23 (lv' - 1)) = a1) → (∀ t, lv' ≤ t → t < M 5 5 → M 22 (M 23 t) ≠ a1) → (lv' < M 5 5 → e' = M 23 lv') → (lv' = M 5 5 → e' = M 5 4) → (∀ c, c ≠ 5 → c ≠ 20 → M' c = M c) → M' 5 4 = e' → M' 5 5 = lv' →
      (∀ l, (∃ i, e' ≤ i ∧ i < M 5 4 ∧ M 22 i = l) → M' 20 l = 0) → (∀ l, (¬ ∃ i, e' ≤ i ∧ i < M 5 4 ∧ M 22 i = l) → M' 20 l = M 20 l) → Q (.inl none) M') :
    pm_X L (61, 0, [some (.inr (.inl 5)), some (.inl a1), none], [], M) Q := s_61_0 (p_61l _ M _ (Nat.le_refl _) h0 h12 hn h1 h2 h3 hq)
/-- restart -/
theorem p_57 {L : Nat} {Q : pm_P} {M : pm_M} (h1 : M 5 4 ≤ 2000) (h2 : ∀ i, 0 ≤ i → i < M 5 4 → 0 ≤ M 22 i ∧ M 22 i < 4000) (h3 : ∀ l, M 20 l ≠ 0 → onT (M 22) (M 5 4) l)
    (hq : ∀ M' : pm_M, (∀ c, c ≠ 5 → c ≠ 20 → M' c = M c) → M' 5 4 = 0 → M' 5 5 = 0 → (∀ l, M' 20 l = 0) → Q (.inl none) M') :
    pm_X L (57, 0, [some (.inr (.inl 5))], [], M) Q := by
  refine s_57_0 (p_62 (by omega) h1 h2 (fun M' q1 q2 q3 q4 q5 => x_bkv rfl (s_57_5 ?_)))
  refine hq _ (fun c c5 c20 => by rw [pm_set_off c c5]; exact q1 c c5 c20) (by rw [pm_get_j (by decide) rfl]; exact q2) pm_get_e (fun l => ?_)
  rw [pm_set_off 20 (by decide)]
  by_cases hx : ∃ i, 0 ≤ i ∧ i < M 5 4 ∧ M 22 i = l
  · exact q4 l hx
  · rw [q5 l hx]
    apply Classical.byContradiction
    intro z
    exact hx (h3 l z)
/-- startAnew -/
theorem p_44l {L : Nat} {Q : pm_P} : ∀ (n : Nat) (M : pm_M) (a1 : Int), (2 * M 1 6 - a1).toNat ≤ n → 0 ≤ a1 → 0 ≤ M 1 6 → M 1 6 ≤ 2000 →
    (∀ M' : pm_M, (∀ c, c ≠ 16 → M' c = M c) → (∀ l, a1 ≤ l → l < 2 * M 1 6 → M' 16 l = -1) → (∀ l, l < a1 → M' 16 l = M 16 l) → Q (.inl none) M') →
    pm_X L (44, 14, [some (.inr (.inl 4)), some (.inl a1)], [], M) Q := by
  intro n
  induction n with
  | zero =>
    intro M a1 hn h0 h1 h2 hq
    exact s_44_14 ⟨by unfold pm_R; omega, fun c => hq M (fun _ _ => rfl) (fun l b1 b2 => by omega) (fun _ _ => rfl), fun c => by omega⟩
  | succ n ih =>
    intro M a1 hn h0 h1 h2 hq
    refine s_44_14 ⟨by unfold pm_R; omega, fun c => hq M (fun _ _ => rfl) (fun l b1 b2 => by omega) (fun _ _ => rfl), fun c => ⟨⟨h0, by omega⟩, by unfold pm_R; omega, ?_⟩⟩
    have e1 : pm_set M 16 a1 (-1) 1 = M 1 := pm_set_off 1 (by decide)
    refine ih _ _ (by rw [e1]; omega) (by omega) (by rw [e1]; exact h1) (by rw [e1]; exact h2) ?_
    rw [e1]
    intro M' q1 q2 q3
    refine hq M' (fun c hc => by rw [q1 c hc]; exact pm_set_off c hc) (fun l b1 b2 => ?_) (fun l b1 => ?_)
    · rcases (by omega : l = a1 ∨ a1 + 1 ≤ l) with z | z
      · rw [q3 l (by omega), z]; exact pm_get_e
      · exact q2 l z b2
    · rw [q3 l (by omega)]; exact pm_get_j (by omega) rfl
theorem p_44 {L : Nat} {Q : pm_P} {M : pm_M} (h0 : 0 ≤ M 1 6) (h00 : M 1 6 ≤ 2000) (h1 : M 5 4 ≤ 2000) (h2 : ∀ i, 0 ≤ i → i < M 5 4 → 0 ≤ M 22 i ∧ M 22 i < 4000) (h3 : ∀ l, M 20 l ≠ 0 → onT (M 22) (M 5 4) l)
    (hq : ∀ M' : pm_M, (∀ c, c ≠ 4 → c ≠ 5 → c ≠ 16 → c ≠ 20 → M' c = M c) → M' 4 9 = 0 → M' 5 4 = 0 → M' 5 5 = 0 → (∀ l, M' 20 l = 0) → (∀ l, 0 ≤ l → l < 2 * M 1 6 → M' 16 l = -1) → Q (.inl none) M') :
    pm_X L (44, 0, [some (.inr (.inl 4)), none], [], M) Q := by
  refine s_44_0 (p_57 h1 h2 h3 (fun M1 q1 q2 q3 q4 => x_bkv rfl (s_44_7 ?_)))
  have e1 : pm_set M1 4 9 0 1 = M 1 := (pm_set_off 1 (by decide)).trans (q1 1 (by decide) (by decide))
  refine p_44l _ _ _ (Nat.le_refl _) (by omega) (by rw [e1]; exact h0) (by rw [e1]; exact h00) ?_
  rw [e1]
  intro M' r1 r2 r3
  have r4 : ∀ c, c ≠ 16 → c ≠ 4 → M' c = M1 c := fun c c16 c4 => by rw [r1 c c16]; exact pm_set_off c c4
  refine hq M' (fun c c4 c5 c16 c20 => by rw [r4 c c16 c4]; exact q1 c c5 c20) ?_ ?_ ?_ (fun l => ?_) (fun l b1 b2 => r2 l b1 b2)
  · rw [r1 4 (by decide)]; exact pm_get_e
  · rw [r4 5 (by decide) (by decide)]; exact q2
  · rw [r4 5 (by decide) (by decide)]; exact q3
  · rw [r4 20 (by decide) (by decide)]; exact q4 l
/-- placeToWatch: a place from the third on that doesn't fail, or none -/
theorem p_49l {L : Nat} {Q : pm_P} {M : pm_M} {a1 : Int} (h0 : 0 ≤ a1) (h1 : a1 + 1 < 16117) (hs : M 14 (a1 + 1) ≤ 85212) (hl : ∀ i, M 14 a1 ≤ i → i < M 14 (a1 + 1) → 0 ≤ M 13 i ∧ M 13 i < 4000) (hs0 : 0 ≤ M 14 a1) :
    ∀ (n : Nat) (a2 : Int), (M 14 (a1 + 1) - a2).toNat ≤ n → M 14 a1 + 2 ≤ a2 → (∀ i, M 14 a1 + 2 ≤ i → i < a2 → M 20 (pm_op (M 13 i)) ≠ 0) →
      ((∀ i, M 14 a1 + 2 ≤ i → i < M 14 (a1 + 1) → M 20 (pm_op (M 13 i)) ≠ 0) → Q (.inl (some (.inl (-1)))) M) → (∀ i, M 14 a1 + 2 ≤ i → i < M 14 (a1 + 1) → M 20 (pm_op (M 13 i)) = 0 → Q (.inl (some (.inl i))) M) →
      pm_X L (49, 12, [some (.inr (.inl 4)), some (.inl a1), some (.inl a2)], [], M) Q := by
  intro n
  induction n with
  | zero =>
    intro a2 hn h2 h3 q1 q2
    exact s_49_12 ⟨by unfold pm_R; omega, ⟨by omega, h1⟩, fun c => q1 (fun i b1 b2 => h3 i b1 (by omega)), fun c => by omega⟩
  | succ n ih =>
    intro a2 hn h2 h3 q1 q2
    refine s_49_12 ⟨by unfold pm_R; omega, ⟨by omega, h1⟩, fun c => q1 (fun i b1 b2 => h3 i b1 (by omega)), fun c => ?_⟩
    have h9 := hl a2 (by omega) (by omega)
    refine ⟨⟨by omega, by omega⟩, ⟨op_lo h9.1, op_hi (n := 2000) (by omega)⟩, fun d => ⟨by unfold pm_R; omega, ?_⟩, fun d => q2 a2 h2 (by omega) (Classical.not_not.mp d)⟩
    refine ih _ (by omega) (by omega) (fun i b1 b2 => ?_) q1 q2
    rcases (by omega : i < a2 ∨ i = a2) with z | z
    · exact h3 i b1 z
    · rw [z]; exact d
theorem p_49 {L : Nat} {Q : pm_P} {M : pm_M} {a1 : Int} (h0 : 0 ≤ a1) (h1 : a1 + 1 < 16117) (hs0 : 0 ≤ M 14 a1) (hs2 : M 14 a1 ≤ 85212) (hs : M 14 (a1 + 1) ≤ 85212) (hl : ∀ i, M 14 a1 ≤ i → i < M 14 (a1 + 1) → 0 ≤ M 13 i ∧ M 13 i < 4000)
    (q1 : (∀ i, M 14 a1 + 2 ≤ i → i < M 14 (a1 + 1) → M 20 (pm_op (M 13 i)) ≠ 0) → Q (.inl (some (.inl (-1)))) M) (q2 : ∀ i, M 14 a1 + 2 ≤ i → i < M 14 (a1 + 1) → M 20 (pm_op (M 13 i)) = 0 → Q (.inl (some (.inl i))) M) :
    pm_X L (49, 0, [some (.inr (.inl 4)), some (.inl a1), none], [], M) Q :=
  s_49_0 ⟨⟨h0, by omega⟩, by unfold pm_R; omega, p_49l h0 h1 hs hl hs0 _ _ (Nat.le_refl _) (Int.le_refl _) (fun i b1 b2 => by omega) q1 q2⟩
