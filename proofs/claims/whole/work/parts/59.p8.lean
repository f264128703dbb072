/-! PURE: the checker goes through a lesson -/
/-- a row of the clauses lies within bounds -/
def RB (M : pm_M) (c : Int) : Prop := 0 ≤ c ∧ c + 1 < 16117 ∧ 0 ≤ M 14 c ∧ M 14 c ≤ 85212 ∧ M 14 (c + 1) ≤ 85212 ∧ ∀ i, M 14 c ≤ i → i < M 14 (c + 1) → 0 ≤ M 13 i ∧ M 13 i < 4000
/-- what fails before the hint x: the lesson's literals, and the opposites of what the hints before it forced -/
def FL (M : pm_M) (T : Int) (g : Int → Int) (x l : Int) : Prop := inC (M 13) (M 14) T l ∨ ∃ y, 0 ≤ y ∧ y < x ∧ l = pm_op (g y)
/-- the hints do what they are for -/
def HK (M : pm_M) (T h : Int) (g : Int → Int) : Prop :=
  (∀ x, 0 ≤ x → x ≤ h → RB M (M 19 x) ∧ M 19 x < M 3 3) ∧
  (∀ x, 0 ≤ x → x < h → (0 ≤ g x ∧ g x < 4000) ∧ ¬ FL M T g x (g x) ∧ ∃ i0, M 14 (M 19 x) ≤ i0 ∧ i0 < M 14 (M 19 x + 1) ∧ M 13 i0 = g x ∧ ∀ i, M 14 (M 19 x) ≤ i → i < M 14 (M 19 x + 1) → i ≠ i0 → FL M T g x (M 13 i)) ∧
  (∀ i, M 14 (M 19 h) ≤ i → i < M 14 (M 19 h + 1) → FL M T g h (M 13 i))
theorem p_40a {L : Nat} {Q : pm_P} {a1 a3 : Int} : ∀ (n : Nat) (M : pm_M) (a4 : Int), (M 14 (a1 + 1) - a4).toNat ≤ n → M 14 a1 ≤ a4 → RB M a1 → (∀ l, M 15 l ≤ M 3 2) →
    (∀ M' : pm_M, (∀ c, c ≠ 15 → M' c = M c) → (∀ l, M' 15 l ≤ M 3 2) → (∀ l, M' 15 l = M 3 2 ↔ (M 15 l = M 3 2 ∨ ∃ i, a4 ≤ i ∧ i < M 14 (a1 + 1) ∧ M 13 i = l)) → pm_X L (40, 65, [some (.inr (.inl 3)), some (.inl a1), some (.inr (.inl 19)), some (.inl a3), some (.inl 0), none], [], M') Q) →
    pm_X L (40, 21, [some (.inr (.inl 3)), some (.inl a1), some (.inr (.inl 19)), some (.inl a3), some (.inl a4), none], [], M) Q := by
  intro n
  induction n with
  | zero =>
    intro M a4 hn h2 hR h5 hq
    obtain ⟨r0, r1, r2, r3, r4, r5⟩ := hR
    exact s_40_21 ⟨by unfold pm_R; omega, ⟨by omega, r1⟩, fun _ => hq M (fun _ _ => rfl) h5 (fun l => ⟨Or.inl, fun z => z.elim id (fun ⟨i, i0, i1, _⟩ => by omega)⟩), fun c => by omega⟩
  | succ n ih =>
    intro M a4 hn h2 hR h5 hq
    have hR0 := hR
    obtain ⟨r0, r1, r2, r3, r4, r5⟩ := hR
    refine s_40_21 ⟨by unfold pm_R; omega, ⟨by omega, r1⟩, fun _ => hq M (fun _ _ => rfl) h5 (fun l => ⟨Or.inl, fun z => z.elim id (fun ⟨i, i0, i1, _⟩ => by omega)⟩), fun c => ⟨⟨by omega, by omega⟩, r5 a4 h2 (by omega), by unfold pm_R; omega, ?_⟩⟩
    have e13 : pm_set M 15 (M 13 a4) (M 3 2) 13 = M 13 := pm_set_off 13 (by decide)
    have e14 : pm_set M 15 (M 13 a4) (M 3 2) 14 = M 14 := pm_set_off 14 (by decide)
    have e3 : pm_set M 15 (M 13 a4) (M 3 2) 3 = M 3 := pm_set_off 3 (by decide)
    have e15 : pm_set M 15 (M 13 a4) (M 3 2) 15 = upf (M 15) (M 13 a4) (M 3 2) := by rw [pm_cell, if_pos rfl]
    refine ih _ _ (by rw [e14]; omega) (by rw [e14]; omega) (by unfold RB; rw [e13, e14]; exact hR0) (by
      rw [e15, e3]
      intro l
      unfold upf
      split
      · exact Int.le_refl _
      · exact h5 l) ?_
    rw [e13, e14, e3, e15]
    intro M' q1 q2 q3
    refine hq M' (fun c hc => by rw [q1 c hc]; exact pm_set_off c hc) q2 (fun l => ?_)
    rw [q3 l]
    constructor
    · rintro (z | ⟨i, i0, i1, i2⟩)
      · by_cases e : l = M 13 a4
        · exact Or.inr ⟨a4, Int.le_refl _, by omega, e.symm⟩
        · rw [upf_n _ _ e] at z; exact Or.inl z
      · exact Or.inr ⟨i, by omega, i1, i2⟩
    · rintro (z | ⟨i, i0, i1, i2⟩)
      · by_cases e : l = M 13 a4
        · rw [e, upf_e]; exact Or.inl rfl
        · rw [upf_n _ _ e]; exact Or.inl z
      · rcases (by omega : i = a4 ∨ a4 + 1 ≤ i) with q | q
        · subst q; rw [← i2, upf_e]; exact Or.inl rfl
        · exact Or.inr ⟨i, q, i1, i2⟩
theorem p_40b {L : Nat} {Q : pm_P} {M0 : pm_M} {a1 h : Int} {g : Int → Int} (hh : 0 ≤ h ∧ h ≤ 2000) (hH : HK M0 a1 h g) : ∀ (n : Nat) (M : pm_M) (a4 : Int) (o5 : Option pm_V), (h - a4).toNat ≤ n → 0 ≤ a4 → a4 ≤ h → (∀ c, c ≠ 15 → c ≠ 3 → M c = M0 c) → M 3 3 = M0 3 3 → M 3 4 = M0 3 4 → (∀ l, M 15 l ≤ M 3 2) → (∀ l, M 15 l = M 3 2 ↔ FL M0 a1 g a4 l) →
    (∀ M' : pm_M, (∀ c, c ≠ 15 → c ≠ 3 → M' c = M0 c) → M' 3 2 = M 3 2 → M' 3 3 = M0 3 3 → M' 3 4 = M0 3 4 → (∀ l, M' 15 l ≤ M' 3 2) → Q (.inl (some (.inl 1))) M') →
    pm_X L (40, 65, [some (.inr (.inl 3)), some (.inl a1), some (.inr (.inl 19)), some (.inl (h + 1)), some (.inl a4), o5], [], M) Q := by
  obtain ⟨k1, k2, k3⟩ := hH
  intro n
  have step : ∀ (M : pm_M) (a4 : Int) (o5 : Option pm_V), 0 ≤ a4 → a4 ≤ h → (∀ c, c ≠ 15 → c ≠ 3 → M c = M0 c) → M 3 3 = M0 3 3 → M 3 4 = M0 3 4 → (∀ l, M 15 l ≤ M 3 2) → (∀ l, M 15 l = M 3 2 ↔ FL M0 a1 g a4 l) →
      (a4 < h → ∀ o5' : Option pm_V, pm_X L (40, 65, [some (.inr (.inl 3)), some (.inl a1), some (.inr (.inl 19)), some (.inl (h + 1)), some (.inl (a4 + 1)), o5'], [], pm_set M 15 (pm_op (g a4)) (M 3 2)) Q) → (a4 = h → Q (.inl (some (.inl 1))) M) →
      pm_X L (40, 65, [some (.inr (.inl 3)), some (.inl a1), some (.inr (.inl 19)), some (.inl (h + 1)), some (.inl a4), o5], [], M) Q := by
    intro M a4 o5 h0 h1 hc h33 h34 h15 hF hs he
    have e13 : M 13 = M0 13 := hc 13 (by decide) (by decide)
    have e14 : M 14 = M0 14 := hc 14 (by decide) (by decide)
    have e19 : M 19 = M0 19 := hc 19 (by decide) (by decide)
    obtain ⟨⟨r0, r1, r2, r3, r4, r5⟩, rt⟩ := k1 a4 h0 h1
    refine s_40_65 ⟨fun z => by omega, fun _ => ⟨⟨h0, by omega⟩, fun z => by rw [e19] at z; omega, fun _ => ⟨fun _ => ?_, fun z => absurd (by rw [e19, h33]; exact rt) z⟩⟩⟩
    rw [e19]
    refine s_41_0 ⟨⟨r0, by omega⟩, ?_⟩
    rcases (by omega : a4 < h ∨ a4 = h) with q | q
    · obtain ⟨g0, g1, i0, i1, i2, i3, i4⟩ := k2 a4 h0 q
      refine p_41b (i0 := i0) r0 r1 (by rw [e14]; exact r4) (by rw [e13, e14]; exact r5) (by rw [e14]; exact r2) (by rw [e14]; exact i1) (by rw [e14]; exact i2) ?_ ?_ (x_bki rfl (s_40_99 ?_)) _ (-1) _ (Nat.le_refl _) (Int.le_refl _) (fun _ => rfl) (fun z => by rw [e14] at z; omega)
      · rw [e13, e14]
        exact fun i a b c => (hF _).mpr (i4 i a b c)
      · rw [e13, i3]
        exact fun z => g1 ((hF _).mp z)
      · rw [e13, i3]
        exact ⟨fun _ => ⟨⟨op_lo g0.1, op_hi (n := 2000) (by omega)⟩, by unfold pm_R; omega, hs q _⟩, fun z => absurd g0.1 z⟩
    · subst q
      refine p_41a r0 r1 (by rw [e14]; exact r4) (by rw [e13, e14]; exact r5) (by rw [e14]; exact r2) ?_ (x_bki rfl (s_40_99 ⟨fun z => by omega, fun _ => ⟨fun z => absurd rfl z, fun _ => he rfl⟩⟩)) _ _ (Nat.le_refl _) (Int.le_refl _)
      rw [e13, e14]
      exact fun i a b => (hF _).mpr (k3 i a b)
  induction n with
  | zero =>
    intro M a4 o5 hn h0 h1 hc h33 h34 h15 hF hq
    exact step M a4 o5 h0 h1 hc h33 h34 h15 hF (fun z => by omega) (fun _ => hq M hc rfl h33 h34 h15)
  | succ n ih =>
    intro M a4 o5 hn h0 h1 hc h33 h34 h15 hF hq
    refine step M a4 o5 h0 h1 hc h33 h34 h15 hF (fun z o5' => ?_) (fun _ => hq M hc rfl h33 h34 h15)
    have e3 : pm_set M 15 (pm_op (g a4)) (M 3 2) 3 = M 3 := pm_set_off 3 (by decide)
    have e15 : pm_set M 15 (pm_op (g a4)) (M 3 2) 15 = upf (M 15) (pm_op (g a4)) (M 3 2) := by rw [pm_cell, if_pos rfl]
    refine ih _ _ _ (by omega) (by omega) (by omega) (fun c c15 c3 => by rw [pm_set_off c c15]; exact hc c c15 c3) (by rw [e3]; exact h33) (by rw [e3]; exact h34) ?_ ?_ (by rw [e3]; exact hq)
    · rw [e15, e3]
      intro l
      unfold upf
      split
      · exact Int.le_refl _
      · exact h15 l
    · rw [e15, e3]
      intro l
      by_cases e : l = pm_op (g a4)
      · rw [e, upf_e]
        exact ⟨fun _ => Or.inr ⟨a4, h0, by omega, rfl⟩, fun _ => rfl⟩
      · rw [upf_n _ _ e, hF l]
        constructor
        · rintro (w | ⟨y, y0, y1, y2⟩)
          · exact Or.inl w
          · exact Or.inr ⟨y, y0, by omega, y2⟩
        · rintro (w | ⟨y, y0, y1, y2⟩)
          · exact Or.inl w
          · rcases (by omega : y < a4 ∨ y = a4) with q | q
            · exact Or.inr ⟨y, y0, q, y2⟩
            · rw [q] at y2; exact absurd y2 e
theorem p_40 {L : Nat} {Q : pm_P} {M : pm_M} {a1 h : Int} {g : Int → Int} (hR : RB M a1) (hst : 0 ≤ M 3 2 ∧ M 3 2 + 1 ≤ 2147483647) (h15 : ∀ l, M 15 l ≤ M 3 2) (hh : 0 ≤ h ∧ h ≤ 2000) (hH : HK M a1 h g)
    (hq : ∀ M' : pm_M, (∀ c, c ≠ 15 → c ≠ 3 → M' c = M c) → M' 3 2 = M 3 2 + 1 → M' 3 3 = M 3 3 → M' 3 4 = M 3 4 → (∀ l, M' 15 l ≤ M' 3 2) → Q (.inl (some (.inl 1))) M') :
    pm_X L (40, 0, [some (.inr (.inl 3)), some (.inl a1), some (.inr (.inl 19)), some (.inl (h + 1)), none, none], [], M) Q := by
  have hR0 := hR
  obtain ⟨r0, r1, r2, r3, r4, r5⟩ := hR
  refine s_40_0 ⟨by unfold pm_R; omega, ⟨r0, by omega⟩, ?_⟩
  have e13 : pm_set M 3 2 (M 3 2 + 1) 13 = M 13 := pm_set_off 13 (by decide)
  have e14 : pm_set M 3 2 (M 3 2 + 1) 14 = M 14 := pm_set_off 14 (by decide)
  have e15 : pm_set M 3 2 (M 3 2 + 1) 15 = M 15 := pm_set_off 15 (by decide)
  have e32 : pm_set M 3 2 (M 3 2 + 1) 3 2 = M 3 2 + 1 := pm_get_e
  have e33 : pm_set M 3 2 (M 3 2 + 1) 3 3 = M 3 3 := pm_get_j (by decide) rfl
  have e34 : pm_set M 3 2 (M 3 2 + 1) 3 4 = M 3 4 := pm_get_j (by decide) rfl
  refine p_40a _ _ _ (Nat.le_refl _) (by rw [e14]; exact Int.le_refl _) (by unfold RB; rw [e13, e14]; exact hR0) (by rw [e15, e32]; exact fun l => by have := h15 l; omega) ?_
  rw [e13, e14, e15, e32]
  intro M' q1 q2 q3
  have f3 : M' 3 = pm_set M 3 2 (M 3 2 + 1) 3 := q1 3 (by decide)
  have f32 : M' 3 2 = M 3 2 + 1 := by rw [f3]; exact e32
  have f33 : M' 3 3 = M 3 3 := by rw [f3]; exact e33
  have f34 : M' 3 4 = M 3 4 := by rw [f3]; exact e34
  have fc : ∀ c, c ≠ 15 → c ≠ 3 → M' c = M c := fun c c15 c3 => by rw [q1 c c15]; exact pm_set_off c c3
  refine p_40b (M0 := M) hh hH _ M' 0 none (Nat.le_refl _) (Int.le_refl _) hh.1 fc f33 f34 (by rw [f32]; exact q2) ?_ ?_
  · rw [f32]
    intro l
    rw [q3 l]
    constructor
    · rintro (z | ⟨i, i0, i1, i2⟩)
      · have := h15 l; omega
      · exact Or.inl ⟨i, i0, i1, i2⟩
    · rintro (⟨i, i0, i1, i2⟩ | ⟨y, y0, y1, _⟩)
      · exact Or.inr ⟨i, i0, i1, i2⟩
      · omega
  · rw [f32]
    exact hq
/-- goThrough: a lesson whose hints do what they are for is trusted -/
theorem p_39 {L : Nat} {Q : pm_P} {M : pm_M} {a1 h : Int} {g : Int → Int} (ht : a1 = M 3 3) (hR : RB M a1) (hst : 0 ≤ M 3 2 ∧ M 3 2 + 1 ≤ 2147483647) (h15 : ∀ l, M 15 l ≤ M 3 2) (hh : 0 ≤ h ∧ h ≤ 2000) (hH : HK M a1 h g) (hrf : M 3 4 = 0 ∨ M 3 4 = 1) (hsz : M 14 a1 ≤ M 14 (a1 + 1))
    (hq : ∀ M' : pm_M, (∀ c, c ≠ 15 → c ≠ 3 → M' c = M c) → M' 3 2 = M 3 2 + 1 → M' 3 3 = M 3 3 + 1 → (M' 3 4 = 0 ∨ M' 3 4 = 1) → (M 14 (a1 + 1) = M 14 a1 → M' 3 4 = 1) → (∀ l, M' 15 l ≤ M' 3 2) → Q (.inl none) M') :
    pm_X L (39, 0, [some (.inr (.inl 3)), some (.inl a1), some (.inr (.inl 19)), some (.inl (h + 1))], [], M) Q := by
  have hR0 := hR
  obtain ⟨r0, r1, r2, r3, r4, r5⟩ := hR
  refine s_39_0 ⟨fun z => absurd ht z, fun _ => p_40 hR0 hst h15 hh hH (fun M' q1 q2 q3 q4 q5 => x_bki rfl (s_39_15 ⟨fun z => by omega, fun _ => ?_⟩))⟩
  have e14 : M' 14 = M 14 := q1 14 (by decide) (by decide)
  have fin : ∀ b : Int, (b = 0 ∨ b = 1) → (M 14 (a1 + 1) = M 14 a1 → b = 1) → Q (.inl none) (pm_set (pm_set M' 3 3 (M' 3 3 + 1)) 3 4 b) := by
    intro b hb hb2
    have f15 : pm_set (pm_set M' 3 3 (M' 3 3 + 1)) 3 4 b 15 = M' 15 := by rw [pm_set_off 15 (by decide), pm_set_off 15 (by decide)]
    have f2 : pm_set (pm_set M' 3 3 (M' 3 3 + 1)) 3 4 b 3 2 = M' 3 2 := by rw [pm_get_j (by decide) rfl, pm_get_j (by decide) rfl]
    refine hq _ (fun c c15 c3 => by rw [pm_set_off c c3, pm_set_off c c3]; exact q1 c c15 c3) (by rw [f2]; exact q2) (by rw [pm_get_j (by decide) rfl, pm_get_e, q3]) (by rw [pm_get_e]; exact hb) (fun z => by rw [pm_get_e]; exact hb2 z) (by rw [f15, f2]; exact q5)
  refine ⟨by rw [q3]; unfold pm_R; omega, fun _ => fin 1 (Or.inr rfl) (fun _ => rfl), fun _ => ⟨by unfold pm_R; omega, ⟨by omega, r1⟩, ⟨r0, by omega⟩, by rw [e14]; unfold pm_R; omega, fun z => fin 0 (Or.inl rfl) (fun y => ?_), fun _ => fin 1 (Or.inr rfl) (fun _ => rfl)⟩⟩
  rw [e14] at z
  omega
