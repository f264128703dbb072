/-! PURE: collectHints, the checker -/
/-- the hints: h of them, the x-th the clause that forced the literal at ih x -/
def HI (M1 M : pm_M) (a h : Int) (ih : Int → Int) : Prop :=
  (∀ x, 0 ≤ x → x < h → (0 ≤ ih x ∧ ih x < a) ∧ M1 21 (M1 22 (ih x)) ≠ -1 ∧ M1 18 (M1 22 (ih x) / 2) = 1 ∧ M 19 x = M1 21 (M1 22 (ih x))) ∧ (∀ x y, 0 ≤ x → x < y → y < h → ih x < ih y) ∧
  (∀ i, 0 ≤ i → i < a → M1 21 (M1 22 i) ≠ -1 → M1 18 (M1 22 i / 2) = 1 → ∃ x, 0 ≤ x ∧ x < h ∧ ih x = i)
theorem p_55l {L : Nat} {Q : pm_P} {M1 : pm_M} {a1 : Int} (hn : 0 ≤ M1 5 4 ∧ M1 5 4 ≤ 1999) (hO : ∀ i, 0 ≤ i → i < M1 5 4 → 2 ≤ M1 22 i ∧ M1 22 i < 4000) (hinj : ∀ i j, 0 ≤ i → i < M1 5 4 → 0 ≤ j → j < M1 5 4 → M1 22 i / 2 = M1 22 j / 2 → i = j) (hb : ∀ f, M1 18 f = 0 ∨ M1 18 f = 1) :
    ∀ (n : Nat) (M : pm_M) (a2 : Int) (ih : Int → Int) (o3 : Option pm_V), (M1 5 4 - a2).toNat ≤ n → 0 ≤ a2 → a2 ≤ M1 5 4 → (∀ c, c ≠ 4 → c ≠ 18 → c ≠ 19 → M c = M1 c) → (∀ i, 0 ≤ i → i < a2 → M 18 (M1 22 i / 2) = 0) → (∀ f, (¬ ∃ i, 0 ≤ i ∧ i < a2 ∧ M1 22 i / 2 = f) → M 18 f = M1 18 f) → 0 ≤ M 4 8 → M 4 8 ≤ a2 → HI M1 M a2 (M 4 8) ih →
      (∀ (M' : pm_M) (ih' : Int → Int) (h : Int), (∀ c, c ≠ 4 → c ≠ 18 → c ≠ 19 → M' c = M1 c) → (∀ i, 0 ≤ i → i < M1 5 4 → M' 18 (M1 22 i / 2) = 0) → (∀ f, (¬ ∃ i, 0 ≤ i ∧ i < M1 5 4 ∧ M1 22 i / 2 = f) → M' 18 f = M1 18 f) → 0 ≤ h → h ≤ M1 5 4 → M' 4 8 = h + 1 → M' 19 h = a1 → HI M1 M' (M1 5 4) h ih' → Q (.inl none) M') →
      pm_X L (55, 7, [some (.inr (.inl 4)), some (.inl a1), some (.inl a2), o3], [], M) Q := by
  intro n
  have finish : ∀ (M : pm_M) (a2 : Int) (ih : Int → Int) (o3 : Option pm_V), 0 ≤ a2 → a2 = M1 5 4 → (∀ c, c ≠ 4 → c ≠ 18 → c ≠ 19 → M c = M1 c) → (∀ i, 0 ≤ i → i < a2 → M 18 (M1 22 i / 2) = 0) → (∀ f, (¬ ∃ i, 0 ≤ i ∧ i < a2 ∧ M1 22 i / 2 = f) → M 18 f = M1 18 f) → 0 ≤ M 4 8 → M 4 8 ≤ a2 → HI M1 M a2 (M 4 8) ih →
      (∀ (M' : pm_M) (ih' : Int → Int) (h : Int), (∀ c, c ≠ 4 → c ≠ 18 → c ≠ 19 → M' c = M1 c) → (∀ i, 0 ≤ i → i < M1 5 4 → M' 18 (M1 22 i / 2) = 0) → (∀ f, (¬ ∃ i, 0 ≤ i ∧ i < M1 5 4 ∧ M1 22 i / 2 = f) → M' 18 f = M1 18 f) → 0 ≤ h → h ≤ M1 5 4 → M' 4 8 = h + 1 → M' 19 h = a1 → HI M1 M' (M1 5 4) h ih' → Q (.inl none) M') →
      pm_X L (55, 7, [some (.inr (.inl 4)), some (.inl a1), some (.inl a2), o3], [], M) Q := by
    intro M a2 ih o3 h0 e hc h18 h18' h48 h48' hH hq
    subst e
    have e5 : M 5 = M1 5 := hc 5 (by decide) (by decide) (by decide)
    refine s_55_7 ⟨fun _ => ⟨⟨h48, by omega⟩, by unfold pm_R; omega, ?_⟩, fun z => absurd (by rw [e5]; omega) z⟩
    have f18 : pm_set (pm_set M 19 (M 4 8) a1) 4 8 (M 4 8 + 1) 18 = M 18 := by rw [pm_set_off 18 (by decide), pm_set_off 18 (by decide)]
    have f19 : pm_set (pm_set M 19 (M 4 8) a1) 4 8 (M 4 8 + 1) 19 = upf (M 19) (M 4 8) a1 := by rw [pm_set_off 19 (by decide), pm_cell, if_pos rfl]
    refine hq _ ih (M 4 8) (fun c c4 c18 c19 => by rw [pm_set_off c c4, pm_set_off c c19]; exact hc c c4 c18 c19) (by rw [f18]; exact h18) (by rw [f18]; exact h18') h48 h48' pm_get_e (by rw [f19, upf_e]) ?_
    refine ⟨fun x x0 x1 => ?_, hH.2⟩
    rw [f19, upf_n _ _ (by omega)]
    exact hH.1 x x0 x1
  induction n with
  | zero => intro M a2 ih o3 hm h0 h1; exact finish M a2 ih o3 h0 (by omega)
  | succ n IH =>
    intro M a2 ih o3 hm h0 h1 hc h18 h18' h48 h48' hH hq
    by_cases he : a2 = M1 5 4
    · exact finish M a2 ih o3 h0 he hc h18 h18' h48 h48' hH hq
    have e5 : M 5 = M1 5 := hc 5 (by decide) (by decide) (by decide)
    have e21 : M 21 = M1 21 := hc 21 (by decide) (by decide) (by decide)
    have e22 : M 22 = M1 22 := hc 22 (by decide) (by decide) (by decide)
    have hoi := hO a2 h0 (by omega)
    have h18a : M 18 (M1 22 a2 / 2) = M1 18 (M1 22 a2 / 2) := h18' _ (fun ⟨i, i0, i1, i2⟩ => by have := hinj i a2 i0 (by omega) h0 (by omega) i2; omega)
    -- clearing the mark of a2
    have clr : ∀ (M2 : pm_M), M2 18 = M 18 → (∀ i, 0 ≤ i → i < a2 + 1 → pm_set M2 18 (M1 22 a2 / 2) 0 18 (M1 22 i / 2) = 0) ∧ (∀ f, (¬ ∃ i, 0 ≤ i ∧ i < a2 + 1 ∧ M1 22 i / 2 = f) → pm_set M2 18 (M1 22 a2 / 2) 0 18 f = M1 18 f) := by
      intro M2 e
      refine ⟨fun i i0 i1 => ?_, fun f hf => ?_⟩
      · by_cases z : M1 22 i / 2 = M1 22 a2 / 2
        · rw [z]; exact pm_get_e
        · rw [pm_get_j z rfl, e]
          rcases (by omega : i < a2 ∨ i = a2) with q | q
          · exact h18 i i0 q
          · exact absurd (by rw [q]) z
      · rw [pm_get_j (fun z => hf ⟨a2, h0, by omega, z.symm⟩) rfl, e]
        exact h18' f (fun ⟨i, i0, i1, i2⟩ => hf ⟨i, i0, by omega, i2⟩)
    refine s_55_7 ⟨fun z => by rw [e5] at z; omega, fun _ => ⟨⟨h0, by omega⟩, by rw [e22]; exact ⟨by omega, by omega⟩, fun z => ⟨by unfold pm_R; omega, ?_⟩, fun z => ⟨by rw [e22]; exact ⟨by omega, by omega⟩, fun y => ⟨by unfold pm_R; omega, ?_⟩, fun y => ⟨⟨h48, by omega⟩, by unfold pm_R; omega, by unfold pm_R; omega, ?_⟩⟩⟩⟩
    · rw [e22] at z ⊢
      obtain ⟨c1, c2⟩ := clr M rfl
      have g4 : pm_set M 18 (M1 22 a2 / 2) 0 4 = M 4 := pm_set_off 4 (by decide)
      have g19 : pm_set M 18 (M1 22 a2 / 2) 0 19 = M 19 := pm_set_off 19 (by decide)
      refine IH _ _ ih _ (by omega) (by omega) (by omega) (fun c c4 c18 c19 => by rw [pm_set_off c c18]; exact hc c c4 c18 c19) c1 c2 (by rw [g4]; exact h48) (by rw [g4]; omega) ?_ hq
      rw [g4]
      refine ⟨fun x x0 x1 => ?_, hH.2.1, fun i i0 i1 i2 i3 => ?_⟩
      · rw [g19]; obtain ⟨q1, q2⟩ := hH.1 x x0 x1; exact ⟨⟨q1.1, by omega⟩, q2⟩
      · rcases (by omega : i < a2 ∨ i = a2) with q | q
        · exact hH.2.2 i i0 q i2 i3
        · subst q; rw [← h18a, z] at i3; exact absurd i3 (by decide)
    · rw [e22] at z y ⊢
      rw [e21] at y
      obtain ⟨c1, c2⟩ := clr M rfl
      have g4 : pm_set M 18 (M1 22 a2 / 2) 0 4 = M 4 := pm_set_off 4 (by decide)
      have g19 : pm_set M 18 (M1 22 a2 / 2) 0 19 = M 19 := pm_set_off 19 (by decide)
      refine IH _ _ ih _ (by omega) (by omega) (by omega) (fun c c4 c18 c19 => by rw [pm_set_off c c18]; exact hc c c4 c18 c19) c1 c2 (by rw [g4]; exact h48) (by rw [g4]; omega) ?_ hq
      rw [g4]
      refine ⟨fun x x0 x1 => ?_, hH.2.1, fun i i0 i1 i2 i3 => ?_⟩
      · rw [g19]; obtain ⟨q1, q2⟩ := hH.1 x x0 x1; exact ⟨⟨q1.1, by omega⟩, q2⟩
      · rcases (by omega : i < a2 ∨ i = a2) with q | q
        · exact hH.2.2 i i0 q i2 i3
        · subst q; exact absurd y i2
    · rw [e22] at z y ⊢
      rw [e21] at y ⊢
      obtain ⟨c1, c2⟩ := clr (pm_set (pm_set M 19 (M 4 8) (M1 21 (M1 22 a2))) 4 8 (M 4 8 + 1)) (by rw [pm_set_off 18 (by decide), pm_set_off 18 (by decide)])
      have g48 : pm_set (pm_set (pm_set M 19 (M 4 8) (M1 21 (M1 22 a2))) 4 8 (M 4 8 + 1)) 18 (M1 22 a2 / 2) 0 4 8 = M 4 8 + 1 := by rw [pm_set_off 4 (by decide), pm_get_e]
      have g19 : pm_set (pm_set (pm_set M 19 (M 4 8) (M1 21 (M1 22 a2))) 4 8 (M 4 8 + 1)) 18 (M1 22 a2 / 2) 0 19 = upf (M 19) (M 4 8) (M1 21 (M1 22 a2)) := by rw [pm_set_off 19 (by decide), pm_set_off 19 (by decide), pm_cell, if_pos rfl]
      have hz : M1 18 (M1 22 a2 / 2) = 1 := by rw [← h18a]; exact (hb (M1 22 a2 / 2)).elim (fun q => absurd (h18a.trans q) z) (fun q => h18a.trans q)
      refine IH _ _ (upf ih (M 4 8) a2) _ (by omega) (by omega) (by omega) (fun c c4 c18 c19 => by rw [pm_set_off c c18, pm_set_off c c4, pm_set_off c c19]; exact hc c c4 c18 c19) c1 c2 (by rw [g48]; omega) (by rw [g48]; omega) ?_ hq
      rw [g48]
      unfold HI
      rw [g19]
      refine ⟨fun x x0 x1 => ?_, fun x y' x0 x1 x2 => ?_, fun i i0 i1 i2 i3 => ?_⟩
      · rcases (by omega : x < M 4 8 ∨ x = M 4 8) with q | q
        · rw [upf_n ih _ (by omega), upf_n _ _ (by omega)]
          obtain ⟨q1, q2⟩ := hH.1 x x0 q
          exact ⟨⟨q1.1, by omega⟩, q2⟩
        · rw [q, upf_e, upf_e]
          exact ⟨⟨h0, by omega⟩, y, hz, rfl⟩
      · rcases (by omega : y' < M 4 8 ∨ y' = M 4 8) with q | q
        · rw [upf_n _ _ (by omega), upf_n _ _ (by omega)]; exact hH.2.1 x y' x0 x1 q
        · rw [q, upf_e, upf_n _ _ (by omega)]
          exact (hH.1 x x0 (by omega)).1.2
      · rcases (by omega : i < a2 ∨ i = a2) with q | q
        · obtain ⟨x, x0, x1, x2⟩ := hH.2.2 i i0 q i2 i3
          exact ⟨x, x0, by omega, by rw [upf_n _ _ (by omega)]; exact x2⟩
        · exact ⟨M 4 8, h48, by omega, by rw [upf_e, q]⟩
/-- literalLeft: all fail; or one is left -/
theorem p_41a {L : Nat} {Q : pm_P} {M : pm_M} {a1 : Int} (h0 : 0 ≤ a1) (h1 : a1 + 1 < 16117) (hs : M 14 (a1 + 1) ≤ 85212) (hl : ∀ i, M 14 a1 ≤ i → i < M 14 (a1 + 1) → 0 ≤ M 13 i ∧ M 13 i < 4000) (hs0 : 0 ≤ M 14 a1) (hf : ∀ i, M 14 a1 ≤ i → i < M 14 (a1 + 1) → M 15 (M 13 i) = M 3 2) (hq : Q (.inl (some (.inl (-1)))) M) :
    ∀ (n : Nat) (a3 : Int), (M 14 (a1 + 1) - a3).toNat ≤ n → M 14 a1 ≤ a3 → pm_X L (41, 12, [some (.inr (.inl 3)), some (.inl a1), some (.inl (-1)), some (.inl a3)], [], M) Q := by
  intro n
  induction n with
  | zero => intro a3 hn h2; exact s_41_12 ⟨by unfold pm_R; omega, ⟨by omega, h1⟩, fun _ => hq, fun c => by omega⟩
  | succ n ih =>
    intro a3 hn h2
    refine s_41_12 ⟨by unfold pm_R; omega, ⟨by omega, h1⟩, fun _ => hq, fun c => ⟨⟨by omega, by omega⟩, hl a3 h2 (by omega), fun _ => ⟨by unfold pm_R; omega, ih _ (by omega) (by omega)⟩, fun z => absurd (hf a3 h2 (by omega)) z⟩⟩
theorem p_41b {L : Nat} {Q : pm_P} {M : pm_M} {a1 i0 : Int} (h0 : 0 ≤ a1) (h1 : a1 + 1 < 16117) (hs : M 14 (a1 + 1) ≤ 85212) (hl : ∀ i, M 14 a1 ≤ i → i < M 14 (a1 + 1) → 0 ≤ M 13 i ∧ M 13 i < 4000) (hs0 : 0 ≤ M 14 a1) (b0 : M 14 a1 ≤ i0) (b1 : i0 < M 14 (a1 + 1)) (hf : ∀ i, M 14 a1 ≤ i → i < M 14 (a1 + 1) → i ≠ i0 → M 15 (M 13 i) = M 3 2) (hn0 : M 15 (M 13 i0) ≠ M 3 2) (hq : Q (.inl (some (.inl (M 13 i0)))) M) :
    ∀ (n : Nat) (a2 a3 : Int), (M 14 (a1 + 1) - a3).toNat ≤ n → M 14 a1 ≤ a3 → (a3 ≤ i0 → a2 = -1) → (i0 < a3 → a2 = M 13 i0) → pm_X L (41, 12, [some (.inr (.inl 3)), some (.inl a1), some (.inl a2), some (.inl a3)], [], M) Q := by
  intro n
  induction n with
  | zero => intro a2 a3 hn h2 h3 h4; exact s_41_12 ⟨by unfold pm_R; omega, ⟨by omega, h1⟩, fun _ => by rw [h4 (by omega)]; exact hq, fun c => by omega⟩
  | succ n ih =>
    intro a2 a3 hn h2 h3 h4
    refine s_41_12 ⟨by unfold pm_R; omega, ⟨by omega, h1⟩, fun _ => by rw [h4 (by omega)]; exact hq, fun c => ⟨⟨by omega, by omega⟩, hl a3 h2 (by omega), fun y => ⟨by unfold pm_R; omega, ?_⟩, fun y => ?_⟩⟩
    · refine ih _ _ (by omega) (by omega) (fun z => h3 (by omega)) (fun z => h4 ?_)
      rcases (by omega : i0 = a3 ∨ i0 < a3) with q | q
      · subst q; exact absurd y hn0
      · exact q
    · have e : a3 = i0 := Classical.byContradiction (fun z => y (hf a3 h2 (by omega) z))
      subst e
      exact ⟨fun z => absurd (h3 (Int.le_refl _)) z, fun _ => ⟨by unfold pm_R; omega, ih _ _ (by omega) (by omega) (fun z => by omega) (fun _ => rfl)⟩⟩
