/-! PURE: inputs taken, a wanted one dropped, formulas worked out -/
theorem p_22l {L : Nat} {Q : pm_P} {M0 : pm_M} (hI : IN M0) (hF : M0 1 6 ≤ 2000) (hb : ∀ l, M0 20 l = 0 ∨ M0 20 l = 1) (hq : ∀ M' : pm_M, (∀ c, c ≠ 10 → M' c = M0 c) → (∀ k, 0 ≤ k → k < M0 1 7 → M' 10 (M0 12 k) = M0 20 (2 * M0 12 k)) → (∀ f, (∀ k, 0 ≤ k → k < M0 1 7 → M0 12 k ≠ f) → M' 10 f = M0 10 f) → Q (.inl none) M') :
    ∀ (n : Nat) (M : pm_M) (a1 : Int) (o2 : Option pm_V), (M0 1 7 - a1).toNat ≤ n → 0 ≤ a1 → a1 ≤ M0 1 7 → (∀ c, c ≠ 10 → M c = M0 c) → (∀ k, 0 ≤ k → k < a1 → M 10 (M0 12 k) = M0 20 (2 * M0 12 k)) → (∀ f, (∀ k, 0 ≤ k → k < M0 1 7 → M0 12 k ≠ f) → M 10 f = M0 10 f) →
    pm_X L (22, 2, [some (.inr (.inl 0)), some (.inl a1), o2], [], M) Q := by
  obtain ⟨hN, hr, hi⟩ := hI
  intro n
  induction n with
  | zero =>
    intro M a1 o2 hn h0 h1 c1 c2 c3
    have e : a1 = M0 1 7 := by omega
    have e1 : M 1 = M0 1 := c1 1 (by decide)
    rw [e] at c2
    exact s_22_2 ⟨fun _ => hq M c1 c2 c3, fun z => by rw [e1] at z; omega⟩
  | succ n ih =>
    intro M a1 o2 hn h0 h1 c1 c2 c3
    have e1 : M 1 = M0 1 := c1 1 (by decide)
    have e12 : M 12 = M0 12 := c1 12 (by decide)
    have e20 : M 20 = M0 20 := c1 20 (by decide)
    rcases (by omega : a1 = M0 1 7 ∨ a1 < M0 1 7) with e | hlt
    · rw [e] at c2
      exact s_22_2 ⟨fun _ => hq M c1 c2 c3, fun z => by rw [e1] at z; omega⟩
    have hk := hr a1 h0 hlt
    refine s_22_2 ⟨fun z => by rw [e1] at z; omega, fun _ => ?_⟩
    rw [e12, e20]
    refine ⟨⟨h0, by omega⟩, by unfold pm_R; omega, ⟨by omega, by omega⟩, hb _, ⟨⟨by omega, by omega⟩, hb _⟩, by unfold pm_R; omega, ?_⟩
    refine ih _ (a1 + 1) _ (by omega) (by omega) (by omega) (fun c hc => by rw [pm_set_off c hc]; exact c1 c hc) (fun k k0 k1 => ?_) (fun f hf => ?_)
    · rcases (by omega : k = a1 ∨ k < a1) with w | w
      · rw [w]; exact pm_get_e
      · rw [pm_get_j (fun z => by have := hi k a1 k0 (by omega) h0 hlt z; omega) rfl]; exact c2 k k0 w
    · rw [pm_get_j (fun z => hf a1 h0 hlt z.symm) rfl]; exact c3 f hf
theorem p_22 {L : Nat} {Q : pm_P} {M : pm_M} (hI : IN M) (hF : M 1 6 ≤ 2000) (hb : ∀ l, M 20 l = 0 ∨ M 20 l = 1) (hq : ∀ M' : pm_M, (∀ c, c ≠ 10 → M' c = M c) → (∀ k, 0 ≤ k → k < M 1 7 → M' 10 (M 12 k) = M 20 (2 * M 12 k)) → (∀ f, (∀ k, 0 ≤ k → k < M 1 7 → M 12 k ≠ f) → M' 10 f = M 10 f) → Q (.inl none) M') :
    pm_X L (22, 0, [some (.inr (.inl 0)), none, none], [], M) Q :=
  s_22_0 (p_22l hI hF hb hq _ M 0 none (Nat.le_refl _) (Int.le_refl _) hI.1.1 (fun _ _ => rfl) (fun k k0 k1 => by omega) (fun _ _ => rfl))
theorem p_23l {L : Nat} {Q : pm_P} {M0 : pm_M} {a1 : Int} (h1 : 0 ≤ a1) (hl : M0 0 5 ≤ 20) (hq : ∀ M' : pm_M, (∀ c, c ≠ 0 → c ≠ 6 → M' c = M0 c) → M' 0 5 = M0 0 5 - 1 → M' 0 6 = M0 0 6 → (∀ i, i < a1 → M' 6 i = M0 6 i) → (∀ i, a1 ≤ i → i < M0 0 5 - 1 → M' 6 i = M0 6 (i + 1)) → Q (.inl none) M') :
    ∀ (n : Nat) (M : pm_M) (a2 : Int), (M0 0 5 - 1 - a2).toNat ≤ n → a1 ≤ a2 → a2 ≤ M0 0 5 - 1 → (∀ c, c ≠ 0 → c ≠ 6 → M c = M0 c) → M 0 5 = M0 0 5 - 1 → M 0 6 = M0 0 6 → (∀ i, i < a1 → M 6 i = M0 6 i) → (∀ i, a1 ≤ i → i < a2 → M 6 i = M0 6 (i + 1)) → (∀ i, a2 ≤ i → M 6 i = M0 6 i) →
    pm_X L (23, 12, [some (.inr (.inl 0)), some (.inl a1), some (.inl a2)], [], M) Q := by
  intro n
  induction n with
  | zero =>
    intro M a2 hn h0 h2 c1 c2 c3 c4 c5 c6
    have e : a2 = M0 0 5 - 1 := by omega
    rw [e] at c5
    exact s_23_12 ⟨fun _ => hq M c1 c2 c3 c4 c5, fun z => by omega⟩
  | succ n ih =>
    intro M a2 hn h0 h2 c1 c2 c3 c4 c5 c6
    rcases (by omega : a2 = M0 0 5 - 1 ∨ a2 < M0 0 5 - 1) with e | hlt
    · rw [e] at c5
      exact s_23_12 ⟨fun _ => hq M c1 c2 c3 c4 c5, fun z => by omega⟩
    refine s_23_12 ⟨fun z => by omega, fun _ => ⟨by unfold pm_R; omega, ⟨by omega, by omega⟩, ⟨by omega, by omega⟩, ?_⟩⟩
    have e0 : pm_set M 6 a2 (M 6 (a2 + 1)) 0 = M 0 := pm_set_off 0 (by decide)
    have e6 : pm_set M 6 a2 (M 6 (a2 + 1)) 6 = upf (M 6) a2 (M 6 (a2 + 1)) := by rw [pm_cell, if_pos rfl]
    refine ih _ (a2 + 1) (by omega) (by omega) (by omega) (fun c c0 c6' => by rw [pm_set_off c c6']; exact c1 c c0 c6') (by rw [e0]; exact c2) (by rw [e0]; exact c3) ?_ ?_ ?_
    · rw [e6]
      exact fun i hi => by rw [upf_n _ _ (by omega)]; exact c4 i hi
    · rw [e6]
      intro i i0 i1
      rcases (by omega : i = a2 ∨ i < a2) with w | w
      · rw [w, upf_e]; exact c6 (a2 + 1) (by omega)
      · rw [upf_n _ _ (by omega)]; exact c5 i i0 w
    · rw [e6]
      exact fun i hi => by rw [upf_n _ _ (by omega)]; exact c6 i (by omega)
theorem p_23 {L : Nat} {Q : pm_P} {M : pm_M} {a1 : Int} (h1 : 0 ≤ a1 ∧ a1 < M 0 5) (hl : M 0 5 ≤ 20) (hq : ∀ M' : pm_M, (∀ c, c ≠ 0 → c ≠ 6 → M' c = M c) → M' 0 5 = M 0 5 - 1 → M' 0 6 = M 0 6 → (∀ i, i < a1 → M' 6 i = M 6 i) → (∀ i, a1 ≤ i → i < M 0 5 - 1 → M' 6 i = M 6 (i + 1)) → Q (.inl none) M') :
    pm_X L (23, 0, [some (.inr (.inl 0)), some (.inl a1), none], [], M) Q := by
  refine s_23_0 ⟨by unfold pm_R; omega, p_23l h1.1 hl hq _ _ a1 (Nat.le_refl _) (Int.le_refl _) (by omega) (fun c c0 _ => pm_set_off c c0) pm_get_e (pm_get_j (by decide) rfl) ?_ (fun i i0 i1 => by omega) ?_⟩
  · rw [show pm_set M 0 5 (M 0 5 - 1) 6 = M 6 from pm_set_off 6 (by decide)]; exact fun _ _ => rfl
  · rw [show pm_set M 0 5 (M 0 5 - 1) 6 = M 6 from pm_set_off 6 (by decide)]; exact fun _ _ => rfl
/-- 1 for true, 0 for false -/
def b01 (b : Bool) : Int := if b = true then 1 else 0
theorem p_27 {L : Nat} {Q : pm_P} {M : pm_M} {V : Int → Bool} {l : Int} (h0 : 0 ≤ l) (h1 : l / 2 < 2000) (hv : M 10 (l / 2) = b01 (V (l / 2))) (hq : Q (.inl (some (.inl (b01 (tv V l))))) M) :
    pm_X L (27, 0, [some (.inr (.inl 1)), some (.inl l)], [], M) Q := by
  have e : tv V l = if l % 2 = 0 then V (l / 2) else !(V (l / 2)) := rfl
  rw [e] at hq
  refine s_27_0 ⟨⟨by omega, h1⟩, fun ho => ?_, fun he => ?_⟩
  · rw [if_neg ho] at hq
    cases hb : V (l / 2) with
    | true =>
      rw [hb] at hv hq
      have hv1 : M 10 (l / 2) = 1 := hv
      exact ⟨fun _ => hq, fun z => by omega⟩
    | false =>
      rw [hb] at hv hq
      have hv1 : M 10 (l / 2) = 0 := hv
      exact ⟨fun z => by omega, fun _ => hq⟩
  · rw [if_pos (Classical.not_not.mp he)] at hq
    cases hb : V (l / 2) with
    | true =>
      rw [hb] at hv hq
      have hv1 : M 10 (l / 2) = 1 := hv
      exact ⟨fun z => by omega, fun _ => hq⟩
    | false =>
      rw [hb] at hv hq
      have hv1 : M 10 (l / 2) = 0 := hv
      exact ⟨fun _ => hq, fun z => by omega⟩
theorem b01_bit (b : Bool) : pm_bit (b01 b) := by cases b <;> unfold pm_bit b01 <;> decide
theorem p_26l {L : Nat} {Q : pm_P} {M0 : pm_M} {V : Int → Bool} {a1 : Int} (hW : CW M0) (hV : GV M0 V) (h1 : 0 ≤ a1 ∧ a1 < M0 1 6) (hin : ∀ f, 0 < f → f < M0 1 6 → M0 7 f = -1 → M0 10 f = b01 (V f))
    (hq : ∀ M' : pm_M, (∀ c, c ≠ 10 → M' c = M0 c) → (∀ f, 0 ≤ f → f ≤ a1 → M' 10 f = b01 (V f)) → (∀ f, (f ≤ 0 ∨ a1 < f ∨ M0 7 f = -1) → M' 10 f = M0 10 f) → Q (.inl (some (.inl (b01 (V a1))))) M') :
    ∀ (n : Nat) (M : pm_M) (a2 : Int), (a1 + 1 - a2).toNat ≤ n → 1 ≤ a2 → a2 ≤ a1 + 1 → (∀ c, c ≠ 10 → M c = M0 c) → (∀ f, 0 ≤ f → f < a2 → M 10 f = b01 (V f)) → (∀ f, (f ≤ 0 ∨ a2 ≤ f ∨ M0 7 f = -1) → M 10 f = M0 10 f) →
    pm_X L (26, 2, [some (.inr (.inl 1)), some (.inl a1), some (.inl a2)], [], M) Q := by
  have hF := hW.1
  have fin : ∀ (M : pm_M) (a2 : Int), a2 = a1 + 1 → (∀ c, c ≠ 10 → M c = M0 c) → (∀ f, 0 ≤ f → f < a2 → M 10 f = b01 (V f)) → (∀ f, (f ≤ 0 ∨ a2 ≤ f ∨ M0 7 f = -1) → M 10 f = M0 10 f) → pm_X L (26, 2, [some (.inr (.inl 1)), some (.inl a1), some (.inl a2)], [], M) Q := by
    intro M a2 e c1 c2 c3
    have hv := c2 a1 h1.1 (by omega)
    refine s_26_2 ⟨fun _ => ⟨⟨h1.1, by omega⟩, by rw [hv]; exact b01_bit _, ?_⟩, fun z => by omega⟩
    rw [hv]
    exact hq M c1 (fun f f0 f1 => c2 f f0 (by omega)) (fun f hf => c3 f (by omega))
  intro n
  induction n with
  | zero =>
    intro M a2 hn h2 h3 c1 c2 c3
    exact fin M a2 (by omega) c1 c2 c3
  | succ n ih =>
    intro M a2 hn h2 h3 c1 c2 c3
    rcases (by omega : a2 = a1 + 1 ∨ a2 ≤ a1) with e | hle
    · exact fin M a2 e c1 c2 c3
    have e7 : M 7 = M0 7 := c1 7 (by decide)
    have e8 : M 8 = M0 8 := c1 8 (by decide)
    have e9 : M 9 = M0 9 := c1 9 (by decide)
    refine s_26_2 ⟨fun z => by omega, fun _ => ⟨⟨by omega, by omega⟩, ?_⟩⟩
    rw [e7]
    refine ⟨fun hi => ⟨by unfold pm_R; omega, ih M (a2 + 1) (by omega) (by omega) (by omega) c1 (fun f f0 f1 => ?_) (fun f hf => c3 f (by omega))⟩, fun hg => ?_⟩
    · rcases (by omega : f = a2 ∨ f < a2) with w | w
      · rw [w, c3 a2 (Or.inr (Or.inl (Int.le_refl _)))]; exact hin a2 (by omega) (by omega) hi
      · exact c2 f f0 w
    · obtain ⟨g7, g8, g9⟩ := hW.2 a2 (by omega) (by omega) hg
      have hval := hV.2 a2 (by omega) (by omega) hg
      have put : ∀ r : Bool, r = V a2 → pm_X L (26, 58, [some (.inr (.inl 1)), some (.inl a1), some (.inl a2)], [.inl (b01 r), .inl a2, .inr (.inl 10)], M) Q := by
        intro r hr
        refine s_26_58 ⟨⟨⟨by omega, by omega⟩, b01_bit r⟩, by unfold pm_R; omega, ih _ (a2 + 1) (by omega) (by omega) (by omega) (fun c hc => by rw [pm_set_off c hc]; exact c1 c hc) (fun f f0 f1 => ?_) (fun f hf => ?_)⟩
        · rcases (by omega : f = a2 ∨ f < a2) with w | w
          · rw [w, ← hr]; exact pm_get_e
          · rw [pm_get_j (by omega) rfl]; exact c2 f f0 w
        · rw [pm_get_j (fun z => by rw [z] at hf; rcases hf with w | w | w; omega; omega; exact hg w) rfl]
          exact c3 f (by omega)
      refine p_27 (V := V) g7.1 (by omega) (c2 _ (by omega) g7.2) (x_bki rfl (s_26_32 ⟨fun z => ⟨⟨by omega, by omega⟩, ?_⟩, fun z => ⟨⟨by omega, by omega⟩, ?_⟩⟩))
      · have hf : tv V (M0 7 a2) = false := by
          cases h : tv V (M0 7 a2) with
          | false => rfl
          | true => rw [h] at z; exact absurd z (by unfold b01; decide)
        rw [e9]
        refine p_27 (V := V) g9.1 (by omega) (c2 _ (by omega) g9.2) (x_bki rfl (put _ ?_))
        rw [hval, if_neg (by rw [hf]; decide)]
      · have hf : tv V (M0 7 a2) = true := by
          cases h : tv V (M0 7 a2) with
          | true => rfl
          | false => rw [h] at z; exact absurd (by unfold b01; decide) z
        rw [e8]
        refine p_27 (V := V) g8.1 (by omega) (c2 _ (by omega) g8.2) (x_bki rfl (s_26_45 (put _ ?_)))
        rw [hval, if_pos hf]
theorem p_26 {L : Nat} {Q : pm_P} {M : pm_M} {V : Int → Bool} {a1 : Int} (hW : CW M) (hV : GV M V) (h1 : 0 ≤ a1 ∧ a1 < M 1 6) (h0 : M 10 0 = 0) (hin : ∀ f, 0 < f → f < M 1 6 → M 7 f = -1 → M 10 f = b01 (V f))
    (hq : ∀ M' : pm_M, (∀ c, c ≠ 10 → M' c = M c) → (∀ f, 0 ≤ f → f ≤ a1 → M' 10 f = b01 (V f)) → (∀ f, (f ≤ 0 ∨ a1 < f ∨ M 7 f = -1) → M' 10 f = M 10 f) → Q (.inl (some (.inl (b01 (V a1))))) M') :
    pm_X L (26, 0, [some (.inr (.inl 1)), some (.inl a1), none], [], M) Q :=
  s_26_0 (p_26l hW hV h1 hin hq _ M 1 (Nat.le_refl _) (Int.le_refl _) (by omega) (fun _ _ => rfl) (fun f f0 f1 => by rw [show f = 0 by omega, h0, hV.1]; rfl) (fun _ _ => rfl))
