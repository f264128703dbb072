/-! PURE: the reference works formulas out -/
/-- a formula of the class and the same formula of the reference -/
def KD (M : pm_M) (f : Int) : Prop :=
  (M 25 f = 0 ∧ f = 0) ∨
  (M 25 f = 1 ∧ 0 < f ∧ M 7 f = -1 ∧ (0 ≤ M 26 f ∧ M 26 f < M 1 7) ∧ M 12 (M 26 f) = f) ∨
  (M 25 f = 2 ∧ 0 < f ∧ (0 ≤ M 26 f ∧ M 26 f < f) ∧ M 7 f = 2 * M 26 f ∧ M 8 f = 0 ∧ M 9 f = 1) ∨
  (M 25 f = 3 ∧ 0 < f ∧ (0 ≤ M 26 f ∧ M 26 f < f) ∧ (0 ≤ M 27 f ∧ M 27 f < f) ∧ M 7 f = 2 * M 26 f ∧ M 8 f = 2 * M 27 f ∧ M 9 f = 0) ∨
  (M 25 f = 4 ∧ 0 < f ∧ (0 ≤ M 26 f ∧ M 26 f < f) ∧ (0 ≤ M 27 f ∧ M 27 f < f) ∧ M 7 f = 2 * M 26 f ∧ M 8 f = 1 ∧ M 9 f = 2 * M 27 f) ∨
  (M 25 f = 5 ∧ 0 < f ∧ (0 ≤ M 26 f ∧ M 26 f < f) ∧ (0 ≤ M 27 f ∧ M 27 f < f) ∧ M 7 f = 2 * M 26 f ∧ M 8 f = pm_op (2 * M 27 f) ∧ M 9 f = 2 * M 27 f) ∨
  (M 25 f = 6 ∧ 0 < f ∧ (0 ≤ M 26 f ∧ M 26 f < f) ∧ (0 ≤ M 27 f ∧ M 27 f < f) ∧ (0 ≤ M 28 f ∧ M 28 f < f) ∧ M 7 f = 2 * M 26 f ∧ M 8 f = 2 * M 27 f ∧ M 9 f = 2 * M 28 f)
theorem b01_0 {b : Bool} : b01 b = 0 ↔ b = false := by cases b <;> unfold b01 <;> decide
theorem b01_n {b : Bool} : ¬ b01 b = 0 ↔ b = true := by cases b <;> unfold b01 <;> decide
theorem b01_i {a b : Bool} : b01 a = b01 b ↔ a = b := by cases a <;> cases b <;> unfold b01 <;> decide
theorem p_73l {L : Nat} {Q : pm_P} {M0 : pm_M} {V : Int → Bool} (hF : 1 ≤ M0 1 6 ∧ M0 1 6 ≤ 2000) (hN : M0 1 7 ≤ 12) (hn : M0 24 1 = M0 1 6) (hK : ∀ f, 0 ≤ f → f < M0 1 6 → KD M0 f) (hV : GV M0 V) (hin : ∀ k, 0 ≤ k → k < M0 1 7 → M0 30 k = b01 (V (M0 12 k)))
    (hq : ∀ M' : pm_M, (∀ c, c ≠ 32 → M' c = M0 c) → (∀ f, 0 ≤ f → f < M0 1 6 → M' 32 f = b01 (V f)) → Q (.inl none) M') :
    ∀ (n : Nat) (M : pm_M) (a1 : Int), (M0 1 6 - a1).toNat ≤ n → 0 ≤ a1 → a1 ≤ M0 1 6 → (∀ c, c ≠ 32 → M c = M0 c) → (∀ f, 0 ≤ f → f < a1 → M 32 f = b01 (V f)) →
    pm_X L (73, 2, [some (.inr (.inl 24)), some (.inl a1)], [], M) Q := by
  have fin : ∀ (M : pm_M) (a1 : Int), a1 = M0 1 6 → (∀ c, c ≠ 32 → M c = M0 c) → (∀ f, 0 ≤ f → f < a1 → M 32 f = b01 (V f)) → pm_X L (73, 2, [some (.inr (.inl 24)), some (.inl a1)], [], M) Q := by
    intro M a1 e c1 c2
    have e24 : M 24 = M0 24 := c1 24 (by decide)
    refine s_73_2 ⟨fun _ => hq M c1 (fun f f0 f1 => c2 f f0 (by omega)), fun z => by rw [e24, hn] at z; omega⟩
  intro n
  induction n with
  | zero =>
    intro M a1 hm h0 h1 c1 c2
    exact fin M a1 (by omega) c1 c2
  | succ n ih =>
    intro M a1 hm h0 h1 c1 c2
    rcases (by omega : a1 = M0 1 6 ∨ a1 < M0 1 6) with e | hlt
    · exact fin M a1 e c1 c2
    have e24 : M 24 = M0 24 := c1 24 (by decide)
    have e25 : M 25 = M0 25 := c1 25 (by decide)
    have e26 : M 26 = M0 26 := c1 26 (by decide)
    have e27 : M 27 = M0 27 := c1 27 (by decide)
    have e28 : M 28 = M0 28 := c1 28 (by decide)
    have e30 : M 30 = M0 30 := c1 30 (by decide)
    have next : ∀ x : Int, x = b01 (V a1) → pm_R (a1 + 1) ∧ pm_X L (73, 2, [some (.inr (.inl 24)), some (.inl (a1 + 1))], [], pm_set M 32 a1 x) Q := by
      intro x hx
      refine ⟨by unfold pm_R; omega, ih _ (a1 + 1) (by omega) (by omega) (by omega) (fun c hc => by rw [pm_set_off c hc]; exact c1 c hc) (fun f f0 f1 => ?_)⟩
      rcases (by omega : f = a1 ∨ f < a1) with w | w
      · rw [w, ← hx]; exact pm_get_e
      · rw [pm_get_j (by omega) rfl]; exact c2 f f0 w
    have z0 : V a1 = false → (0 : Int) = b01 (V a1) := fun h => by rw [h]; rfl
    have z1 : V a1 = true → (1 : Int) = b01 (V a1) := fun h => by rw [h]; rfl
    have tv1 : tv V 1 = true := by rw [tv_1, hV.1]; rfl
    have tv0 : tv V 0 = false := by rw [tv_0, hV.1]
    refine s_73_2 ⟨fun z => by rw [e24, hn] at z; omega, fun _ => ?_⟩
    rw [e25, e26, e27, e28, e30]
    have hk := hK a1 h0 hlt
    have hg := hV.2 a1
    refine ⟨⟨h0, by omega⟩, fun k => ?_, fun k => ?_, fun k => ?_, fun k => ?_, fun k => ?_, fun k => ?_, fun k => ?_⟩
    · rcases hk with ⟨q, w⟩ | ⟨q, w⟩ | ⟨q, w⟩ | ⟨q, w⟩ | ⟨q, w⟩ | ⟨q, w⟩ | ⟨q, w⟩
      · exact next 0 (z0 (by rw [w]; exact hV.1))
      all_goals omega
    · rcases hk with ⟨q, w⟩ | ⟨q, w0, w1, w2, w3⟩ | ⟨q, w⟩ | ⟨q, w⟩ | ⟨q, w⟩ | ⟨q, w⟩ | ⟨q, w⟩
      · omega
      · have hi := hin _ w2.1 w2.2
        rw [w3] at hi
        exact ⟨⟨w2.1, by omega⟩, ⟨⟨h0, by omega⟩, by rw [hi]; exact b01_bit _⟩, next _ hi⟩
      all_goals omega
    · rcases hk with ⟨q, w⟩ | ⟨q, w⟩ | ⟨q, w0, w1, w2, w3, w4⟩ | ⟨q, w⟩ | ⟨q, w⟩ | ⟨q, w⟩ | ⟨q, w⟩
      · omega
      · omega
      · have hv := hg w0 hlt (by omega)
        rw [w2, w3, w4, tv_two, tv0, tv1] at hv
        have ha := c2 _ w1.1 w1.2
        refine ⟨⟨w1.1, by omega⟩, fun z => next 0 (z0 ?_), fun z => next 1 (z1 ?_)⟩
        · rw [ha, b01_n] at z; rw [hv, if_pos z]
        · rw [ha, b01_n] at z; rw [hv, if_neg z]
      all_goals omega
    · rcases hk with ⟨q, w⟩ | ⟨q, w⟩ | ⟨q, w⟩ | ⟨q, w0, w1, w2, w3, w4, w5⟩ | ⟨q, w⟩ | ⟨q, w⟩ | ⟨q, w⟩
      · omega
      · omega
      · omega
      · have hv := hg w0 hlt (by omega)
        rw [w3, w4, w5, tv_two, tv_two, tv0] at hv
        have ha := c2 _ w1.1 w1.2
        have hb := c2 _ w2.1 w2.2
        refine ⟨⟨w1.1, by omega⟩, fun z => next 0 (z0 ?_), fun z => ⟨⟨w2.1, by omega⟩, fun y => next 0 (z0 ?_), fun y => next 1 (z1 ?_)⟩⟩
        · rw [ha, b01_0] at z; rw [hv, if_neg (by rw [z]; decide)]
        · rw [ha, b01_n] at z; rw [hb, b01_0] at y; rw [hv, if_pos z, y]
        · rw [ha, b01_n] at z; rw [hb, b01_n] at y; rw [hv, if_pos z, y]
      all_goals omega
    · rcases hk with ⟨q, w⟩ | ⟨q, w⟩ | ⟨q, w⟩ | ⟨q, w⟩ | ⟨q, w0, w1, w2, w3, w4, w5⟩ | ⟨q, w⟩ | ⟨q, w⟩
      · omega
      · omega
      · omega
      · omega
      · have hv := hg w0 hlt (by omega)
        rw [w3, w4, w5, tv_two, tv_two, tv1] at hv
        have ha := c2 _ w1.1 w1.2
        have hb := c2 _ w2.1 w2.2
        refine ⟨⟨w1.1, by omega⟩, fun z => next 1 (z1 ?_), fun z => ⟨⟨w2.1, by omega⟩, fun y => next 0 (z0 ?_), fun y => next 1 (z1 ?_)⟩⟩
        · rw [ha, b01_n] at z; rw [hv, if_pos z]
        · rw [ha, b01_n] at z; rw [hb, b01_0] at y; rw [hv, if_neg z, y]
        · rw [ha, b01_n] at z; rw [hb, b01_n] at y; rw [hv, if_neg z, y]
      all_goals omega
    · rcases hk with ⟨q, w⟩ | ⟨q, w⟩ | ⟨q, w⟩ | ⟨q, w⟩ | ⟨q, w⟩ | ⟨q, w0, w1, w2, w3, w4, w5⟩ | ⟨q, w⟩
      · omega
      · omega
      · omega
      · omega
      · omega
      · have hv := hg w0 hlt (by omega)
        rw [w3, w4, w5, tv_two, tv_op, tv_two] at hv
        have ha := c2 _ w1.1 w1.2
        have hb := c2 _ w2.1 w2.2
        refine ⟨⟨w1.1, by omega⟩, ⟨w2.1, by omega⟩, fun z => next 0 (z0 ?_), fun z => next 1 (z1 ?_)⟩
        · rw [ha, hb, b01_i] at z; rw [hv, z]; cases V (M0 27 a1) <;> decide
        · rw [ha, hb, b01_i] at z; rw [hv]; revert z; cases V (M0 26 a1) <;> cases V (M0 27 a1) <;> decide
      · omega
    · rcases hk with ⟨q, w⟩ | ⟨q, w⟩ | ⟨q, w⟩ | ⟨q, w⟩ | ⟨q, w⟩ | ⟨q, w⟩ | ⟨q, w0, w1, w2, w2', w3, w4, w5⟩
      · omega
      · omega
      · omega
      · omega
      · omega
      · omega
      · have hv := hg w0 hlt (by omega)
        rw [w3, w4, w5, tv_two, tv_two, tv_two] at hv
        have ha := c2 _ w1.1 w1.2
        have hb := c2 _ w2.1 w2.2
        have hc := c2 _ w2'.1 w2'.2
        refine ⟨⟨w1.1, by omega⟩, fun z => ⟨⟨w2'.1, by omega⟩, ⟨⟨h0, by omega⟩, by rw [hc]; exact b01_bit _⟩, next _ ?_⟩, fun z => ⟨⟨w2.1, by omega⟩, ⟨⟨h0, by omega⟩, by rw [hb]; exact b01_bit _⟩, next _ ?_⟩⟩
        · rw [ha, b01_0] at z; rw [hv, if_neg (by rw [z]; decide)]; exact hc
        · rw [ha, b01_n] at z; rw [hv, if_pos z]; exact hb
theorem p_73 {L : Nat} {Q : pm_P} {M : pm_M} {V : Int → Bool} (hF : 1 ≤ M 1 6 ∧ M 1 6 ≤ 2000) (hN : M 1 7 ≤ 12) (hn : M 24 1 = M 1 6) (hK : ∀ f, 0 ≤ f → f < M 1 6 → KD M f) (hV : GV M V) (hin : ∀ k, 0 ≤ k → k < M 1 7 → M 30 k = b01 (V (M 12 k)))
    (hq : ∀ M' : pm_M, (∀ c, c ≠ 32 → M' c = M c) → (∀ f, 0 ≤ f → f < M 1 6 → M' 32 f = b01 (V f)) → Q (.inl none) M') :
    pm_X L (73, 0, [some (.inr (.inl 24)), none], [], M) Q :=
  s_73_0 (p_73l hF hN hn hK hV hin hq _ M 0 (Nat.le_refl _) (Int.le_refl _) (by omega) (fun _ _ => rfl) (fun f f0 f1 => by omega))
