/-! PURE: involve, the loop of learn -/
theorem p_54l {L : Nat} {Q : pm_P} {a1 : Int} (h0 : 0 ≤ a1) (h1 : a1 + 1 < 16117) : ∀ (n : Nat) (M : pm_M) (a2 : Int), (M 14 (a1 + 1) - a2).toNat ≤ n → 0 ≤ a2 → M 14 (a1 + 1) ≤ 85212 → (∀ i, a2 ≤ i → i < M 14 (a1 + 1) → 0 ≤ M 13 i ∧ M 13 i < 4000) →
    (∀ M' : pm_M, (∀ c, c ≠ 18 → M' c = M c) → (∀ f, (∃ i, a2 ≤ i ∧ i < M 14 (a1 + 1) ∧ M 13 i / 2 = f) → M' 18 f = 1) → (∀ f, (¬ ∃ i, a2 ≤ i ∧ i < M 14 (a1 + 1) ∧ M 13 i / 2 = f) → M' 18 f = M 18 f) → Q (.inl none) M') →
    pm_X L (54, 10, [some (.inr (.inl 4)), some (.inl a1), some (.inl a2)], [], M) Q := by
  intro n
  induction n with
  | zero =>
    intro M a2 hn h2 h3 h4 hq
    exact s_54_10 ⟨by unfold pm_R; omega, ⟨by omega, h1⟩, fun _ => hq M (fun _ _ => rfl) (fun f ⟨i, b1, b2, _⟩ => by omega) (fun _ _ => rfl), fun c => by omega⟩
  | succ n ih =>
    intro M a2 hn h2 h3 h4 hq
    refine s_54_10 ⟨by unfold pm_R; omega, ⟨by omega, h1⟩, fun _ => hq M (fun _ _ => rfl) (fun f ⟨i, b1, b2, _⟩ => by omega) (fun _ _ => rfl), fun c => ?_⟩
    have h5 := h4 a2 (by omega) (by omega)
    refine ⟨⟨h2, by omega⟩, ⟨by omega, by omega⟩, by unfold pm_R; omega, ?_⟩
    have e13 : pm_set M 18 (M 13 a2 / 2) 1 13 = M 13 := pm_set_off 13 (by decide)
    have e14 : pm_set M 18 (M 13 a2 / 2) 1 14 = M 14 := pm_set_off 14 (by decide)
    refine ih _ _ (by rw [e14]; omega) (by omega) (by rw [e14]; exact h3) (by rw [e13, e14]; exact fun i b1 b2 => h4 i (by omega) b2) ?_
    rw [e13, e14]
    intro M' q1 q2 q3
    refine hq M' (fun c hc => by rw [q1 c hc]; exact pm_set_off c hc) (fun f ⟨i, b1, b2, b3⟩ => ?_) (fun f hf => ?_)
    · by_cases hx : ∃ i, a2 + 1 ≤ i ∧ i < M 14 (a1 + 1) ∧ M 13 i / 2 = f
      · exact q2 f hx
      · rw [q3 f hx]
        have : i = a2 := by
          rcases (by omega : i = a2 ∨ a2 + 1 ≤ i) with z | z
          · exact z
          · exact absurd ⟨i, z, b2, b3⟩ hx
        subst this
        rw [← b3]
        exact pm_get_e
    · rw [q3 f (fun ⟨i, b1, b2, b3⟩ => hf ⟨i, by omega, b2, b3⟩)]
      exact pm_get_j (fun z => hf ⟨a2, by omega, by omega, z.symm⟩) rfl
theorem p_54 {L : Nat} {Q : pm_P} {M : pm_M} {a1 : Int} (h0 : 0 ≤ a1) (h1 : a1 + 1 < 16117) (h2 : 0 ≤ M 14 a1) (h3 : M 14 (a1 + 1) ≤ 85212) (h4 : ∀ i, M 14 a1 ≤ i → i < M 14 (a1 + 1) → 0 ≤ M 13 i ∧ M 13 i < 4000)
    (hq : ∀ M' : pm_M, (∀ c, c ≠ 18 → M' c = M c) → (∀ f, (∃ l, inC (M 13) (M 14) a1 l ∧ l / 2 = f) → M' 18 f = 1) → (∀ f, (¬ ∃ l, inC (M 13) (M 14) a1 l ∧ l / 2 = f) → M' 18 f = M 18 f) → Q (.inl none) M') :
    pm_X L (54, 0, [some (.inr (.inl 4)), some (.inl a1), none], [], M) Q := by
  refine s_54_0 ⟨⟨h0, by omega⟩, p_54l h0 h1 _ M _ (Nat.le_refl _) h2 h3 h4 (fun M' q1 q2 q3 => hq M' q1 (fun f ⟨l, ⟨i, i1, i2, i3⟩, hl⟩ => q2 f ⟨i, i1, i2, by rw [i3]; exact hl⟩) (fun f hf => q3 f (fun ⟨i, i1, i2, i3⟩ => hf ⟨M 13 i, ⟨i, i1, i2, rfl⟩, i3⟩)))⟩
/-- rows, trail: what learning rests on -/
def LB (M : pm_M) : Prop :=
  CD (M 13) (M 14) (M 2 2) (M 2 3) (M 1 6) ∧ (1 ≤ M 1 6 ∧ M 1 6 ≤ 2000) ∧ (0 ≤ M 5 4 ∧ M 5 4 ≤ 1999) ∧ (0 ≤ M 5 5 ∧ M 5 5 ≤ 12) ∧ (∀ i, 0 ≤ i → i < M 5 4 → 2 ≤ M 22 i ∧ M 22 i < 2 * M 1 6) ∧ TR (inC (M 13) (M 14)) (M 2 2) (M 22) (M 5 4) (M 21) (M 23) (M 5 5)
/-- the lesson so far: u0: where it begins; M0: the memory before; at: down to where the trail was gone through -/
def LJ (M0 M : pm_M) (clash at' : Int) (ix : Int → Int) : Prop :=
  (∀ c, c ≠ 2 → c ≠ 13 → c ≠ 18 → M c = M0 c) ∧ M 2 2 = M0 2 2 ∧ (∀ x, x < M0 2 3 → M 13 x = M0 13 x) ∧ (M0 2 3 ≤ M 2 3 ∧ M 2 3 ≤ M0 2 3 + M0 5 5) ∧ (∀ t, 0 ≤ t → t < M0 5 5 → M0 23 t ≤ at' → M 2 3 - M0 2 3 ≤ M0 5 5 - 1 - t) ∧
  (∀ l, inC (M0 13) (M0 14) clash l → M 18 (l / 2) = 1) ∧
  (∀ i, at' < i → i < M0 5 4 → M 18 (M0 22 i / 2) = 1 → M0 21 (M0 22 i) ≠ -1 → ∀ l, inC (M0 13) (M0 14) (M0 21 (M0 22 i)) l → M 18 (l / 2) = 1) ∧
  (∀ f, M 18 f = 0 ∨ M 18 f = 1) ∧ (∀ f, M 18 f = 1 → ∃ i, 0 ≤ i ∧ i < M0 5 4 ∧ M0 22 i / 2 = f) ∧
  (∀ x, M0 2 3 ≤ x → x < M 2 3 → (at' < ix x ∧ ix x < M0 5 4) ∧ M0 21 (M0 22 (ix x)) = -1 ∧ M 18 (M0 22 (ix x) / 2) = 1 ∧ M 13 x = pm_op (M0 22 (ix x))) ∧
  (∀ x y, M0 2 3 ≤ x → x < y → y < M 2 3 → ix y < ix x) ∧
  (∀ i, at' < i → i < M0 5 4 → M0 21 (M0 22 i) = -1 → M 18 (M0 22 i / 2) = 1 → ∃ x, M0 2 3 ≤ x ∧ x < M 2 3 ∧ ix x = i)
theorem p_53l {L : Nat} {Q : pm_P} {M0 : pm_M} {a1 : Int} (hB : LB M0) (hu : M0 2 3 + 12 ≤ 85212) : ∀ (n : Nat) (M : pm_M) (a2 : Int) (ix : Int → Int) (o3 : Option pm_V), (a2 + 1).toNat ≤ n → -1 ≤ a2 → a2 < M0 5 4 → LJ M0 M a1 a2 ix →
    (∀ (M' : pm_M) (ix' : Int → Int) (o3' : Option pm_V), LJ M0 M' a1 (-1) ix' → pm_X L (53, 15, [some (.inr (.inl 4)), some (.inl a1), some (.inl (-1)), o3'], [], M') Q) →
    pm_X L (53, 15, [some (.inr (.inl 4)), some (.inl a1), some (.inl a2), o3], [], M) Q := by
  obtain ⟨hcd, hF, hn, hlv, hO, hT⟩ := hB
  intro n
  induction n with
  | zero =>
    intro M a2 ix o3 hm h0 h1 hJ hq
    have e : a2 = -1 := by omega
    subst e
    exact hq M ix o3 hJ
  | succ n ih =>
    intro M a2 ix o3 hm h0 h1 hJ hq
    by_cases hneg : a2 = -1
    · subst hneg; exact hq M ix o3 hJ
    have hJ0 := hJ
    obtain ⟨j1, j2, j3, j4, j5, j6, j7, j8, j9, j10, j11, j12⟩ := hJ
    have e5 : M 5 = M0 5 := j1 5 (by decide) (by decide) (by decide)
    have e14 : M 14 = M0 14 := j1 14 (by decide) (by decide) (by decide)
    have e21 : M 21 = M0 21 := j1 21 (by decide) (by decide) (by decide)
    have e22 : M 22 = M0 22 := j1 22 (by decide) (by decide) (by decide)
    have hoi := hO a2 (by omega) h1
    refine s_53_15 ⟨fun z => by omega, fun _ => ⟨⟨by omega, by omega⟩, by rw [e22]; exact ⟨by omega, by omega⟩, fun z => ?_, fun z => ⟨by rw [e22]; exact ⟨by omega, by omega⟩, fun y => ?_, fun y => ?_⟩⟩⟩
    · -- not involved
      rw [e22] at z
      refine s_53_81 ⟨by unfold pm_R; omega, ih M (a2 + (-1)) ix _ (by omega) (by omega) (by omega) ?_ hq⟩
      refine ⟨j1, j2, j3, j4, fun t t0 t1 t2 => j5 t t0 t1 (by omega), j6, fun i i0 i1 i2 => ?_, j8, j9, fun x x0 x1 => ?_, j11, fun i i0 i1 i2 i3 => ?_⟩
      · rcases (by omega : i = a2 ∨ a2 < i) with q | q
        · subst q; rw [z] at i2; exact absurd i2 (by decide)
        · exact j7 i q i1 i2
      · obtain ⟨q1, q2⟩ := j10 x x0 x1
        exact ⟨⟨by omega, q1.2⟩, q2⟩
      · rcases (by omega : i = a2 ∨ a2 < i) with q | q
        · subst q; rw [z] at i3; exact absurd i3 (by decide)
        · exact j12 i q i1 i2 i3
    · -- forced: its clause is involved
      rw [e22] at y z
      rw [e21, e22] at *
      obtain ⟨⟨r0, r1⟩, r2, r3⟩ := hT.2.2.2.2.2.1 a2 (by omega) h1 y
      have hat := hcd.at r0 r1
      have htot := hcd.2.1
      have hused := hcd.2.2.2.2.1
      have hKe : ∀ l, inC (M 13) (M 14) (M0 21 (M0 22 a2)) l ↔ inC (M0 13) (M0 14) (M0 21 (M0 22 a2)) l := by
        intro l
        rw [e14]
        constructor
        · rintro ⟨i, i0, i1, i2⟩; exact ⟨i, i0, i1, by rw [← j3 i (by omega)]; exact i2⟩
        · rintro ⟨i, i0, i1, i2⟩; exact ⟨i, i0, i1, by rw [j3 i (by omega)]; exact i2⟩
      refine p_54 r0 (by omega) (by rw [e14]; omega) (by rw [e14]; omega) (fun i i0 i1 => ?_) (fun M' q1 q2 q3 => x_bkv rfl (s_53_81 ⟨by unfold pm_R; omega, ?_⟩))
      · rw [e14] at i0 i1
        have := hcd.2.2.2.2.2.2 i (by omega) (by omega)
        rw [j3 i (by omega)]
        omega
      · -- new marks: formulas of the clause
        have mark : ∀ f, M 18 f = 1 → M' 18 f = 1 := by
          intro f hf
          by_cases hx : ∃ l, inC (M 13) (M 14) (M0 21 (M0 22 a2)) l ∧ l / 2 = f
          · exact q2 f hx
          · rw [q3 f hx]; exact hf
        have hnew : ∀ f, M' 18 f = 1 → M 18 f = 1 ∨ ∃ l, inC (M0 13) (M0 14) (M0 21 (M0 22 a2)) l ∧ l / 2 = f := by
          intro f hf
          by_cases hx : ∃ l, inC (M 13) (M 14) (M0 21 (M0 22 a2)) l ∧ l / 2 = f
          · obtain ⟨l, hl, e⟩ := hx
            exact Or.inr ⟨l, (hKe l).mp hl, e⟩
          · rw [q3 f hx] at hf; exact Or.inl hf
        -- above a2 nothing new is marked
        have hup : ∀ i, a2 < i → i < M0 5 4 → M' 18 (M0 22 i / 2) = 1 → M 18 (M0 22 i / 2) = 1 := by
          intro i i0 i1 i2
          rcases hnew _ i2 with w | ⟨l, hl, e⟩
          · exact w
          · by_cases el : l = M0 22 a2
            · rw [el] at e
              have := hT.inj (i := a2) (j := i) (by omega) h1 (by omega) i1 e
              omega
            · obtain ⟨j, b0, b1, b2⟩ := r3 l hl el
              have := hT.inj (i := j) (j := i) b0 (by omega) (by omega) i1 (by rw [b2, op_div]; exact e)
              omega
        have z1 : M 18 (M0 22 a2 / 2) = 1 := (j8 _).elim (fun q => absurd q z) id
        refine ih M' (a2 + (-1)) ix _ (by omega) (by omega) (by omega) ?_ hq
        have e2' : M' 2 = M 2 := q1 2 (by decide)
        have e13' : M' 13 = M 13 := q1 13 (by decide)
        refine ⟨fun c c2 c13 c18 => (q1 c c18).trans (j1 c c2 c13 c18), by rw [e2']; exact j2, by rw [e13']; exact j3, by rw [e2']; exact j4, by rw [e2']; exact fun t t0 t1 t2 => j5 t t0 t1 (by omega), fun l hl => mark _ (j6 l hl), ?_, ?_, ?_, ?_, by rw [e2']; exact j11, ?_⟩
        · intro i i0 i1 i2 i3 l hl
          rcases (by omega : i = a2 ∨ a2 < i) with q | q
          · subst q
            exact q2 _ ⟨l, (hKe l).mpr hl, rfl⟩
          · exact mark _ (j7 i q i1 (hup i q i1 i2) i3 l hl)
        · intro f
          by_cases hx : ∃ l, inC (M 13) (M 14) (M0 21 (M0 22 a2)) l ∧ l / 2 = f
          · exact Or.inr (q2 f hx)
          · rw [q3 f hx]; exact j8 f
        · intro f hf
          rcases hnew f hf with w | ⟨l, hl, e⟩
          · exact j9 f w
          · by_cases el : l = M0 22 a2
            · exact ⟨a2, by omega, h1, by rw [← el]; exact e⟩
            · obtain ⟨j, b0, b1, b2⟩ := r3 l hl el
              exact ⟨j, b0, by omega, by rw [b2, op_div]; exact e⟩
        · rw [e2', e13']
          intro x x0 x1
          obtain ⟨q4, q5, q6, q7⟩ := j10 x x0 x1
          exact ⟨⟨by omega, q4.2⟩, q5, mark _ q6, q7⟩
        · rw [e2']
          intro i i0 i1 i2 i3
          rcases (by omega : i = a2 ∨ a2 < i) with q | q
          · subst q; exact absurd i2 y
          · exact j12 i q i1 i2 (hup i q i1 i3)
    · -- tried: its opposite goes into the lesson
      rw [e22] at y z
      rw [e21] at y
      have y1 : M0 21 (M0 22 a2) = -1 := Classical.not_not.mp y
      have z1 : M 18 (M0 22 a2 / 2) = 1 := (j8 _).elim (fun q => absurd q z) id
      obtain ⟨t, t0, t1, t2⟩ := hT.2.2.2.2.1 a2 (by omega) h1 y1
      have ht := j5 t t0 t1 (by omega)
      have hu0 := hcd.2.2.2.1
      have hu1 := hcd.mon (a := 0) (b := M0 2 2) (Int.le_refl _) hcd.1 (Int.le_refl _)
      have hst0 := hcd.2.2.1
      refine ⟨⟨by omega, by omega⟩, by unfold pm_R; omega, s_53_81 ⟨by unfold pm_R; omega, ?_⟩⟩
      refine ih _ (a2 + (-1)) (upf ix (M 2 3) a2) _ (by omega) (by omega) (by omega) ?_ hq
      rw [e22]
      have f13 : pm_set (pm_set M 13 (M 2 3) (pm_op (M0 22 a2))) 2 3 (M 2 3 + 1) 13 = upf (M 13) (M 2 3) (pm_op (M0 22 a2)) := by rw [pm_set_off 13 (by decide), pm_cell, if_pos rfl]
      have f23 : pm_set (pm_set M 13 (M 2 3) (pm_op (M0 22 a2))) 2 3 (M 2 3 + 1) 2 3 = M 2 3 + 1 := pm_get_e
      have f22 : pm_set (pm_set M 13 (M 2 3) (pm_op (M0 22 a2))) 2 3 (M 2 3 + 1) 2 2 = M 2 2 := by rw [pm_get_j (by decide) rfl, pm_set_off 2 (by decide)]
      have f18 : pm_set (pm_set M 13 (M 2 3) (pm_op (M0 22 a2))) 2 3 (M 2 3 + 1) 18 = M 18 := by rw [pm_set_off 18 (by decide), pm_set_off 18 (by decide)]
      unfold LJ
      rw [f13, f23, f22, f18]
      refine ⟨fun c c2 c13 c18 => by rw [pm_set_off c c2, pm_set_off c c13]; exact j1 c c2 c13 c18, j2, fun x hx => by rw [upf_n _ _ (by omega)]; exact j3 x hx, ⟨by omega, by omega⟩, fun t' t0' t1' t2' => ?_, j6, fun i i0 i1 i2 i3 => ?_, j8, j9, fun x x0 x1 => ?_, fun x x' x0 x1 x2 => ?_, fun i i0 i1 i2 i3 => ?_⟩
      · rcases (by omega : t' < t ∨ t' = t ∨ t < t') with q | q | q
        · omega
        · subst q; omega
        · have := hT.2.2.1 t t' t0 q t1'; omega
      · rcases (by omega : i = a2 ∨ a2 < i) with q | q
        · subst q; exact absurd y1 i3
        · exact j7 i q i1 i2 i3
      · rcases (by omega : x < M 2 3 ∨ x = M 2 3) with q | q
        · rw [upf_n ix _ (by omega), upf_n _ _ (by omega)]
          obtain ⟨q1, q2⟩ := j10 x x0 q
          exact ⟨⟨by omega, q1.2⟩, q2⟩
        · rw [q, upf_e, upf_e]
          exact ⟨⟨by omega, h1⟩, y1, z1, rfl⟩
      · rcases (by omega : x' < M 2 3 ∨ x' = M 2 3) with q | q
        · rw [upf_n _ _ (by omega), upf_n _ _ (by omega)]; exact j11 x x' x0 x1 q
        · rw [q, upf_e, upf_n _ _ (by omega)]
          have := (j10 x x0 (by omega)).1.1
          exact this
      · rcases (by omega : i = a2 ∨ a2 < i) with q | q
        · exact ⟨M 2 3, by omega, by omega, by rw [upf_e, q]⟩
        · obtain ⟨x, x0, x1, x2⟩ := j12 i q i1 i2 i3
          exact ⟨x, x0, by omega, by rw [upf_n _ _ (by omega)]; exact x2⟩
