/-! PURE: gates are described -/
theorem RT.iff {M : pm_M} {T T' : Int → Int → Int → Prop} (h : RT M T) (e : ∀ x y z, T x y z ↔ T' x y z) : RT M T' :=
  ⟨fun x y z t => h.1 x y z ((e x y z).mpr t), fun c c0 c1 => by obtain ⟨x, y, z, q1, q2⟩ := h.2 c c0 c1; exact ⟨x, y, z, (e x y z).mp q1, q2⟩⟩
/-- the six clauses of a gate g that chooses by c between a and b -/
def G6 (c a b g x y z : Int) : Prop :=
  (x = pm_op c ∧ y = pm_op a ∧ z = g) ∨ (x = pm_op c ∧ y = a ∧ z = pm_op g) ∨ (x = c ∧ y = pm_op b ∧ z = g) ∨ (x = c ∧ y = b ∧ z = pm_op g) ∨ (x = pm_op a ∧ y = pm_op b ∧ z = g) ∨ (x = a ∧ y = b ∧ z = pm_op g)
theorem p_31 {L : Nat} {Q : pm_P} {M : pm_M} {T : Int → Int → Int → Prop} {f : Int} (hR : RW M) (hT : RT M T) (hF : M 1 6 ≤ 2000) (hf : 0 ≤ f ∧ f < M 1 6) (hc : 0 ≤ M 7 f ∧ M 7 f < 2 * M 1 6) (ha : 0 ≤ M 8 f ∧ M 8 f < 2 * M 1 6) (hb : 0 ≤ M 9 f ∧ M 9 f < 2 * M 1 6) (hu : M 2 3 + 18 ≤ 85212) (htt : M 2 2 + 6 ≤ 16116)
    (hq : ∀ M' : pm_M, (∀ c, c ≠ 2 → c ≠ 13 → c ≠ 14 → M' c = M c) → RW M' → (M' 2 2 ≤ M 2 2 + 6 ∧ M' 2 3 ≤ M 2 3 + 18) → RT M' (fun x y z => T x y z ∨ G6 (M 7 f) (M 8 f) (M 9 f) (2 * f) x y z) → Q (.inl none) M') :
    pm_X L (31, 0, [some (.inr (.inl 1)), some (.inl f), some (.inr (.inl 2)), none, none, none, none], [], M) Q := by
  have rg : 0 ≤ 2 * f ∧ 2 * f < 2 * M 1 6 := ⟨by omega, by omega⟩
  have op2 : ∀ l, 0 ≤ l ∧ l < 2 * M 1 6 → 0 ≤ pm_op l ∧ pm_op l < 2 * M 1 6 := fun l h => ⟨op_lo h.1, op_hi h.2⟩
  have oc := op2 _ hc
  have oa := op2 _ ha
  have ob := op2 _ hb
  have og := op2 _ rg
  refine s_31_0 ⟨by unfold pm_R; omega, ⟨by omega, by omega⟩, ?_⟩
  refine p_33 hR hT oc oa rg (by omega) (by omega) (fun M1 f1 r1 b1 t1 => x_bkv rfl (s_31_44 ?_))
  have e1 : M1 1 = M 1 := f1 1 (by decide) (by decide) (by decide)
  refine p_33 r1 t1 (by rw [e1]; exact oc) (by rw [e1]; exact ha) (by rw [e1]; exact og) (by omega) (by omega) (fun M2 f2 r2 b2 t2 => x_bkv rfl (s_31_59 ?_))
  have e2 : M2 1 = M 1 := (f2 1 (by decide) (by decide) (by decide)).trans e1
  refine p_33 r2 t2 (by rw [e2]; exact hc) (by rw [e2]; exact ob) (by rw [e2]; exact rg) (by omega) (by omega) (fun M3 f3 r3 b3 t3 => x_bkv rfl (s_31_71 ?_))
  have e3 : M3 1 = M 1 := (f3 1 (by decide) (by decide) (by decide)).trans e2
  refine p_33 r3 t3 (by rw [e3]; exact hc) (by rw [e3]; exact hb) (by rw [e3]; exact og) (by omega) (by omega) (fun M4 f4 r4 b4 t4 => x_bkv rfl (s_31_83 ?_))
  have e4 : M4 1 = M 1 := (f4 1 (by decide) (by decide) (by decide)).trans e3
  refine p_33 r4 t4 (by rw [e4]; exact oa) (by rw [e4]; exact ob) (by rw [e4]; exact rg) (by omega) (by omega) (fun M5 f5 r5 b5 t5 => x_bkv rfl (s_31_98 ?_))
  have e5 : M5 1 = M 1 := (f5 1 (by decide) (by decide) (by decide)).trans e4
  refine p_33 r5 t5 (by rw [e5]; exact ha) (by rw [e5]; exact hb) (by rw [e5]; exact og) (by omega) (by omega) (fun M6 f6 r6 b6 t6 => x_bkv rfl (s_31_110 ?_))
  refine hq M6 (fun c c2 c13 c14 => ((f6 c c2 c13 c14).trans ((f5 c c2 c13 c14).trans ((f4 c c2 c13 c14).trans ((f3 c c2 c13 c14).trans ((f2 c c2 c13 c14).trans (f1 c c2 c13 c14))))))) r6 ⟨by omega, by omega⟩ (t6.iff (fun x y z => ?_))
  unfold G6
  simp only [or_assoc]
theorem p_28l {L : Nat} {Q : pm_P} : ∀ (n : Nat) (M : pm_M) (a1 : Int), (M 1 6 - a1).toNat ≤ n → 0 ≤ a1 → M 1 6 ≤ 2000 →
    (∀ M' : pm_M, (∀ c, c ≠ 11 → M' c = M c) → (∀ f, a1 ≤ f → f < M 1 6 → M' 11 f = 0) → (∀ f, f < a1 → M' 11 f = M 11 f) → Q (.inl none) M') →
    pm_X L (28, 2, [some (.inr (.inl 1)), some (.inl a1)], [], M) Q := by
  intro n
  induction n with
  | zero =>
    intro M a1 hn h0 h1 hq
    exact s_28_2 ⟨fun _ => hq M (fun _ _ => rfl) (fun f b1 b2 => by omega) (fun _ _ => rfl), fun c => by omega⟩
  | succ n ih =>
    intro M a1 hn h0 h1 hq
    refine s_28_2 ⟨fun _ => hq M (fun _ _ => rfl) (fun f b1 b2 => by omega) (fun _ _ => rfl), fun c => ⟨⟨h0, by omega⟩, by unfold pm_R; omega, ?_⟩⟩
    have e1 : pm_set M 11 a1 0 1 = M 1 := pm_set_off 1 (by decide)
    refine ih _ _ (by rw [e1]; omega) (by omega) (by rw [e1]; exact h1) ?_
    rw [e1]
    intro M' q1 q2 q3
    refine hq M' (fun c hc => by rw [q1 c hc]; exact pm_set_off c hc) (fun f b1 b2 => ?_) (fun f b1 => ?_)
    · rcases (by omega : f = a1 ∨ a1 + 1 ≤ f) with z | z
      · rw [q3 f (by omega), z]; exact pm_get_e
      · exact q2 f z b2
    · rw [q3 f (by omega)]; exact pm_get_j (by omega) rfl
theorem p_28 {L : Nat} {Q : pm_P} {M : pm_M} (h1 : M 1 6 ≤ 2000) (hq : ∀ M' : pm_M, (∀ c, c ≠ 11 → M' c = M c) → (∀ f, 0 ≤ f → f < M 1 6 → M' 11 f = 0) → Q (.inl none) M') :
    pm_X L (28, 0, [some (.inr (.inl 1)), none], [], M) Q :=
  s_28_0 (p_28l _ M 0 (Nat.le_refl _) (Int.le_refl _) h1 (fun M' q1 q2 _ => hq M' q1 q2))
/-- the circuit: gates look at formulas before them -/
def CW (M : pm_M) : Prop :=
  (1 ≤ M 1 6 ∧ M 1 6 ≤ 2000) ∧ ∀ f, 0 < f → f < M 1 6 → M 7 f ≠ -1 → (0 ≤ M 7 f ∧ M 7 f / 2 < f) ∧ (0 ≤ M 8 f ∧ M 8 f / 2 < f) ∧ (0 ≤ M 9 f ∧ M 9 f / 2 < f)
/-- described down to a: which gates, and what they look at -/
def DA (M0 M : pm_M) (T : Int → Int → Int → Prop) (a : Int) : Prop :=
  (∀ c, c ≠ 2 → c ≠ 11 → c ≠ 13 → c ≠ 14 → M c = M0 c) ∧ RW M ∧ (M 2 2 ≤ M0 2 2 + 6 * (M0 1 6 - 1 - a) ∧ M 2 3 ≤ M0 2 3 + 18 * (M0 1 6 - 1 - a)) ∧ (∀ f, M0 11 f ≠ 0 → M 11 f ≠ 0) ∧
  (∀ f, a < f → f < M0 1 6 → M 11 f ≠ 0 → M0 7 f ≠ -1 → M 11 (M0 7 f / 2) ≠ 0 ∧ M 11 (M0 8 f / 2) ≠ 0 ∧ M 11 (M0 9 f / 2) ≠ 0) ∧
  RT M (fun x y z => T x y z ∨ ∃ f, (a < f ∧ f < M0 1 6) ∧ M 11 f ≠ 0 ∧ M0 7 f ≠ -1 ∧ G6 (M0 7 f) (M0 8 f) (M0 9 f) (2 * f) x y z)
theorem p_30l {L : Nat} {Q : pm_P} {M0 : pm_M} {T : Int → Int → Int → Prop} (hW : CW M0) (hu : M0 2 3 ≤ 60) (ht : M0 2 2 ≤ 20) (hq : ∀ M' : pm_M, DA M0 M' T 0 → Q (.inl none) M') : ∀ (n : Nat) (M : pm_M) (a2 : Int), a2.toNat ≤ n → 0 ≤ a2 → a2 < M0 1 6 → DA M0 M T a2 →
    pm_X L (30, 7, [some (.inr (.inl 1)), some (.inr (.inl 2)), some (.inl a2)], [], M) Q := by
  obtain ⟨hF, hg⟩ := hW
  intro n
  induction n with
  | zero =>
    intro M a2 hn h0 h1 hD
    have e : a2 = 0 := by omega
    subst e
    exact s_30_7 ⟨fun _ => hq M hD, fun c => by omega⟩
  | succ n ih =>
    intro M a2 hn h0 h1 hD
    rcases (by omega : a2 = 0 ∨ 0 < a2) with e | hpos
    · subst e
      exact s_30_7 ⟨fun _ => hq M hD, fun c => by omega⟩
    obtain ⟨d1, d2, d3, d4, d5, d6⟩ := hD
    have e7 : M 7 = M0 7 := d1 7 (by decide) (by decide) (by decide) (by decide)
    have e8 : M 8 = M0 8 := d1 8 (by decide) (by decide) (by decide) (by decide)
    have e9 : M 9 = M0 9 := d1 9 (by decide) (by decide) (by decide) (by decide)
    have e1 : M 1 = M0 1 := d1 1 (by decide) (by decide) (by decide) (by decide)
    -- nothing to describe
    have skip : (M 11 a2 = 0 ∨ M0 7 a2 = -1) → pm_X L (30, 75, [some (.inr (.inl 1)), some (.inr (.inl 2)), some (.inl a2)], [], M) Q := by
      intro hs
      refine s_30_75 ⟨by unfold pm_R; omega, ih M (a2 + (-1)) (by omega) (by omega) (by omega) ⟨d1, d2, ⟨by omega, by omega⟩, d4, fun f f0 f1 f2 f3 => ?_, d6.iff (fun x y z => ?_)⟩⟩
      · rcases (by omega : f = a2 ∨ a2 < f) with w | w
        · rw [w] at f2 f3
          exact hs.elim (fun q => absurd q f2) (fun q => absurd q f3)
        · exact d5 f w f1 f2 f3
      · constructor
        · rintro (w | ⟨f, f0, f1⟩)
          · exact Or.inl w
          · exact Or.inr ⟨f, ⟨by omega, f0.2⟩, f1⟩
        · rintro (w | ⟨f, f0, f1, f2, f3⟩)
          · exact Or.inl w
          · rcases (by omega : f = a2 ∨ a2 < f) with q | q
            · rw [q] at f1 f2
              exact hs.elim (fun q => absurd q f1) (fun q => absurd q f2)
            · exact Or.inr ⟨f, ⟨q, f0.2⟩, f1, f2, f3⟩
    refine s_30_7 ⟨fun c => by omega, fun _ => ⟨⟨h0, by omega⟩, fun z => skip (Or.inl z), fun hm => ⟨fun z => skip (Or.inr (by rw [e7] at z; exact z)), fun hne => ?_⟩⟩⟩
    rw [e7] at hne
    rw [e7, e8, e9]
    obtain ⟨g7, g8, g9⟩ := hg a2 hpos h1 hne
    refine ⟨⟨by omega, by omega⟩, ⟨by omega, by omega⟩, ⟨by omega, by omega⟩, ?_⟩
    generalize hM1 : pm_set (pm_set (pm_set M 11 (M0 7 a2 / 2) 1) 11 (M0 8 a2 / 2) 1) 11 (M0 9 a2 / 2) 1 = M1
    have o1 : ∀ c, c ≠ 11 → M1 c = M c := fun c hc => by rw [← hM1, pm_set_off c hc, pm_set_off c hc, pm_set_off c hc]
    have m11 : M1 11 = upf (upf (upf (M 11) (M0 7 a2 / 2) 1) (M0 8 a2 / 2) 1) (M0 9 a2 / 2) 1 := by rw [← hM1, pm_cell, if_pos rfl, pm_cell, if_pos rfl, pm_cell, if_pos rfl]
    have ups : ∀ (u : Int → Int) (j f : Int), u f ≠ 0 → upf u j 1 f ≠ 0 := fun u j f h => by unfold upf; split; decide; exact h
    have mono : ∀ f, M 11 f ≠ 0 → M1 11 f ≠ 0 := fun f h => by rw [m11]; exact ups _ _ _ (ups _ _ _ (ups _ _ _ h))
    have above : ∀ f, a2 ≤ f → M1 11 f = M 11 f := fun f h => by rw [m11, upf_n _ _ (by omega), upf_n _ _ (by omega), upf_n _ _ (by omega)]
    have s7 : M1 11 (M0 7 a2 / 2) ≠ 0 := by rw [m11]; exact ups _ _ _ (ups _ _ _ (by rw [upf_e]; decide))
    have s8 : M1 11 (M0 8 a2 / 2) ≠ 0 := by rw [m11]; exact ups _ _ _ (by rw [upf_e]; decide)
    have s9 : M1 11 (M0 9 a2 / 2) ≠ 0 := by rw [m11, upf_e]; decide
    have p2 : M1 2 = M 2 := o1 2 (by decide)
    have p1 : M1 1 = M0 1 := (o1 1 (by decide)).trans e1
    have p7 : M1 7 = M0 7 := (o1 7 (by decide)).trans e7
    have p8 : M1 8 = M0 8 := (o1 8 (by decide)).trans e8
    have p9 : M1 9 = M0 9 := (o1 9 (by decide)).trans e9
    have p13 : M1 13 = M 13 := o1 13 (by decide)
    have p14 : M1 14 = M 14 := o1 14 (by decide)
    have r1 : RW M1 := by unfold RW; rw [p13, p14, p2, p1, ← e1]; exact d2
    have t1 : RT M1 (fun x y z => T x y z ∨ ∃ f, (a2 < f ∧ f < M0 1 6) ∧ M1 11 f ≠ 0 ∧ M0 7 f ≠ -1 ∧ G6 (M0 7 f) (M0 8 f) (M0 9 f) (2 * f) x y z) := by
      have h1 : RT M1 (fun x y z => T x y z ∨ ∃ f, (a2 < f ∧ f < M0 1 6) ∧ M 11 f ≠ 0 ∧ M0 7 f ≠ -1 ∧ G6 (M0 7 f) (M0 8 f) (M0 9 f) (2 * f) x y z) := by unfold RT; rw [p13, p14, p2]; exact d6
      refine h1.iff (fun x y z => ⟨?_, ?_⟩)
      · rintro (w | ⟨f, f0, f1, f2⟩)
        · exact Or.inl w
        · exact Or.inr ⟨f, f0, mono f f1, f2⟩
      · rintro (w | ⟨f, f0, f1, f2⟩)
        · exact Or.inl w
        · exact Or.inr ⟨f, f0, by rw [above f (by omega)] at f1; exact f1, f2⟩
    refine p_31 r1 t1 (by rw [p1]; exact hF.2) (by rw [p1]; exact ⟨h0, h1⟩) (by rw [p7, p1]; omega) (by rw [p8, p1]; omega) (by rw [p9, p1]; omega) (by rw [p2]; omega) (by rw [p2]; omega) ?_
    rw [p7, p8, p9, p2]
    intro M2 f2 r2 b2 t2
    have n11 : M2 11 = M1 11 := f2 11 (by decide) (by decide) (by decide)
    refine x_bkv rfl (s_30_75 ⟨by unfold pm_R; omega, ih M2 (a2 + (-1)) (by omega) (by omega) (by omega) ⟨fun c c2 c11 c13 c14 => (f2 c c2 c13 c14).trans ((o1 c c11).trans (d1 c c2 c11 c13 c14)), r2, ⟨by omega, by omega⟩, fun f h => by rw [n11]; exact mono f (d4 f h), fun f f0 f1 q2 q3 => ?_, t2.iff (fun x y z => ⟨?_, ?_⟩)⟩⟩)
    · rw [n11] at q2 ⊢
      rcases (by omega : f = a2 ∨ a2 < f) with w | w
      · rw [w]; exact ⟨s7, s8, s9⟩
      · obtain ⟨w1, w2, w3⟩ := d5 f w f1 (by rw [above f (by omega)] at q2; exact q2) q3
        exact ⟨mono _ w1, mono _ w2, mono _ w3⟩
    · rw [n11]
      rintro ((w | ⟨f, f0, f1, f2⟩) | w)
      · exact Or.inl w
      · exact Or.inr ⟨f, ⟨by omega, f0.2⟩, f1, f2⟩
      · exact Or.inr ⟨a2, ⟨by omega, h1⟩, by rw [above a2 (Int.le_refl _)]; exact hm, hne, w⟩
    · rw [n11]
      rintro (w | ⟨f, f0, f1, f2, f3⟩)
      · exact Or.inl (Or.inl w)
      · rcases (by omega : f = a2 ∨ a2 < f) with q | q
        · rw [q] at f3; exact Or.inr f3
        · exact Or.inl (Or.inr ⟨f, ⟨q, f0.2⟩, f1, f2, f3⟩)
theorem p_30 {L : Nat} {Q : pm_P} {M : pm_M} {T : Int → Int → Int → Prop} (hW : CW M) (hR : RW M) (hT : RT M T) (hu : M 2 3 ≤ 60) (ht : M 2 2 ≤ 20) (hq : ∀ M' : pm_M, DA M M' T 0 → Q (.inl none) M') :
    pm_X L (30, 0, [some (.inr (.inl 1)), some (.inr (.inl 2)), none], [], M) Q := by
  have hF := hW.1
  refine s_30_0 ⟨by unfold pm_R; omega, p_30l hW hu ht hq _ M _ (Nat.le_refl _) (by omega) (by omega) ⟨fun _ _ _ _ _ => rfl, hR, ⟨by omega, by omega⟩, fun _ h => h, fun f f0 f1 => by omega, hT.iff (fun x y z => ⟨Or.inl, ?_⟩)⟩⟩
  rintro (w | ⟨f, f0, -⟩)
  · exact w
  · omega
