/-! PURE: shorten, of the class and of the reference -/
/-- some inputs make all of a list but one place true -/
def SoP (M : pm_M) (l : Int → Int) (n p : Int) : Prop := ∃ V, GV M V ∧ LoP l n p V
def drP (l : Int → Int) (p : Int) : Int → Int := fun i => if i < p then l i else l (i + 1)
/-- place after place: one without which the rest can be true stays, any other is dropped -/
def GrR (S : (Int → Int) → Int → Int → Prop) : Nat → (Int → Int) → Int → Int → (Int → Int) → Int → Prop
  | 0, l, n, _, r, m => m = n ∧ ∀ i, 0 ≤ i → i < n → r i = l i
  | k + 1, l, n, p, r, m => (S l n p ∧ GrR S k l n (p + 1) r m) ∨ (¬ S l n p ∧ GrR S k (drP l p) (n - 1) p r m)
theorem SoP.congr {M : pm_M} {l l' : Int → Int} {n p : Int} (hs : SoP M l n p) (h : ∀ i, 0 ≤ i → i < n → l i = l' i) : SoP M l' n p := by
  obtain ⟨V, h1, h2⟩ := hs
  exact ⟨V, h1, h2.congr h⟩
theorem SoP.of {M M' : pm_M} (e1 : M' 1 = M 1) (e7 : M' 7 = M 7) (e8 : M' 8 = M 8) (e9 : M' 9 = M 9) : SoP M' = SoP M := by
  funext l n p
  unfold SoP GV
  rw [e1, e7, e8, e9]
theorem GrR.congr {M : pm_M} {r : Int → Int} {m : Int} : ∀ (k : Nat) (l l' : Int → Int) (n p : Int), 0 ≤ p → (∀ i, 0 ≤ i → i < n → l i = l' i) → GrR (SoP M) k l n p r m → GrR (SoP M) k l' n p r m := by
  intro k
  induction k with
  | zero =>
    intro l l' n p _ hl h
    obtain ⟨h1, h2⟩ := h
    exact ⟨h1, fun i i0 i1 => by rw [← hl i i0 i1]; exact h2 i i0 i1⟩
  | succ k ih =>
    intro l l' n p hp hl h
    rcases h with ⟨h1, h2⟩ | ⟨h1, h2⟩
    · exact Or.inl ⟨h1.congr hl, ih l l' n (p + 1) (by omega) hl h2⟩
    · refine Or.inr ⟨fun z => h1 (z.congr (fun i i0 i1 => (hl i i0 i1).symm)), ih _ _ (n - 1) p hp (fun i i0 i1 => ?_) h2⟩
      unfold drP
      split
      · exact hl i i0 (by omega)
      · exact hl (i + 1) (by omega) (by omega)
/-- the class's shorten: from place to place -/
theorem p_7l {L : Nat} {Q : pm_P} {M0 : pm_M} (hR : RK M0) {B n0 : Int} {K : Nat} {l0 : Int → Int} (hB : B ≤ 2147483647)
    (hq : ∀ M' : pm_M, (∀ c, (c = 1 ∨ (7 ≤ c ∧ c ≤ 10) ∨ c = 12 ∨ 24 ≤ c) → M' c = M0 c) → LI M' → M' 0 6 = M0 0 6 → SrS M' → M' 3 2 ≤ B → GrR (SoP M0) K l0 n0 0 (M' 6) (M' 0 5) → Q (.inl (some (.inl (M' 0 5)))) M') :
    ∀ (k : Nat) (M : pm_M) (a1 : Int), 0 ≤ a1 → M 0 5 = a1 + k → (∀ c, (c = 1 ∨ (7 ≤ c ∧ c ≤ 10) ∨ c = 12 ∨ 24 ≤ c) → M c = M0 c) → LI M → M 0 6 = M0 0 6 → SrS M → M 3 2 + 4096 * k ≤ B → (∀ r m, GrR (SoP M0) k (M 6) (M 0 5) a1 r m → GrR (SoP M0) K l0 n0 0 r m) →
    pm_X L (7, 21, [some (.inr (.inl 0)), some (.inl a1), some (.inl (k : Int))], [], M) Q := by
  intro k
  induction k with
  | zero =>
    intro M a1 h1 hk c1 c2 c3 c4 c5 hg
    exact s_7_21 ⟨fun _ => hq M c1 c2 c3 c4 (by omega) (hg _ _ ⟨rfl, fun i _ _ => rfl⟩), fun z => by omega⟩
  | succ k ih =>
    intro M a1 h1 hk c1 c2 c3 c4 c5 hg
    have e1 : M 1 = M0 1 := c1 1 (by omega)
    have e7 : M 7 = M0 7 := c1 7 (by omega)
    have e8 : M 8 = M0 8 := c1 8 (by omega)
    have e9 : M 9 = M0 9 := c1 9 (by omega)
    have e12 : M 12 = M0 12 := c1 12 (by omega)
    have e24 : M 24 = M0 24 := c1 24 (by omega)
    have hRM : RK M := hR.of e1 e7 e8 e9 e12 (by rw [e24]) (by rw [e24]) (c1 25 (by omega)) (c1 26 (by omega)) (c1 27 (by omega)) (c1 28 (by omega))
    have ek : ((k + 1 : Nat) : Int) + (-1) = (k : Int) := by omega
    have hl := c2.1
    have so : SoP M = SoP M0 := SoP.of e1 e7 e8 e9
    refine s_7_21 ⟨fun z => by omega, fun _ => p_19 hRM.1 c2 c4.2.2.2.2.2.2 (fun M1 hQ => x_bkv rfl (s_7_30 (asked hRM hQ c4 (by omega) (fun M2 V w1 w2 w3 w4 w5 w6 w7 w8 => ?_) (fun M2 w1 w2 w3 w4 => ?_))))⟩
    · refine x_bki rfl (s_7_34 ⟨fun z => absurd z (by decide), fun _ => ⟨by unfold pm_R; omega, s_7_48 ⟨by unfold pm_R; omega, ?_⟩⟩⟩)
      rw [ek]
      have g0 : M2 0 = M 0 := w1 0 (by omega)
      have g6 : M2 6 = M 6 := w1 6 (by omega)
      have g1 : M2 1 = M 1 := w1 1 (by omega)
      have hs : SoP M0 (M 6) (M 0 5) a1 := by rw [← so]; exact ⟨V, w5, (TL.ai w5.1).mp w7⟩
      refine ih M2 (a1 + 1) (by omega) (by rw [g0]; omega) (fun c hc => (w1 c (by omega)).trans (c1 c hc)) (by unfold LI; rw [g0, g6, g1]; exact c2) (by rw [g0]; exact c3) w2 (by omega) ?_
      rw [g0, g6]
      exact fun r m h => hg r m (Or.inl ⟨hs, h⟩)
    · have g0 : M2 0 = M 0 := w1 0 (by omega)
      have g6 : M2 6 = M 6 := w1 6 (by omega)
      have g1 : M2 1 = M 1 := w1 1 (by omega)
      have hs : ¬ SoP M0 (M 6) (M 0 5) a1 := by
        rw [← so]
        rintro ⟨V, v1, v2⟩
        exact w4 V v1 ((TL.ai v1.1).mpr v2)
      refine x_bki rfl (s_7_34 ⟨fun _ => p_23 ⟨h1, by rw [g0]; omega⟩ (by rw [g0]; omega) ?_, fun z => absurd rfl z⟩)
      rw [g0, g6]
      intro M3 d1 d2 d3 d4 d5
      refine x_bkv rfl (s_7_48 ⟨by unfold pm_R; omega, ?_⟩)
      rw [ek]
      have m1 : M3 1 = M 1 := (d1 1 (by decide) (by decide)).trans g1
      have lst : ∀ i, 0 ≤ i → i < M 0 5 - 1 → M3 6 i = drP (M 6) a1 i := by
        intro i i0 i1
        unfold drP
        split
        · exact d4 i (by assumption)
        · exact d5 i (by omega) i1
      refine ih M3 a1 h1 (by omega) (fun c hc => (d1 c (by omega) (by omega)).trans ((w1 c (by omega)).trans (c1 c hc))) ⟨⟨by omega, by omega⟩, ?_⟩ (by rw [d3]; exact c3) (w2.of (d1 3 (by decide) (by decide)) (d1 5 (by decide) (by decide)) (d1 14 (by decide) (by decide)) (d1 15 (by decide) (by decide)) (d1 18 (by decide) (by decide)) (d1 20 (by decide) (by decide)) (d1 22 (by decide) (by decide))) (by rw [d1 3 (by decide) (by decide)]; omega) ?_
      · rw [d2, m1]
        intro i i0 i1
        rw [lst i i0 i1]
        unfold drP
        split
        · exact c2.2 i i0 (by omega)
        · exact c2.2 (i + 1) (by omega) (by omega)
      · rw [d2]
        exact fun r m h => hg r m (Or.inr ⟨hs, GrR.congr k _ _ _ _ h1 lst h⟩)
theorem p_7 {L : Nat} {Q : pm_P} {M : pm_M} {B : Int} (hB : B ≤ 2147483647) (hR : RK M) (hL : LI M) (hS : SrS M) (hs : M 3 2 + 86016 ≤ B)
    (hqA : ∀ M' : pm_M, QFr M M' → SrS M' → M' 3 2 ≤ B → (∃ V, GV M V ∧ LoP (M 6) (M 0 5) (-1) V) → Q (.inl (some (.inl (-1)))) M')
    (hqB : ∀ M' : pm_M, (∀ c, (c = 1 ∨ (7 ≤ c ∧ c ≤ 10) ∨ c = 12 ∨ 24 ≤ c) → M' c = M c) → LI M' → M' 0 6 = M 0 6 → SrS M' → M' 3 2 ≤ B → (∀ V, GV M V → ¬ LoP (M 6) (M 0 5) (-1) V) → GrR (SoP M) (M 0 5).toNat (M 6) (M 0 5) 0 (M' 6) (M' 0 5) → Q (.inl (some (.inl (M' 0 5)))) M') :
    pm_X L (7, 0, [some (.inr (.inl 0)), none, none], [], M) Q := by
  have hl := hL.1
  refine s_7_0 (p_19 hR.1 hL hS.2.2.2.2.2.2 (fun M1 hQ => x_bkv rfl (s_7_5 (asked hR hQ hS (by omega) (fun M2 V w1 w2 w3 w4 w5 w6 w7 w8 => ?_) (fun M2 w1 w2 w3 w4 => ?_)))))
  · exact x_bki rfl (s_7_9 ⟨fun z => absurd z (by decide), fun _ => hqA M2 w1 w2 (by omega) ⟨V, w5, (TL.ai w5.1).mp w7⟩⟩)
  · have g0 : M2 0 = M 0 := w1 0 (by omega)
    have g6 : M2 6 = M 6 := w1 6 (by omega)
    have g1 : M2 1 = M 1 := w1 1 (by omega)
    have e5 : M2 0 5 = (((M 0 5).toNat : Nat) : Int) := by rw [g0]; omega
    refine x_bki rfl (s_7_9 ⟨fun _ => ?_, fun z => absurd rfl z⟩)
    rw [e5]
    refine p_7l (M0 := M) (B := B) (n0 := M 0 5) (K := (M 0 5).toNat) (l0 := M 6) hR hB (fun M' d1 d2 d3 d4 d5 d6 => hqB M' d1 d2 d3 d4 d5 (fun V v1 v2 => w4 V v1 ((TL.ai v1.1).mpr v2)) d6) (M 0 5).toNat M2 0 (Int.le_refl _) (by omega) (fun c hc => w1 c (by omega)) (by unfold LI; rw [g0, g6, g1]; exact hL) (by rw [g0]) w2 (by omega) ?_
    rw [g0, g6]
    exact fun r m h => h
/-- the reference's shorten: the rest becomes the list -/
theorem p_79d {L : Nat} {Q : pm_P} {M0 : pm_M} {a1 a2 : Int} (h2 : a2 ≤ 20)
    (hq : ∀ (M' : pm_M) (a3 : Int), (∀ c, c ≠ 29 → M' c = M0 c) → (∀ i, 0 ≤ i → i < a2 → M' 29 i = M0 33 i) → pm_X L (79, 28, [some (.inr (.inl 24)), some (.inl a1), some (.inl a2), some (.inl a3)], [], M') Q) :
    ∀ (m : Nat) (M : pm_M) (a3 : Int), (a2 - a3).toNat ≤ m → 0 ≤ a3 → (∀ c, c ≠ 29 → M c = M0 c) → (∀ i, 0 ≤ i → i < a3 → i < a2 → M 29 i = M0 33 i) →
    pm_X L (79, 103, [some (.inr (.inl 24)), some (.inl a1), some (.inl a2), some (.inl a3)], [], M) Q := by
  intro m
  induction m with
  | zero =>
    intro M a3 hm h3 c1 c2
    exact s_79_103 ⟨fun _ => hq M a3 c1 (fun i i0 i1 => c2 i i0 (by omega) i1), fun z => by omega⟩
  | succ m ih =>
    intro M a3 hm h3 c1 c2
    rcases (by omega : a2 ≤ a3 ∨ a3 < a2) with w | w
    · exact s_79_103 ⟨fun _ => hq M a3 c1 (fun i i0 i1 => c2 i i0 (by omega) i1), fun z => by omega⟩
    · refine s_79_103 ⟨fun z => by omega, fun _ => ⟨⟨h3, by omega⟩, by unfold pm_R; omega, ih _ (a3 + 1) (by omega) (by omega) (fun c hc => by rw [pm_set_off c hc]; exact c1 c hc) (fun i i0 i1 i2 => ?_)⟩⟩
      rcases (by omega : i = a3 ∨ i < a3) with u | u
      · rw [u, pm_get_e, c1 33 (by decide)]
      · rw [pm_get_j (by omega) rfl]; exact c2 i i0 u i2
theorem p_79l {L : Nat} {Q : pm_P} {M0 : pm_M} (hR : RK M0) (hb : ∀ k, 0 ≤ k → k < 12 → pm_bit (M0 30 k)) {r : Int → Int} {m0 : Int}
    (hq : ∀ M' : pm_M, (∀ c, c ≠ 24 → c ≠ 29 → c ≠ 30 → c ≠ 31 → c ≠ 32 → c ≠ 33 → M' c = M0 c) → (∀ j, j ≠ 3 → M' 24 j = M0 24 j) → M' 24 3 = m0 → (∀ i, 0 ≤ i → i < m0 → M' 29 i = r i) → (∀ k, 0 ≤ k → k < 12 → M' 30 k = M0 30 k) → Q (.inl (some (.inl m0))) M') :
    ∀ (k : Nat) (M : pm_M) (a1 : Int) (o2 o3 : Option pm_V), M 24 3 = a1 + k → 0 ≤ a1 → M 24 3 ≤ 20 → (∀ c, c ≠ 24 → c ≠ 29 → c ≠ 30 → c ≠ 31 → c ≠ 32 → c ≠ 33 → M c = M0 c) → (∀ j, j ≠ 3 → M 24 j = M0 24 j) → (∀ i, 0 ≤ i → i < M 24 3 → 0 ≤ M 29 i ∧ M 29 i < M0 1 6) → (∀ k, 0 ≤ k → k < 12 → M 30 k = M0 30 k) → GrR (SoP M0) k (M 29) (M 24 3) a1 r m0 →
    pm_X L (79, 28, [some (.inr (.inl 24)), some (.inl a1), o2, o3], [], M) Q := by
  intro k
  induction k with
  | zero =>
    intro M a1 o2 o3 hk h1 h2 c1 c2 c3 c4 hg
    obtain ⟨g1, g2⟩ := hg
    refine s_79_28 ⟨fun _ => ?_, fun z => by omega⟩
    rw [← g1]
    exact hq M c1 c2 g1.symm (fun i i0 i1 => (g2 i i0 (by omega)).symm) c4
  | succ k ih =>
    intro M a1 o2 o3 hk h1 h2 c1 c2 c3 c4 hg
    refine s_79_28 ⟨fun z => by omega, fun _ => p_79c (M0 := M) (n := M 24 3) rfl ⟨h1, by omega⟩ h2 (fun M1 f1 f2 f3 => ?_) _ M 0 0 (Nat.le_refl _) (Int.le_refl _) (by omega) (Or.inl ⟨h1, rfl⟩) (fun _ _ => rfl) (fun i i0 i1 i2 => by omega) (fun i i0 i1 => by omega)⟩
    have k24 : M1 24 = M 24 := f1 24 (by decide)
    have k29 : M1 29 = M 29 := f1 29 (by decide)
    have k30 : M1 30 = M 30 := f1 30 (by decide)
    have fr : ∀ c, c ≠ 24 → c ≠ 29 → c ≠ 30 → c ≠ 31 → c ≠ 32 → c ≠ 33 → M1 c = M0 c := fun c a b d e f g => (f1 c g).trans (c1 c a b d e f g)
    have e1 : M1 1 = M0 1 := fr 1 (by decide) (by decide) (by decide) (by decide) (by decide) (by decide)
    have e7 : M1 7 = M0 7 := fr 7 (by decide) (by decide) (by decide) (by decide) (by decide) (by decide)
    have e8 : M1 8 = M0 8 := fr 8 (by decide) (by decide) (by decide) (by decide) (by decide) (by decide)
    have e9 : M1 9 = M0 9 := fr 9 (by decide) (by decide) (by decide) (by decide) (by decide) (by decide)
    have e12 : M1 12 = M0 12 := fr 12 (by decide) (by decide) (by decide) (by decide) (by decide) (by decide)
    have hR1 : RK M1 := hR.of e1 e7 e8 e9 e12 (by rw [k24]; exact c2 1 (by decide)) (by rw [k24]; exact c2 2 (by decide)) (fr 25 (by decide) (by decide) (by decide) (by decide) (by decide) (by decide)) (fr 26 (by decide) (by decide) (by decide) (by decide) (by decide) (by decide)) (fr 27 (by decide) (by decide) (by decide) (by decide) (by decide) (by decide)) (fr 28 (by decide) (by decide) (by decide) (by decide) (by decide) (by decide))
    have gvi : ∀ V, GV M0 V → GV M1 V := fun V h => h.of e1 e7 e8 e9
    have gvj : ∀ V, GV M1 V → GV M0 V := fun V h => h.of e1.symm e7.symm e8.symm e9.symm
    have al : ∀ V, ALL M1 33 (M 24 3 - 1) V ↔ LoP (M 29) (M 24 3) a1 V := by
      intro V
      constructor
      · intro h i i0 i1 i2
        rcases (by omega : i < a1 ∨ a1 < i) with w | w
        · rw [← f2 i i0 w]; exact h i i0 (by omega)
        · have h4 := h (i - 1) (by omega) (by omega)
          rw [f3 (i - 1) (by omega) (by omega), show i - 1 + 1 = i by omega] at h4
          exact h4
      · intro h i i0 i1
        rcases (by omega : i < a1 ∨ a1 ≤ i) with w | w
        · rw [f2 i i0 w]; exact h i i0 (by omega) (by omega)
        · rw [f3 i w i1]; exact h (i + 1) (by omega) (by omega) (by omega)
    refine p_77 g_33 (by decide) (by decide) (by decide) hR1 (by omega) (fun i i0 i1 => ?_) (by rw [k30]; exact fun k ka kb => by rw [c4 k ka kb]; exact hb k ka kb) (fun M2 V w1 w2 w3 w4 w5 w6 _ => ?_) (fun M2 w1 w2 w3 => ?_)
    · rw [e1]
      rcases (by omega : i < a1 ∨ a1 ≤ i) with w | w
      · rw [f2 i i0 w]; exact c3 i i0 (by omega)
      · rw [f3 i w i1]; exact c3 (i + 1) (by omega) (by omega)
    · have hs : SoP M0 (M 29) (M 24 3) a1 := ⟨V, gvj V w2, (al V).mp w6⟩
      rcases hg with ⟨_, hg⟩ | ⟨hn, _⟩
      · have n24 : M2 24 = M 24 := (w1 24 (by decide) (by decide) (by decide)).trans k24
        have n29 : M2 29 = M 29 := (w1 29 (by decide) (by decide) (by decide)).trans k29
        rw [k30] at w5
        refine x_bki rfl (s_79_83 ⟨fun z => absurd z (by decide), fun _ => p_76 (fun k ka kb => by rw [w5 k ka kb, c4 k ka kb]; exact hb k ka kb) (fun M3 u1 u2 => x_bkv rfl (s_79_90 ⟨by unfold pm_R; omega, ?_⟩))⟩)
        have m24 : M3 24 = M 24 := (u1 24 (by decide)).trans n24
        have m29 : M3 29 = M 29 := (u1 29 (by decide)).trans n29
        refine ih M3 (a1 + 1) _ _ (by rw [m24]; omega) (by omega) (by rw [m24]; exact h2) (fun c a b d e f g => (u1 c d).trans ((w1 c d e f).trans (fr c a b d e f g))) (by rw [m24]; exact c2) (by rw [m24, m29]; exact c3) (fun k ka kb => by rw [u2 k ka kb, w5 k ka kb]; exact c4 k ka kb) (by rw [m24, m29]; exact hg)
      · exact absurd hs hn
    · have n24 : M2 24 = M 24 := (w1 24 (by decide) (by decide) (by decide)).trans k24
      have n33 : M2 33 = M1 33 := w1 33 (by decide) (by decide) (by decide)
      rw [k30] at w2
      rcases hg with ⟨hs, _⟩ | ⟨_, hg⟩
      · obtain ⟨V, v1, v2⟩ := hs
        exact absurd ((al V).mpr v2) (w3 V (gvi V v1))
      · refine x_bki rfl (s_79_83 ⟨fun _ => ?_, fun z => absurd rfl z⟩)
        generalize hM3 : pm_set M2 24 3 (M 24 3 - 1) = M3
        have o1 : ∀ c, c ≠ 24 → M3 c = M2 c := fun c hc => by rw [← hM3]; exact pm_set_off c hc
        have o2' : ∀ j, j ≠ 3 → M3 24 j = M2 24 j := fun j hj => by rw [← hM3]; exact pm_get_j hj rfl
        have o3' : M3 24 3 = M 24 3 - 1 := by rw [← hM3]; exact pm_get_e
        refine p_79d (by omega) (fun M4 a3 u1 u2 => ?_) _ M3 0 (Nat.le_refl _) (Int.le_refl _) (fun _ _ => rfl) (fun i i0 i1 => by omega)
        have m24 : M4 24 = M3 24 := u1 24 (by decide)
        have lst : ∀ i, 0 ≤ i → i < M 24 3 - 1 → M4 29 i = drP (M 29) a1 i := by
          intro i i0 i1
          rw [u2 i i0 i1, o1 33 (by decide), n33]
          unfold drP
          split
          · exact f2 i i0 (by assumption)
          · exact f3 i (by omega) i1
        refine ih M4 a1 _ _ (by rw [m24, o3']; omega) h1 (by rw [m24, o3']; omega) (fun c a b d e f g => (u1 c b).trans ((o1 c a).trans ((w1 c d e f).trans (fr c a b d e f g)))) (fun j hj => by rw [m24, o2' j hj, n24]; exact c2 j hj) ?_ (fun k ka kb => by rw [u1 30 (by decide), o1 30 (by decide), w2 k ka kb]; exact c4 k ka kb) ?_
        · rw [m24, o3']
          intro i i0 i1
          rw [lst i i0 i1]
          unfold drP
          split
          · exact c3 i i0 (by omega)
          · exact c3 (i + 1) (by omega) (by omega)
        · rw [m24, o3']
          exact GrR.congr k _ _ _ _ h1 (fun i i0 i1 => (lst i i0 i1).symm) hg
theorem p_79 {L : Nat} {Q : pm_P} {M : pm_M} (hR : RK M) (hn : 0 ≤ M 24 3 ∧ M 24 3 ≤ 20) (hr : ∀ i, 0 ≤ i → i < M 24 3 → 0 ≤ M 29 i ∧ M 29 i < M 1 6) (hb : ∀ k, 0 ≤ k → k < 12 → pm_bit (M 30 k))
    (hqA : (∃ V, GV M V ∧ LoP (M 29) (M 24 3) (-1) V) → ∀ M' : pm_M, (∀ c, c ≠ 24 → c ≠ 30 → c ≠ 31 → c ≠ 32 → M' c = M c) → (∀ j, j ≠ 0 → M' 24 j = M 24 j) → (∀ k, 0 ≤ k → k < 12 → M' 30 k = M 30 k) → Q (.inl (some (.inl (-1)))) M')
    (hqB : (∀ V, GV M V → ¬ LoP (M 29) (M 24 3) (-1) V) → ∃ r m, GrR (SoP M) (M 24 3).toNat (M 29) (M 24 3) 0 r m ∧ ∀ M' : pm_M, (∀ c, c ≠ 24 → c ≠ 29 → c ≠ 30 → c ≠ 31 → c ≠ 32 → c ≠ 33 → M' c = M c) → (∀ j, j ≠ 0 → j ≠ 3 → M' 24 j = M 24 j) → M' 24 3 = m → (∀ i, 0 ≤ i → i < m → M' 29 i = r i) → (∀ k, 0 ≤ k → k < 12 → M' 30 k = M 30 k) → Q (.inl (some (.inl m))) M') :
    pm_X L (79, 0, [some (.inr (.inl 24)), none, none, none], [], M) Q := by
  refine s_79_0 ?_
  generalize hM1 : pm_set M 24 0 0 = M1
  have o1 : ∀ c, c ≠ 24 → M1 c = M c := fun c hc => by rw [← hM1]; exact pm_set_off c hc
  have o2 : ∀ j, j ≠ 0 → M1 24 j = M 24 j := fun j hj => by rw [← hM1]; exact pm_get_j hj rfl
  have e1 : M1 1 = M 1 := o1 1 (by decide)
  have e7 : M1 7 = M 7 := o1 7 (by decide)
  have e8 : M1 8 = M 8 := o1 8 (by decide)
  have e9 : M1 9 = M 9 := o1 9 (by decide)
  have e12 : M1 12 = M 12 := o1 12 (by decide)
  have e29 : M1 29 = M 29 := o1 29 (by decide)
  have e30 : M1 30 = M 30 := o1 30 (by decide)
  have hR1 : RK M1 := hR.of e1 e7 e8 e9 e12 (o2 1 (by decide)) (o2 2 (by decide)) (o1 25 (by decide)) (o1 26 (by decide)) (o1 27 (by decide)) (o1 28 (by decide))
  have gvi : ∀ V, GV M V → GV M1 V := fun V h => h.of e1 e7 e8 e9
  have gvj : ∀ V, GV M1 V → GV M V := fun V h => h.of e1.symm e7.symm e8.symm e9.symm
  have al : ∀ V, ALL M1 29 (M 24 3) V ↔ LoP (M 29) (M 24 3) (-1) V := fun V => by
    unfold ALL LoP
    rw [e29]
    exact ⟨fun h i i0 i1 _ => h i i0 i1, fun h i i0 i1 => h i i0 i1 (by omega)⟩
  refine p_77 g_29 (by decide) (by decide) (by decide) hR1 hn.2 (by rw [e29, e1]; exact hr) (by rw [e30]; exact hb) (fun M2 V w1 w2 w3 w4 w5 w6 _ => ?_) (fun M2 w1 w2 w3 => ?_)
  · rw [e30] at w5
    refine x_bki rfl (s_79_17 ⟨fun z => absurd z (by decide), fun _ => p_76 (fun k ka kb => by rw [w5 k ka kb]; exact hb k ka kb) (fun M3 u1 u2 => x_bkv rfl (s_79_24 ?_))⟩)
    exact hqA ⟨V, gvj V w2, (al V).mp w6⟩ M3 (fun c a b d e => (u1 c b).trans ((w1 c b d e).trans (o1 c a))) (fun j hj => by rw [u1 24 (by decide), w1 24 (by decide) (by decide) (by decide)]; exact o2 j hj) (fun k ka kb => by rw [u2 k ka kb]; exact w5 k ka kb)
  · rw [e30] at w2
    obtain ⟨r, m, hg, hq⟩ := hqB (fun V v1 v2 => w3 V (gvi V v1) ((al V).mpr v2))
    have f24 : M2 24 = M1 24 := w1 24 (by decide) (by decide) (by decide)
    have f29 : M2 29 = M 29 := (w1 29 (by decide) (by decide) (by decide)).trans e29
    have fr : ∀ c, c ≠ 24 → c ≠ 30 → c ≠ 31 → c ≠ 32 → M2 c = M c := fun c a d e f => (w1 c d e f).trans (o1 c a)
    have h1 : M2 1 = M 1 := fr 1 (by decide) (by decide) (by decide) (by decide)
    have h7 : M2 7 = M 7 := fr 7 (by decide) (by decide) (by decide) (by decide)
    have h8 : M2 8 = M 8 := fr 8 (by decide) (by decide) (by decide) (by decide)
    have h9 : M2 9 = M 9 := fr 9 (by decide) (by decide) (by decide) (by decide)
    have h12 : M2 12 = M 12 := fr 12 (by decide) (by decide) (by decide) (by decide)
    have hR2 : RK M2 := hR.of h1 h7 h8 h9 h12 (by rw [f24]; exact o2 1 (by decide)) (by rw [f24]; exact o2 2 (by decide)) (fr 25 (by decide) (by decide) (by decide) (by decide)) (fr 26 (by decide) (by decide) (by decide) (by decide)) (fr 27 (by decide) (by decide) (by decide) (by decide)) (fr 28 (by decide) (by decide) (by decide) (by decide))
    have so : SoP M2 = SoP M := SoP.of h1 h7 h8 h9
    have k3 : M2 24 3 = M 24 3 := by rw [f24]; exact o2 3 (by decide)
    refine x_bki rfl (s_79_17 ⟨fun _ => ?_, fun z => absurd rfl z⟩)
    refine p_79l (r := r) (m0 := m) hR2 (fun k ka kb => by rw [w2 k ka kb]; exact hb k ka kb) (fun M' d1 d2 d3 d4 d5 => hq M' (fun c a b d e f g => (d1 c a b d e f g).trans (fr c a d e f)) (fun j j0 j3 => by rw [d2 j j3, f24]; exact o2 j j0) d3 d4 (fun k ka kb => by rw [d5 k ka kb]; exact w2 k ka kb)) (M 24 3).toNat M2 0 none none (by rw [k3]; omega) (Int.le_refl _) (by rw [k3]; exact hn.2) (fun _ _ _ _ _ _ _ => rfl) (fun _ _ => rfl) (by rw [k3, f29, h1]; exact hr) (fun _ _ _ => rfl) (by rw [k3, f29, so]; exact hg)
