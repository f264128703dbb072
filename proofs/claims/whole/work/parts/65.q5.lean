/-! PURE: findsLeast -/
theorem tr_len {o : Int → Int} {n F : Int} (hF : 1 ≤ F) (hn : 0 ≤ n) (hO : ∀ i, 0 ≤ i → i < n → 2 ≤ o i ∧ o i < 2 * F) (hI : ∀ i j, 0 ≤ i → i < n → 0 ≤ j → j < n → o i / 2 = o j / 2 → i = j) : n ≤ F - 1 := by
  rcases (by omega : n = 0 ∨ 0 < n) with z | z
  · omega
  · have hl := hO (n - 1) (by omega) (by omega)
    have := tr_room (o := o) (n := n - 1) (F := F) (l := o (n - 1)) (by omega) (fun i i0 i1 => hO i i0 (by omega)) (fun i j i0 i1 j0 j1 e => hI i j i0 (by omega) j0 (by omega) e) hl.1 hl.2 (fun i i0 i1 e => by have := hI i (n - 1) i0 (by omega) (by omega) (by omega) e; omega)
    omega
theorem DL.few {M : pm_M} {C : Int → List Int} {p : Int} (h : DL M) (hS : SI M C p) (hI : IN M) : M 5 5 ≤ 12 := by
  have h0 := hS.2.2.1
  have h1 := hI.1
  rcases (by omega : M 5 5 = 0 ∨ 0 < M 5 5) with z | z
  · omega
  · obtain ⟨k, k0, k1, -⟩ := h (M 5 5 - 1) (by omega) (by omega)
    have := h.ge hS hI (M 5 5 - 1).toNat k (by omega) k0.1 k0.2 (by rw [show (((M 5 5 - 1).toNat : Nat) : Int) = M 5 5 - 1 by omega]; exact k1)
    omega
/-- all clauses hold where V says which formulas are true -/
def SAT (lits st : Int → Int) (tot : Int) (V : Int → Bool) : Prop := ∀ c, 0 ≤ c → c < tot → ∃ l, inC lits st c l ∧ tv V l = true
/-- what a search leaves -/
def FD (M0 M : pm_M) : Prop :=
  (∀ c, (c ≤ 1 ∨ (6 ≤ c ∧ c ≤ 12) ∨ 24 ≤ c) → M c = M0 c) ∧ M 5 4 ≤ 2000 ∧ (∀ i, 0 ≤ i → i < M 5 4 → 0 ≤ M 22 i ∧ M 22 i < 4000) ∧ (∀ l, M 20 l ≠ 0 → onT (M 22) (M 5 4) l) ∧ (∀ f, M 18 f = 0) ∧ (M0 3 2 ≤ M 3 2 ∧ M 3 2 ≤ M0 3 2 + 4096) ∧ (∀ l, M 15 l ≤ M 3 2) ∧ (M 3 4 = 0 ∨ M 3 4 = 1) ∧ M 14 0 = 0
/-- between lessons: a of them so far -/
def FI (M0 M : pm_M) (C : Int → List Int) (a : Int) : Prop :=
  SI M C (M 4 9) ∧ (0 ≤ M 4 9 ∧ M 4 9 ≤ M 5 4) ∧ (∀ t, 0 ≤ t → t < M 5 5 → M 23 t ≤ M 4 9) ∧ DL M ∧ M 2 2 = M0 2 2 + a ∧ M 2 3 ≤ M0 2 3 + 12 * a ∧ (∀ c l, 0 ≤ c → c < M0 2 2 → (inC (M 13) (M 14) c l ↔ inC (M0 13) (M0 14) c l)) ∧ (∀ V, SAT (M0 13) (M0 14) (M0 2 2) V → SAT (M 13) (M 14) (M 2 2) V) ∧
  LW (inC (M 13) (M 14)) (M0 2 2) (M 2 2) (M0 1 7) (M0 12) ∧ (M 3 3 = M 2 2 ∧ M 3 2 = M0 3 2 + a ∧ (∀ l, M 15 l ≤ M 3 2) ∧ (M 3 4 = 0 ∨ M 3 4 = 1) ∧ ∀ f, M 18 f = 0) ∧ ∀ c, (c ≤ 1 ∨ (6 ≤ c ∧ c ≤ 12) ∨ 24 ≤ c) → M c = M0 c
theorem SI.sound {M : pm_M} {C : Int → List Int} {p : Int} (h : SI M C p) : M 5 4 ≤ 1999 ∧ (∀ i, 0 ≤ i → i < M 5 4 → 0 ≤ M 22 i ∧ M 22 i < 4000) ∧ ∀ l, M 20 l ≠ 0 → onT (M 22) (M 5 4) l := by
  have h1 := h.len
  obtain ⟨-, hF, -, -, h5, h6, -⟩ := h
  exact ⟨by omega, fun i i0 i1 => by have := h6 i i0 i1; omega, fun l => (h5 l).mp⟩
theorem p_43l {L : Nat} {Q : pm_P} {M0 : pm_M} (hI : IN M0) (ht0 : 0 ≤ M0 2 2 ∧ M0 2 2 ≤ 12020) (hu0 : M0 2 3 ≤ 36060) (hs0 : 0 ≤ M0 3 2 ∧ M0 3 2 + 4096 ≤ 2147483647)
    (hq1 : ∀ (M' : pm_M) (C' : Int → List Int), FD M0 M' → SI M' C' (M' 5 4) → DL M' → (∀ k, 0 ≤ k → k < M' 1 7 → ∃ j, 0 ≤ j ∧ j < M' 5 4 ∧ M' 22 j / 2 = M' 12 k) → M0 2 2 ≤ M' 2 2 → (∀ c l, 0 ≤ c → c < M0 2 2 → (inC (M' 13) (M' 14) c l ↔ inC (M0 13) (M0 14) c l)) → (∀ V, SAT (M0 13) (M0 14) (M0 2 2) V → SAT (M' 13) (M' 14) (M' 2 2) V) → Q (.inl (some (.inl 1))) M')
    (hq0 : ∀ (M' : pm_M), FD M0 M' → (∀ V, ¬ SAT (M0 13) (M0 14) (M0 2 2) V) → M' 3 4 = 1 → Q (.inl (some (.inl 0))) M') : ∀ (n : Nat) (M : pm_M) (C : Int → List Int) (a2 : Int) (o3 : Option pm_V), (4096 - a2).toNat ≤ n → 0 ≤ a2 → FI M0 M C a2 →
    pm_X L (43, 7, [some (.inr (.inl 4)), some (.inl (-1)), some (.inl a2), o3], [], M) Q := by
  intro n
  induction n with
  | zero =>
    intro M C a2 o3 hn h0 hfi
    have hc := LW.count hfi.2.2.2.2.2.2.2.2.1 hI.1.2
    have := hfi.2.2.2.2.1
    omega
  | succ n ih =>
    intro M C a2 o3 hn h0 hfi
    obtain ⟨i1, i2, i3, i4, i5, i6, i7, i8, i9, ⟨j1, j2, j3, j4, j5⟩, i11⟩ := hfi
    have hcnt := LW.count i9 hI.1.2
    have e1 : M 1 = M0 1 := i11 1 (by omega)
    have e12 : M 12 = M0 12 := i11 12 (by omega)
    refine s_43_7 ⟨fun z => by omega, fun _ => ⟨fun z => absurd rfl z, fun _ => ?_⟩⟩
    refine p_46 i1 i2.1 i2.2 i3 (hI.of e1 e12) i4 (fun M1 C1 s1 s2 s3 s4 => x_bki rfl (s_43_23 ⟨fun z => absurd rfl z, fun _ => ?_⟩)) (fun M1 C1 c p s1 s2 s3 s4 => x_bki rfl (s_43_23 ⟨fun _ => ?_, fun z => ?_⟩))
    · have g2 : M1 2 = M 2 := s4.1 2 (by decide) (by decide) (by decide) (by decide) (by decide) (by decide) (by decide) (by decide) (by decide)
      have g3 : M1 3 = M 3 := s4.1 3 (by decide) (by decide) (by decide) (by decide) (by decide) (by decide) (by decide) (by decide) (by decide)
      have g15 : M1 15 = M 15 := s4.1 15 (by decide) (by decide) (by decide) (by decide) (by decide) (by decide) (by decide) (by decide) (by decide)
      have g18 : M1 18 = M 18 := s4.1 18 (by decide) (by decide) (by decide) (by decide) (by decide) (by decide) (by decide) (by decide) (by decide)
      obtain ⟨v1, v2, v3⟩ := s1.sound
      refine hq1 M1 C1 ⟨fun c hc => (s4.1 c (by omega) (by omega) (by omega) (by omega) (by omega) (by omega) (by omega) (by omega) (by omega)).trans (i11 c hc), by omega, v2, v3, by rw [g18]; exact j5, by rw [g3]; omega, by rw [g15, g3]; exact j3, by rw [g3]; exact j4, s1.1.2.2.1⟩ s1 s2 s3 (by rw [g2]; omega) (fun c l c0 c1 => (s4.2 c l c0 (by omega)).trans (i7 c l c0 c1)) (fun V hV => ?_)
      rw [g2]
      intro c c0 c1
      obtain ⟨l, l1, l2⟩ := i8 V hV c c0 c1
      exact ⟨l, (s4.2 c l c0 c1).mpr l1, l2⟩
    · -- a clash: a lesson
      have g1 : M1 1 = M 1 := s4.1 1 (by decide) (by decide) (by decide) (by decide) (by decide) (by decide) (by decide) (by decide) (by decide)
      have g2 : M1 2 = M 2 := s4.1 2 (by decide) (by decide) (by decide) (by decide) (by decide) (by decide) (by decide) (by decide) (by decide)
      have g3 : M1 3 = M 3 := s4.1 3 (by decide) (by decide) (by decide) (by decide) (by decide) (by decide) (by decide) (by decide) (by decide)
      have g12 : M1 12 = M 12 := s4.1 12 (by decide) (by decide) (by decide) (by decide) (by decide) (by decide) (by decide) (by decide) (by decide)
      have g15 : M1 15 = M 15 := s4.1 15 (by decide) (by decide) (by decide) (by decide) (by decide) (by decide) (by decide) (by decide) (by decide)
      have g18 : M1 18 = M 18 := s4.1 18 (by decide) (by decide) (by decide) (by decide) (by decide) (by decide) (by decide) (by decide) (by decide)
      have hI1 : IN M1 := hI.of (g1.trans e1) (g12.trans e12)
      have h12 := s3.few s1 hI1
      obtain ⟨v1, v2, v3⟩ := s1.sound
      have s1' := s1
      obtain ⟨a1, b2, b3, b4, b5, b6, b7, b8, b9, b10, b11, b12⟩ := s1'
      have t2 : M1 2 2 = M0 2 2 + a2 := by rw [g2]; exact i5
      have u2 : M1 2 3 ≤ M0 2 3 + 12 * a2 := by rw [g2]; exact i6
      have hu : M1 2 3 + 12 ≤ 85212 := by omega
      have htt : M1 2 2 + 1 ≤ 16116 := by omega
      refine p_53 ⟨a1, b2, ⟨b3.1, v1⟩, ⟨b3.2, h12⟩, b6, b7⟩ b11 s2.1 s2.2.2.2.1 (by rw [g18]; exact j5) hu htt (by rw [g3, g2]; exact j1) (by rw [g3]; omega) (by rw [g15, g3]; exact j3) (by rw [g3]; exact j4) (fun M2 I ix f0 f1 f2 f3 f4 hL k2 k3 k4 k5 k6 k7 => x_bki rfl (s_43_36 ?_))
      obtain ⟨hSL, hK⟩ := SL.of s1 h12 hu htt f0 f1 f2 f3 f4 hL
      have en : M2 14 (M1 2 2 + 1) = M2 2 3 := by rw [f3, upf_e]
      have et : M2 14 (M1 2 2) = M1 2 3 := by rw [f3, upf_n _ _ (by omega)]; exact a1.2.2.2.1
      have o5 : M2 5 = M1 5 := f0 5 (by decide) (by decide) (by decide) (by decide) (by decide) (by decide) (by decide) (by decide)
      have o20 : M2 20 = M1 20 := f0 20 (by decide) (by decide) (by decide) (by decide) (by decide) (by decide) (by decide) (by decide)
      have o21 : M2 21 = M1 21 := f0 21 (by decide) (by decide) (by decide) (by decide) (by decide) (by decide) (by decide) (by decide)
      have o22 : M2 22 = M1 22 := f0 22 (by decide) (by decide) (by decide) (by decide) (by decide) (by decide) (by decide) (by decide)
      have o23 : M2 23 = M1 23 := f0 23 (by decide) (by decide) (by decide) (by decide) (by decide) (by decide) (by decide) (by decide)
      have hfr : ∀ c, (c ≤ 1 ∨ (6 ≤ c ∧ c ≤ 12) ∨ 24 ≤ c) → M2 c = M0 c := fun c hc => ((f0 c (by omega) (by omega) (by omega) (by omega) (by omega) (by omega) (by omega) (by omega)).trans (s4.1 c (by omega) (by omega) (by omega) (by omega) (by omega) (by omega) (by omega) (by omega) (by omega))).trans (i11 c hc)
      have sat1 : ∀ V, SAT (M0 13) (M0 14) (M0 2 2) V → SAT (M1 13) (M1 14) (M1 2 2) V := by
        intro V hV c c0 c1
        rw [g2] at c1
        obtain ⟨l, l1, l2⟩ := i8 V hV c c0 c1
        exact ⟨l, (s4.2 c l c0 c1).mpr l1, l2⟩
      have imp : ∀ V, SAT (M0 13) (M0 14) (M0 2 2) V → ∃ x, M1 2 3 ≤ x ∧ x < M2 2 3 ∧ tv V (M2 13 x) = true := fun V hV => hL.imp rfl b7 s2.1 s2.2.2.2.1 (sat1 V hV)
      have hus : 0 ≤ M1 2 3 := by have h1 := a1.mon (a := 0) (b := M1 2 2) (Int.le_refl _) a1.1 (Int.le_refl _); have h2 := a1.2.2.1; have h3 := a1.2.2.2.1; omega
      rw [en, et]
      refine ⟨by unfold pm_R; omega, ⟨by omega, by omega⟩, ⟨by omega, by omega⟩, by unfold pm_R; omega, fun hne => ?_, fun hem => ?_⟩
      · have hlt : M1 2 3 < M2 2 3 := by omega
        have hX := LX.of b7 s2 f0 et en hlt hL
        refine p_56 hSL (by omega) (by rw [o5, o23]; exact s2.2.2.1) hX (by rw [o5]; exact h12) (by rw [o5]; exact v1) (fun M3 C3 w1 w2 w3 w4 w5 w6 w7 w8 => x_bkv rfl (s_43_55 ⟨by unfold pm_R; omega, ?_⟩))
        refine ih M3 C3 (a2 + 1) _ (by omega) (by omega) ?_
        have m1 : M3 1 = M2 1 := w8 1 (by decide) (by decide) (by decide) (by decide) (by decide) (by decide) (by decide)
        have m2 : M3 2 = M2 2 := w8 2 (by decide) (by decide) (by decide) (by decide) (by decide) (by decide) (by decide)
        have m3 : M3 3 = M2 3 := w8 3 (by decide) (by decide) (by decide) (by decide) (by decide) (by decide) (by decide)
        have m12 : M3 12 = M2 12 := w8 12 (by decide) (by decide) (by decide) (by decide) (by decide) (by decide) (by decide)
        have m13 : M3 13 = M2 13 := w8 13 (by decide) (by decide) (by decide) (by decide) (by decide) (by decide) (by decide)
        have m14 : M3 14 = M2 14 := w8 14 (by decide) (by decide) (by decide) (by decide) (by decide) (by decide) (by decide)
        have m15 : M3 15 = M2 15 := w8 15 (by decide) (by decide) (by decide) (by decide) (by decide) (by decide) (by decide)
        have m18 : M3 18 = M2 18 := w8 18 (by decide) (by decide) (by decide) (by decide) (by decide) (by decide) (by decide)
        have m23 : M3 23 = M2 23 := w8 23 (by decide) (by decide) (by decide) (by decide) (by decide) (by decide) (by decide)
        have n1 : M2 1 = M1 1 := f0 1 (by decide) (by decide) (by decide) (by decide) (by decide) (by decide) (by decide) (by decide)
        have n12 : M2 12 = M1 12 := f0 12 (by decide) (by decide) (by decide) (by decide) (by decide) (by decide) (by decide) (by decide)
        have hKM : ∀ c l, 0 ≤ c → c < M1 2 2 → (inC (M2 13) (M2 14) c l ↔ inC (M 13) (M 14) c l) := fun c l c0 c1 => (hK c l c0 c1).trans (s4.2 c l c0 (by rw [g2] at c1; exact c1))
        have inew : ∀ l, inC (M2 13) (M2 14) (M1 2 2) l ↔ ∃ x, M1 2 3 ≤ x ∧ x < M2 2 3 ∧ M2 13 x = l := fun l => by unfold inC; rw [et, en]
        obtain ⟨c1', c2', c3', c4', c5'⟩ := hX
        rw [o5] at c2'
        rw [o5, o23, et] at c3'
        refine ⟨w1, ⟨w2, by omega⟩, fun t t0 t1 => Int.le_of_lt (w4 t t0 t1), ?_, by rw [m2, f1]; omega, by rw [m2]; omega, ?_, ?_, ?_, ⟨by rw [m3, m2]; exact k3, by rw [m3, k2, g3]; omega, by rw [m15, m3]; exact k6, by rw [m3]; exact k4, by rw [m18]; exact k7⟩, fun c hc => (w8 c (by omega) (by omega) (by omega) (by omega) (by omega) (by omega) (by omega)).trans (hfr c hc)⟩
        · intro t t0 t1
          rw [o5] at w5
          obtain ⟨k, k0, k1, kk⟩ := s3 t t0 (by omega)
          have hw := w4 t t0 t1
          rw [m1, m12, m23, n1, n12, o23]
          rw [m23, o23] at hw
          refine ⟨k, k0, by rw [w7 _ hw, o22]; exact k1, fun k' k0' k1' => ?_⟩
          obtain ⟨j, q0, q1, q2⟩ := kk k' k0' k1'
          exact ⟨j, q0, q1, by rw [w7 j (by omega), o22]; exact q2⟩
        · rw [m13, m14]
          exact fun c l c0 c1 => (hKM c l c0 (by omega)).trans (i7 c l c0 c1)
        · rw [m13, m14, m2, f1]
          intro V hV c c0 c1
          rcases (by omega : c < M1 2 2 ∨ c = M1 2 2) with z | z
          · obtain ⟨l, l1, l2⟩ := sat1 V hV c c0 z
            exact ⟨l, (hK c l c0 z).mpr l1, l2⟩
          · obtain ⟨x, x0, x1, x2⟩ := imp V hV
            exact ⟨M2 13 x, by rw [z]; exact (inew _).mpr ⟨x, x0, x1, rfl⟩, x2⟩
        · rw [m13, m14, m2, f1]
          refine ⟨fun c c0 c1 => ?_, fun c d c0 c1 c2 hall => ?_⟩
          · rcases (by omega : c < M1 2 2 ∨ c = M1 2 2) with z | z
            · obtain ⟨⟨l, hl⟩, ha⟩ := i9.1 c c0 (by rw [← g2]; exact z)
              exact ⟨⟨l, (hKM c l (by omega) z).mpr hl⟩, fun l hl => ha l ((hKM c l (by omega) z).mp hl)⟩
            · rw [z]
              refine ⟨⟨M2 13 (M1 2 3), (inew _).mpr ⟨M1 2 3, Int.le_refl _, hlt, rfl⟩⟩, fun l hl => ?_⟩
              obtain ⟨x, x0, x1, x2⟩ := (inew l).mp hl
              obtain ⟨y1, y2, y3, y4⟩ := hL.2.2.1 x x0 x1
              obtain ⟨t, t0, t1, tt⟩ := b7.2.2.2.2.1 _ y1.1 y1.2 y2
              obtain ⟨k, k0, k1, -⟩ := s3 t t0 t1
              refine ⟨k, k0.1, by rw [← e1, ← g1]; exact k0.2, ?_⟩
              rw [← x2, y4, tt, k1, op_two1, g12, e12]
          · rcases (by omega : d < M1 2 2 ∨ d = M1 2 2) with z | z
            · exact i9.2 c d c0 c1 (by rw [← g2]; exact z) (fun l => ((hKM c l (by omega) (by omega)).symm.trans (hall l)).trans (hKM d l (by omega) z))
            · rw [z] at hall
              obtain ⟨l, l1, l2, l3⟩ := b7.2.2.2.2.2.2.2 (M1 5 5 - 1) c (by omega) (by omega) (by omega) (by omega)
              obtain ⟨x, x0, x1, x2⟩ := (inew l).mp ((hall l).mp ((hK c l (by omega) (by omega)).mpr l1))
              obtain ⟨y1, y2, y3, y4⟩ := hL.2.2.1 x x0 x1
              rcases (by omega : x = M1 2 3 ∨ M1 2 3 < x) with q | q
              · exact l2 (by rw [← x2, y4, q, c3'])
              · have hlt2 := hL.2.2.2.1 (M1 2 3) x (Int.le_refl _) q x1
                exact l3 ⟨ix x, y1.1, by omega, by rw [← x2, y4, op_op]⟩
      · have hsame : M2 2 3 = M1 2 3 := by omega
        refine hq0 M2 ⟨hfr, by rw [o5]; omega, by rw [o5, o22]; exact v2, by rw [o5, o22, o20]; exact v3, k7, by rw [k2, g3]; omega, k6, k4, by rw [f3, upf_n _ _ (by omega)]; exact a1.2.2.1⟩ (fun V hV => ?_) (k5 hsame)
        obtain ⟨x, x0, x1, -⟩ := imp V hV
        omega
    · have := s2.1
      omega
theorem p_43 {L : Nat} {Q : pm_P} {M0 : pm_M} (hcd : CD (M0 13) (M0 14) (M0 2 2) (M0 2 3) (M0 1 6)) (hF : 1 ≤ M0 1 6 ∧ M0 1 6 ≤ 2000) (hN : ND (M0 13) (M0 14) (M0 2 2)) (h1 : M0 5 4 ≤ 2000) (h2 : ∀ i, 0 ≤ i → i < M0 5 4 → 0 ≤ M0 22 i ∧ M0 22 i < 4000) (h3 : ∀ l, M0 20 l ≠ 0 → onT (M0 22) (M0 5 4) l)
    (hI : IN M0) (ht0 : M0 2 2 ≤ 12020) (hu0 : M0 2 3 ≤ 36060) (hs0 : 0 ≤ M0 3 2 ∧ M0 3 2 + 4096 ≤ 2147483647) (ht : M0 3 3 = M0 2 2) (h15 : ∀ l, M0 15 l ≤ M0 3 2) (hrf : M0 3 4 = 0 ∨ M0 3 4 = 1) (h18 : ∀ f, M0 18 f = 0)
    (hq1 : ∀ (M' : pm_M) (C' : Int → List Int), FD M0 M' → SI M' C' (M' 5 4) → DL M' → (∀ k, 0 ≤ k → k < M' 1 7 → ∃ j, 0 ≤ j ∧ j < M' 5 4 ∧ M' 22 j / 2 = M' 12 k) → M0 2 2 ≤ M' 2 2 → (∀ c l, 0 ≤ c → c < M0 2 2 → (inC (M' 13) (M' 14) c l ↔ inC (M0 13) (M0 14) c l)) → (∀ V, SAT (M0 13) (M0 14) (M0 2 2) V → SAT (M' 13) (M' 14) (M' 2 2) V) → Q (.inl (some (.inl 1))) M')
    (hq0 : ∀ (M' : pm_M), FD M0 M' → (∀ V, ¬ SAT (M0 13) (M0 14) (M0 2 2) V) → M' 3 4 = 1 → Q (.inl (some (.inl 0))) M') :
    pm_X L (43, 0, [some (.inr (.inl 4)), none, none, none], [], M0) Q := by
  refine s_43_0 (p_45 hcd hF hN h1 h2 h3 (fun M1 C1 k hT => x_bki rfl (s_43_4 ?_)))
  obtain ⟨t1, t2, t3, t4, t5, t6, t7, t8, t9, t10⟩ := hT
  have g1 : M1 1 = M0 1 := t1 1 (by decide) (by decide) (by decide) (by decide) (by decide) (by decide) (by decide)
  have g2 : M1 2 = M0 2 := t1 2 (by decide) (by decide) (by decide) (by decide) (by decide) (by decide) (by decide)
  have g3 : M1 3 = M0 3 := t1 3 (by decide) (by decide) (by decide) (by decide) (by decide) (by decide) (by decide)
  have g13 : M1 13 = M0 13 := t1 13 (by decide) (by decide) (by decide) (by decide) (by decide) (by decide) (by decide)
  have g14 : M1 14 = M0 14 := t1 14 (by decide) (by decide) (by decide) (by decide) (by decide) (by decide) (by decide)
  have g15 : M1 15 = M0 15 := t1 15 (by decide) (by decide) (by decide) (by decide) (by decide) (by decide) (by decide)
  have g18 : M1 18 = M0 18 := t1 18 (by decide) (by decide) (by decide) (by decide) (by decide) (by decide) (by decide)
  have g23 : M1 23 = M0 23 := t1 23 (by decide) (by decide) (by decide) (by decide) (by decide) (by decide) (by decide)
  have hfr : ∀ c, (c ≤ 1 ∨ (6 ≤ c ∧ c ≤ 12) ∨ 24 ≤ c) → M1 c = M0 c := fun c hc => t1 c (by omega) (by omega) (by omega) (by omega) (by omega) (by omega) (by omega)
  have hlen := tr_len hF.1 t4 t7 t8.1
  have hT1 : TR (inC (M1 13) (M1 14)) (M1 2 2) (M1 22) (M1 5 4) (M1 21) (M1 23) (M1 5 5) := by rw [g13, g14, g2, g23, t3]; exact t8
  have hcd1 : CD (M1 13) (M1 14) (M1 2 2) (M1 2 3) (M1 1 6) := by rw [g13, g14, g2, g1]; exact hcd
  have hN1 : ND (M1 13) (M1 14) (M1 2 2) := by rw [g13, g14, g2]; exact hN
  rcases t10 with ⟨w1, w2, w3⟩ | ⟨w1, w2⟩
  · rw [w1]
    refine p_43l hI ⟨hcd.1, ht0⟩ hu0 hs0 hq1 hq0 _ M1 C1 0 none (Nat.le_refl _) (Int.le_refl _) ?_
    have hS : SI M1 C1 (M1 4 9) := by
      refine ⟨hcd1, by rw [g1]; exact hF, ⟨t4, by omega⟩, t5, t6, by rw [g1]; exact t7, hT1, fun c b p _ _ _ _ p0 p1 => by omega, by rw [g13, g14, g2, g23, t3]; exact w2, by rw [g14, g2]; exact w3, hN1, by rw [g13, g14, g2, g1]; exact t9⟩
    refine ⟨hS, ⟨by omega, by omega⟩, fun t t0 t1' => by omega, fun t t0 t1' => by omega, by rw [g2]; omega, by rw [g2]; omega, fun c l _ _ => by rw [g13, g14], fun V hV => by rw [g13, g14, g2]; exact hV, ⟨fun c c0 c1 => by rw [g2] at c1; omega, fun c d c0 c1 c2 => by rw [g2] at c2; omega⟩, ⟨by rw [g3, g2]; exact ht, by rw [g3]; omega, by rw [g15, g3]; exact h15, by rw [g3]; exact hrf, by rw [g18]; exact h18⟩, hfr⟩
  · refine s_43_7 ⟨fun z => by omega, fun _ => ⟨fun _ => ?_, fun z => absurd (by omega) z⟩⟩
    have hfail : ∀ l, inC (M1 13) (M1 14) k l → onT (M1 22) (M1 5 4) (pm_op l) := by rw [g13, g14]; exact w2
    refine p_53 ⟨hcd1, by rw [g1]; exact hF, ⟨t4, by omega⟩, ⟨by omega, by omega⟩, by rw [g1]; exact t7, hT1⟩ hN1 (by rw [g2]; exact w1) hfail (by rw [g18]; exact h18) (by rw [g2]; omega) (by rw [g2]; omega) (by rw [g3, g2]; exact ht) (by rw [g3]; omega) (by rw [g15, g3]; exact h15) (by rw [g3]; exact hrf) (fun M2 I ix f0 f1 f2 f3 f4 hL k2 k3 k4 k5 k6 k7 => x_bki rfl (s_43_36 ?_))
    have en : M2 14 (M1 2 2 + 1) = M2 2 3 := by rw [f3, upf_e]
    have et : M2 14 (M1 2 2) = M1 2 3 := by rw [f3, upf_n _ _ (by omega)]; exact hcd1.2.2.2.1
    have hus : 0 ≤ M1 2 3 := by have h1 := hcd1.mon (a := 0) (b := M1 2 2) (Int.le_refl _) hcd1.1 (Int.le_refl _); have h2 := hcd1.2.2.1; have h3 := hcd1.2.2.2.1; omega
    have o5 : M2 5 = M1 5 := f0 5 (by decide) (by decide) (by decide) (by decide) (by decide) (by decide) (by decide) (by decide)
    have o20 : M2 20 = M1 20 := f0 20 (by decide) (by decide) (by decide) (by decide) (by decide) (by decide) (by decide) (by decide)
    have o22 : M2 22 = M1 22 := f0 22 (by decide) (by decide) (by decide) (by decide) (by decide) (by decide) (by decide) (by decide)
    have z22 : M1 2 2 = M0 2 2 := by rw [g2]
    have z23 : M1 2 3 = M0 2 3 := by rw [g2]
    have hc0 := hcd.1
    rw [en, et]
    refine ⟨by unfold pm_R; omega, ⟨by omega, by omega⟩, ⟨by omega, by omega⟩, by unfold pm_R; omega, fun hne => by omega, fun _ => ?_⟩
    refine hq0 M2 ⟨fun c hc => (f0 c (by omega) (by omega) (by omega) (by omega) (by omega) (by omega) (by omega) (by omega)).trans (hfr c hc), by rw [o5]; omega, by rw [o5, o22]; exact fun i i0 i1 => by have := t7 i i0 i1; omega, by rw [o5, o22, o20]; exact fun l => (t6 l).mp, k7, by rw [k2, g3]; omega, k6, k4, by rw [f3, upf_n _ _ (by omega)]; exact hcd1.2.2.1⟩ (fun V hV => ?_) (k5 (by omega))
    obtain ⟨x, x0, x1, -⟩ := hL.imp (n := M1 5 4) (V := V) rfl hT1 (by rw [g2]; exact w1) hfail (by rw [g13, g14, g2]; exact hV)
    omega
