/-! PURE: learn -/
/-- what a lesson is: the opposites of the tried ones on which the clash rests, the last tried first -/
def LSN (M M' : pm_M) (clash : Int) (I : Int → Prop) (ix : Int → Int) : Prop :=
  (∀ l, inC (M 13) (M 14) clash l → I (l / 2)) ∧ (∀ i, 0 ≤ i → i < M 5 4 → I (M 22 i / 2) → M 21 (M 22 i) ≠ -1 → ∀ l, inC (M 13) (M 14) (M 21 (M 22 i)) l → I (l / 2)) ∧
  (∀ x, M 2 3 ≤ x → x < M' 2 3 → (0 ≤ ix x ∧ ix x < M 5 4) ∧ M 21 (M 22 (ix x)) = -1 ∧ I (M 22 (ix x) / 2) ∧ M' 13 x = pm_op (M 22 (ix x))) ∧ (∀ x y, M 2 3 ≤ x → x < y → y < M' 2 3 → ix y < ix x) ∧
  (∀ i, 0 ≤ i → i < M 5 4 → M 21 (M 22 i) = -1 → I (M 22 i / 2) → ∃ x, M 2 3 ≤ x ∧ x < M' 2 3 ∧ ix x = i)
theorem p_53 {L : Nat} {Q : pm_P} {M : pm_M} {a1 : Int} (hB : LB M) (hN : ND (M 13) (M 14) (M 2 2)) (hc : 0 ≤ a1 ∧ a1 < M 2 2) (hfail : ∀ l, inC (M 13) (M 14) a1 l → onT (M 22) (M 5 4) (pm_op l)) (h18 : ∀ f, M 18 f = 0) (hu : M 2 3 + 12 ≤ 85212) (htt : M 2 2 + 1 ≤ 16116)
    (ht : M 3 3 = M 2 2) (hst : 0 ≤ M 3 2 ∧ M 3 2 + 1 ≤ 2147483647) (h15 : ∀ l, M 15 l ≤ M 3 2) (hrf : M 3 4 = 0 ∨ M 3 4 = 1)
    (hq : ∀ (M' : pm_M) (I : Int → Prop) (ix : Int → Int), (∀ c, c ≠ 2 → c ≠ 3 → c ≠ 4 → c ≠ 13 → c ≠ 14 → c ≠ 15 → c ≠ 18 → c ≠ 19 → M' c = M c) → M' 2 2 = M 2 2 + 1 → (M 2 3 ≤ M' 2 3 ∧ M' 2 3 ≤ M 2 3 + M 5 5) → M' 14 = upf (M 14) (M 2 2 + 1) (M' 2 3) → (∀ x, x < M 2 3 → M' 13 x = M 13 x) → LSN M M' a1 I ix →
      M' 3 2 = M 3 2 + 1 → M' 3 3 = M' 2 2 → (M' 3 4 = 0 ∨ M' 3 4 = 1) → (M' 2 3 = M 2 3 → M' 3 4 = 1) → (∀ l, M' 15 l ≤ M' 3 2) → (∀ f, M' 18 f = 0) → Q (.inl (some (.inl (M 2 2)))) M') :
    pm_X L (53, 0, [some (.inr (.inl 4)), some (.inl a1), none, none], [], M) Q := by
  have hB0 := hB
  obtain ⟨hcd, hF, hn, hlv, hO, hT⟩ := hB
  have hat := hcd.at hc.1 hc.2
  have htot := hcd.2.1
  have hused := hcd.2.2.2.2.1
  refine s_53_0 (p_54 hc.1 (by omega) (by omega) (by omega) (fun i i0 i1 => by have := hcd.2.2.2.2.2.2 i (by omega) (by omega); omega) (fun M1 q1 q2 q3 => x_bkv rfl (s_53_5 ?_)))
  have e5 : M1 5 = M 5 := q1 5 (by decide)
  have hJ1 : LJ M M1 a1 (M1 5 4 - 1) (fun _ => 0) := by
    rw [e5]
    have e2 : M1 2 = M 2 := q1 2 (by decide)
    have e13 : M1 13 = M 13 := q1 13 (by decide)
    refine ⟨fun c _ _ c18 => q1 c c18, by rw [e2], fun x _ => by rw [e13], by rw [e2]; omega, fun t t0 t1 t2 => by rw [e2]; omega, fun l hl => q2 _ ⟨l, hl, rfl⟩, fun i i0 i1 => by omega, fun f => ?_, fun f hf => ?_, fun x x0 x1 => by rw [e2] at x1; omega, fun x y x0 x1 x2 => by rw [e2] at x2; omega, fun i i0 i1 => by omega⟩
    · by_cases hx : ∃ l, inC (M 13) (M 14) a1 l ∧ l / 2 = f
      · exact Or.inr (q2 f hx)
      · rw [q3 f hx]; exact Or.inl (h18 f)
    · by_cases hx : ∃ l, inC (M 13) (M 14) a1 l ∧ l / 2 = f
      · obtain ⟨l, hl, e⟩ := hx
        obtain ⟨j, j0, j1, j2⟩ := hfail l hl
        exact ⟨j, j0, j1, by rw [j2, op_div]; exact e⟩
      · rw [q3 f hx, h18 f] at hf; exact absurd hf (by decide)
  refine ⟨by rw [e5]; unfold pm_R; omega, p_53l hB0 hu _ M1 _ _ none (Nat.le_refl _) (by rw [e5]; omega) (by rw [e5]; omega) hJ1 (fun M2 ix o3 hJ => ?_)⟩
  obtain ⟨j1, j2, j3, j4, j5, j6, j7, j8, j9, j10, j11, j12⟩ := hJ
  refine s_53_15 ⟨fun _ => ⟨by rw [j2]; unfold pm_R; omega, by rw [j2]; exact ⟨by omega, by omega⟩, s_55_0 ?_⟩, fun z => by omega⟩
  rw [j2]
  -- M4: the memory in which hints are collected
  generalize hM4 : pm_set (pm_set (pm_set M2 2 2 (M 2 2 + 1)) 14 (M 2 2 + 1) (M2 2 3)) 4 8 0 = M4
  have c4 : ∀ c, c ≠ 2 → c ≠ 4 → c ≠ 13 → c ≠ 14 → c ≠ 18 → M4 c = M c := fun c c2 c4 c13 c14 c18 => by rw [← hM4, pm_set_off c c4, pm_set_off c c14, pm_set_off c c2]; exact j1 c c2 c13 c18
  have m13 : M4 13 = M2 13 := by rw [← hM4, pm_set_off 13 (by decide), pm_set_off 13 (by decide), pm_set_off 13 (by decide)]
  have m18 : M4 18 = M2 18 := by rw [← hM4, pm_set_off 18 (by decide), pm_set_off 18 (by decide), pm_set_off 18 (by decide)]
  have m14 : M4 14 = upf (M 14) (M 2 2 + 1) (M2 2 3) := by rw [← hM4, pm_set_off 14 (by decide), pm_cell, if_pos rfl, pm_set_off 14 (by decide), j1 14 (by decide) (by decide) (by decide)]
  have m22 : M4 2 2 = M 2 2 + 1 := by rw [← hM4, pm_set_off 2 (by decide), pm_set_off 2 (by decide), pm_get_e]
  have m23 : M4 2 3 = M2 2 3 := by rw [← hM4, pm_set_off 2 (by decide), pm_set_off 2 (by decide), pm_get_j (by decide) rfl]
  have m48 : M4 4 8 = 0 := by rw [← hM4]; exact pm_get_e
  have o5 : M4 5 = M 5 := c4 5 (by decide) (by decide) (by decide) (by decide) (by decide)
  have o21 : M4 21 = M 21 := c4 21 (by decide) (by decide) (by decide) (by decide) (by decide)
  have o22 : M4 22 = M 22 := c4 22 (by decide) (by decide) (by decide) (by decide) (by decide)
  have o3e : M4 3 = M 3 := c4 3 (by decide) (by decide) (by decide) (by decide) (by decide)
  have o15 : M4 15 = M 15 := c4 15 (by decide) (by decide) (by decide) (by decide) (by decide)
  refine p_55l (M1 := M4) (by rw [o5]; exact hn) (by rw [o5, o22]; exact fun i i0 i1 => by have := hO i i0 i1; omega) (by rw [o5, o22]; exact fun i j i0 i1 j0 j1' e => hT.inj i0 i1 j0 j1' e) (by rw [m18]; exact j8) _ M4 0 (fun _ => 0) none (Nat.le_refl _) (Int.le_refl _) (by rw [o5]; exact hn.1) (fun _ _ _ _ => rfl) (fun i i0 i1 => by omega) (fun _ _ => rfl) (by rw [m48]; omega) (by rw [m48]; omega)
    (by rw [m48]; exact ⟨fun x x0 x1 => by omega, fun x y x0 x1 x2 => by omega, fun i i0 i1 => by omega⟩) ?_
  rw [o5]
  intro M5 ih h s1 s2 s3 h0 h1 s4 s5 hH
  have d3 : M5 3 = M 3 := (s1 3 (by decide) (by decide) (by decide)).trans o3e
  have d13 : M5 13 = M2 13 := (s1 13 (by decide) (by decide) (by decide)).trans m13
  have d14 : M5 14 = upf (M 14) (M 2 2 + 1) (M2 2 3) := (s1 14 (by decide) (by decide) (by decide)).trans m14
  have d15 : M5 15 = M 15 := (s1 15 (by decide) (by decide) (by decide)).trans o15
  have d2 : M5 2 = M4 2 := s1 2 (by decide) (by decide) (by decide)
  have d18 : ∀ f, M5 18 f = 0 := by
    intro f
    by_cases hx : ∃ i, 0 ≤ i ∧ i < M 5 4 ∧ M4 22 i / 2 = f
    · obtain ⟨i, i0, i1, i2⟩ := hx
      rw [← i2]
      exact s2 i i0 i1
    · rw [s3 f hx, m18]
      rcases j8 f with w | w
      · exact w
      · obtain ⟨i, i0, i1, i2⟩ := j9 f w
        exact absurd ⟨i, i0, i1, by rw [o22]; exact i2⟩ hx
  refine x_bkv rfl (s_53_100 ?_)
  rw [s4]
  obtain ⟨hh1, hh2, hh3⟩ := hH
  rw [o21, o22, m18] at hh1 hh3
  -- rows of the old clauses are as they were
  have row : ∀ c, 0 ≤ c → c < M 2 2 → M5 14 c = M 14 c ∧ M5 14 (c + 1) = M 14 (c + 1) := fun c c0 c1 => ⟨by rw [d14, upf_n _ _ (by omega)], by rw [d14, upf_n _ _ (by omega)]⟩
  have litA : ∀ x, x < M 2 3 → M5 13 x = M 13 x := fun x hx => by rw [d13]; exact j3 x hx
  have rb : ∀ c, 0 ≤ c → c < M 2 2 → RB M5 c := by
    intro c c0 c1
    obtain ⟨e1, e2⟩ := row c c0 c1
    have ha := hcd.at c0 c1
    refine ⟨c0, by omega, by rw [e1]; omega, by rw [e1]; omega, by rw [e2]; omega, fun i i0 i1 => ?_⟩
    rw [e1] at i0
    rw [e2] at i1
    rw [litA i (by omega)]
    have := hcd.2.2.2.2.2.2 i (by omega) (by omega)
    omega
  have tst : M5 14 (M 2 2) = M 2 3 := by rw [d14, upf_n _ _ (by omega)]; exact hcd.2.2.2.1
  have ten : M5 14 (M 2 2 + 1) = M2 2 3 := by rw [d14, upf_e]
  have hu0 : 0 ≤ M 2 3 := by have := hcd.mon (a := 0) (b := M 2 2) (Int.le_refl _) hcd.1 (Int.le_refl _); have := hcd.2.2.1; have := hcd.2.2.2.1; omega
  have rbT : RB M5 (M 2 2) := by
    refine ⟨hcd.1, by omega, by rw [tst]; omega, by rw [tst]; omega, by rw [ten]; omega, fun i i0 i1 => ?_⟩
    rw [tst] at i0
    rw [ten] at i1
    obtain ⟨b1, -, -, b4⟩ := j10 i i0 i1
    have := hO _ (by omega) b1.2
    have := op_div (M 22 (ix i))
    rw [d13, b4]
    omega
  -- a failing literal of an involved formula fails for the checker too
  have fail : ∀ (x l : Int), 0 ≤ x → x ≤ h → M2 18 (l / 2) = 1 → (∃ j, 0 ≤ j ∧ j < M 5 4 ∧ M 22 j = pm_op l ∧ (∀ y, x ≤ y → y < h → j < ih y)) → FL M5 (M 2 2) (fun y => M 22 (ih y)) x l := by
    rintro x l x0 x1 hl ⟨j, b0, b1, b2, b3⟩
    have hIj : M2 18 (M 22 j / 2) = 1 := by rw [b2, op_div]; exact hl
    by_cases hf : M 21 (M 22 j) = -1
    · obtain ⟨y, y0, y1, y2⟩ := j12 j (by omega) b1 hf hIj
      refine Or.inl ⟨y, by rw [tst]; exact y0, by rw [ten]; exact y1, ?_⟩
      rw [d13, (j10 y y0 y1).2.2.2, y2, b2, op_op]
    · obtain ⟨y, y0, y1, y2⟩ := hh3 j b0 b1 hf hIj
      refine Or.inr ⟨y, y0, ?_, ?_⟩
      · rcases (by omega : y < x ∨ x ≤ y) with q | q
        · exact q
        · have := b3 y q y1; omega
      · show l = pm_op (M 22 (ih y))
        rw [y2, b2, op_op]
  have nofail : ∀ (x l : Int), x ≤ h → onT (M 22) (M 5 4) l → ¬ FL M5 (M 2 2) (fun y => M 22 (ih y)) x l := by
    intro x l x1 hl z
    have hop : onT (M 22) (M 5 4) (pm_op l) := by
      rcases z with ⟨y, y0, y1, y2⟩ | ⟨y, y0, y1, y2⟩
      · rw [tst] at y0
        rw [ten] at y1
        obtain ⟨b1, -, -, b4⟩ := j10 y y0 y1
        rw [d13, b4] at y2
        exact ⟨ix y, by omega, b1.2, by rw [← y2, op_op]⟩
      · have b1 := (hh1 y y0 (by omega)).1
        have y2 : l = pm_op (M 22 (ih y)) := y2
        exact ⟨ih y, b1.1, b1.2, by rw [y2, op_op]⟩
    exact hT.two hl hop
  have hHK : HK M5 (M 2 2) h (fun y => M 22 (ih y)) := by
    refine ⟨fun x x0 x1 => ?_, fun x x0 x1 => ?_, fun i i0 i1 => ?_⟩
    · rw [d3, ht]
      rcases (by omega : x < h ∨ x = h) with q | q
      · obtain ⟨b1, b2, b3, b4⟩ := hh1 x x0 q
        obtain ⟨r1, -, -⟩ := hT.2.2.2.2.2.1 (ih x) b1.1 b1.2 b2
        rw [b4]
        exact ⟨rb _ r1.1 r1.2, r1.2⟩
      · rw [q, s5]; exact ⟨rb a1 hc.1 hc.2, hc.2⟩
    · obtain ⟨b1, b2, b3, b4⟩ := hh1 x x0 x1
      obtain ⟨r1, ⟨i0, r2, r3, r4⟩, r5⟩ := hT.2.2.2.2.2.1 (ih x) b1.1 b1.2 b2
      have hoi := hO (ih x) b1.1 b1.2
      obtain ⟨w1, w2⟩ := row _ r1.1 r1.2
      have ha := hcd.at r1.1 r1.2
      refine ⟨⟨by show 0 ≤ M 22 (ih x); omega, by show M 22 (ih x) < 4000; omega⟩, nofail x _ (by omega) ⟨ih x, b1.1, b1.2, rfl⟩, i0, by rw [b4, w1]; exact r2, by rw [b4, w2]; exact r3, by show M5 13 i0 = M 22 (ih x); rw [litA i0 (by omega)]; exact r4, fun i ia ib hne => ?_⟩
      rw [b4, w1] at ia
      rw [b4, w2] at ib
      rw [litA i (by omega)]
      have hin : inC (M 13) (M 14) (M 21 (M 22 (ih x))) (M 13 i) := ⟨i, ia, ib, rfl⟩
      have hnel : M 13 i ≠ M 22 (ih x) := by
        rw [← r4]
        rcases (by omega : i < i0 ∨ i0 < i) with q | q
        · exact hN _ i i0 r1.1 r1.2 ia q r3
        · exact fun z => hN _ i0 i r1.1 r1.2 r2 q ib z.symm
      obtain ⟨j, t0, t1, t2⟩ := r5 _ hin hnel
      refine fail x _ x0 (by omega) (j7 (ih x) (by omega) b1.2 b3 b2 _ hin) ⟨j, t0, by omega, t2, fun y y0 y1 => ?_⟩
      rcases (by omega : y = x ∨ x < y) with q | q
      · rw [q]; exact t1
      · have := hh2 x y x0 q y1; omega
    · obtain ⟨w1, w2⟩ := row a1 hc.1 hc.2
      rw [s5, w1] at i0
      rw [s5, w2] at i1
      rw [litA i (by omega)]
      have hin : inC (M 13) (M 14) a1 (M 13 i) := ⟨i, i0, i1, rfl⟩
      obtain ⟨j, t0, t1, t2⟩ := hfail _ hin
      exact fail h _ h0 (Int.le_refl _) (j6 _ hin) ⟨j, t0, t1, t2, fun y y0 y1 => by omega⟩
  refine p_39 (h := h) (g := fun y => M 22 (ih y)) (by rw [d3, ht]) rbT (by rw [d3]; exact hst) (by rw [d15, d3]; exact h15) ⟨h0, by omega⟩ hHK (by rw [d3]; exact hrf) (by rw [tst, ten]; exact j4.1) (fun M6 k1 k2 k3 k4 k5 k6 => x_bkv rfl (s_53_116 ?_))
  have z2 : M6 2 = M4 2 := (k1 2 (by decide) (by decide)).trans d2
  have z23 : M6 2 3 = M2 2 3 := by rw [z2]; exact m23
  have z13 : M6 13 = M2 13 := (k1 13 (by decide) (by decide)).trans d13
  refine hq M6 (fun f => M2 18 f = 1) ix (fun c c2 c3 c4' c13 c14 c15 c18 c19 => by rw [k1 c c15 c3, s1 c c4' c18 c19]; exact c4 c c2 c4' c13 c14 c18) (by rw [z2]; exact m22) (by rw [z23]; exact j4) (by rw [k1 14 (by decide) (by decide), d14, z23]) (by rw [z13]; exact j3) ⟨j6, fun i i0 i1 => j7 i (by omega) i1, ?_, ?_, ?_⟩ (by rw [k2, d3]) (by rw [k3, d3, ht, z2, m22]) k4 (fun z => k5 (by rw [ten, tst, ← z23]; exact z)) k6 (fun f => by rw [k1 18 (by decide) (by decide)]; exact d18 f)
  · rw [z23, z13]
    intro x x0 x1
    obtain ⟨b1, b2⟩ := j10 x x0 x1
    exact ⟨⟨by omega, b1.2⟩, b2⟩
  · rw [z23]; exact j11
  · rw [z23]; exact fun i i0 i1 => j12 i (by omega) i1
