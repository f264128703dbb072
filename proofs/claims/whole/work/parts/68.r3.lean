/-! PURE: what is asked; inputs are looked for -/
/-- a question stands: T are its aims, the gates that matter are described -/
def QR (M M' : pm_M) (T : Int → Int → Int → Prop) : Prop :=
  (∀ c, c ≠ 2 → c ≠ 11 → c ≠ 13 → c ≠ 14 → M' c = M c) ∧ RW M' ∧ (M' 2 2 ≤ 12020 ∧ M' 2 3 ≤ 36060) ∧
  (∀ f, 0 < f → f < M 1 6 → M' 11 f ≠ 0 → M 7 f ≠ -1 → M' 11 (M 7 f / 2) ≠ 0 ∧ M' 11 (M 8 f / 2) ≠ 0 ∧ M' 11 (M 9 f / 2) ≠ 0) ∧
  RT M' (fun x y z => T x y z ∨ ∃ f, (0 < f ∧ f < M 1 6) ∧ M' 11 f ≠ 0 ∧ M 7 f ≠ -1 ∧ G6 (M 7 f) (M 8 f) (M 9 f) (2 * f) x y z) ∧ ∀ x y z l, T x y z → TRI x y z l → M' 11 (l / 2) ≠ 0
theorem QR.of {M M1 M' : pm_M} {T : Int → Int → Int → Prop} (hf : ∀ c, c ≠ 2 → c ≠ 11 → c ≠ 13 → c ≠ 14 → M1 c = M c) (hF : 1 ≤ M 1 6 ∧ M 1 6 ≤ 2000) (hu : M1 2 3 ≤ 60) (ht : M1 2 2 ≤ 20) (ha : ∀ x y z l, T x y z → TRI x y z l → M1 11 (l / 2) ≠ 0) (hD : DA M1 M' T 0) : QR M M' T := by
  obtain ⟨d1, d2, d3, d4, d5, d6⟩ := hD
  have e1 : M1 1 = M 1 := hf 1 (by decide) (by decide) (by decide) (by decide)
  have e7 : M1 7 = M 7 := hf 7 (by decide) (by decide) (by decide) (by decide)
  have e8 : M1 8 = M 8 := hf 8 (by decide) (by decide) (by decide) (by decide)
  have e9 : M1 9 = M 9 := hf 9 (by decide) (by decide) (by decide) (by decide)
  rw [e1] at d3 d5 d6
  rw [e7, e8, e9] at d5 d6
  exact ⟨fun c c2 c11 c13 c14 => (d1 c c2 c11 c13 c14).trans (hf c c2 c11 c13 c14), d2, ⟨by omega, by omega⟩, d5, d6, fun x y z l q1 q2 => d4 _ (ha x y z l q1 q2)⟩
/-- the aims of a list without one place -/
def TL (M : pm_M) (p n : Int) : Int → Int → Int → Prop := fun x y z => ∃ i, (0 ≤ i ∧ i < n) ∧ i ≠ p ∧ x = 2 * M 6 i ∧ y = 0 ∧ z = 0
def LI (M : pm_M) : Prop := (0 ≤ M 0 5 ∧ M 0 5 ≤ 20) ∧ ∀ i, 0 ≤ i → i < M 0 5 → 0 ≤ M 6 i ∧ M 6 i < M 1 6
theorem CW.of {M M' : pm_M} (h : CW M) (e1 : M' 1 = M 1) (e7 : M' 7 = M 7) (e8 : M' 8 = M 8) (e9 : M' 9 = M 9) : CW M' := by
  unfold CW
  rw [e1, e7, e8, e9]
  exact h
theorem p_19l {L : Nat} {Q : pm_P} {M0 : pm_M} {a1 : Int} (hW : CW M0) (hL : LI M0) (hq : ∀ M' : pm_M, QR M0 M' (TL M0 a1 (M0 0 5)) → Q (.inl none) M') : ∀ (n : Nat) (M : pm_M) (a2 : Int), (M0 0 5 - a2).toNat ≤ n → 0 ≤ a2 → a2 ≤ M0 0 5 →
    (∀ c, c ≠ 2 → c ≠ 11 → c ≠ 13 → c ≠ 14 → M c = M0 c) → RW M → (M 2 2 ≤ a2 ∧ M 2 3 ≤ 3 * a2) → RT M (TL M0 a1 a2) → (∀ i, 0 ≤ i → i < a2 → i ≠ a1 → M 11 (M0 6 i) ≠ 0) →
    pm_X L (19, 16, [some (.inr (.inl 0)), some (.inl a1), some (.inl a2)], [], M) Q := by
  have hF := hW.1
  have hl := hL.1
  have fin : ∀ (M : pm_M), (∀ c, c ≠ 2 → c ≠ 11 → c ≠ 13 → c ≠ 14 → M c = M0 c) → RW M → (M 2 2 ≤ M0 0 5 ∧ M 2 3 ≤ 3 * M0 0 5) → RT M (TL M0 a1 (M0 0 5)) → (∀ i, 0 ≤ i → i < M0 0 5 → i ≠ a1 → M 11 (M0 6 i) ≠ 0) → ∀ a2, pm_X L (30, 0, [some (.inr (.inl 1)), some (.inr (.inl 2)), none], [], M) (pm_back (pm_X L) 19 74 [some (.inr (.inl 0)), some (.inl a1), some (.inl a2)] [] Q) := by
    intro M c1 c2 c3 c4 c5 a2
    refine p_30 (hW.of (c1 1 (by decide) (by decide) (by decide) (by decide)) (c1 7 (by decide) (by decide) (by decide) (by decide)) (c1 8 (by decide) (by decide) (by decide) (by decide)) (c1 9 (by decide) (by decide) (by decide) (by decide))) c2 c4 (by omega) (by omega) (fun M' hD => x_bkv rfl (s_19_77 ?_))
    refine hq M' (QR.of c1 hF (by omega) (by omega) (fun x y z l q1 q2 => ?_) hD)
    obtain ⟨i, i0, i1, i2, i3, i4⟩ := q1
    obtain ⟨q3, q4⟩ := q2
    have : l = 2 * M0 6 i := by omega
    rw [this, show 2 * M0 6 i / 2 = M0 6 i by omega]
    exact c5 i i0.1 i0.2 i1
  intro n
  induction n with
  | zero =>
    intro M a2 hn h0 h1 c1 c2 c3 c4 c5
    have e : a2 = M0 0 5 := by omega
    have e0 : M 0 = M0 0 := c1 0 (by decide) (by decide) (by decide) (by decide)
    rw [e] at c3 c4 c5
    exact s_19_16 ⟨fun _ => fin M c1 c2 c3 c4 c5 a2, fun z => by rw [e0] at z; omega⟩
  | succ n ih =>
    intro M a2 hn h0 h1 c1 c2 c3 c4 c5
    have e0 : M 0 = M0 0 := c1 0 (by decide) (by decide) (by decide) (by decide)
    have e6 : M 6 = M0 6 := c1 6 (by decide) (by decide) (by decide) (by decide)
    have e1 : M 1 = M0 1 := c1 1 (by decide) (by decide) (by decide) (by decide)
    rcases (by omega : a2 = M0 0 5 ∨ a2 < M0 0 5) with e | hlt
    · rw [e] at c3 c4 c5
      exact s_19_16 ⟨fun _ => fin M c1 c2 c3 c4 c5 a2, fun z => by rw [e0] at z; omega⟩
    have hi := hL.2 a2 h0 hlt
    refine s_19_16 ⟨fun z => by rw [e0] at z; omega, fun _ => ⟨fun hp => ⟨by unfold pm_R; omega, ih M (a2 + 1) (by omega) (by omega) (by omega) c1 c2 ⟨by omega, by omega⟩ (c4.iff (fun x y z => ?_)) (fun i i0 i1 i2 => c5 i i0 (by omega) i2)⟩, fun hp => ⟨⟨by omega, by omega⟩, by rw [e6]; unfold pm_R; omega, ?_⟩⟩⟩
    · constructor
      · rintro ⟨i, i0, i1⟩; exact ⟨i, ⟨i0.1, by omega⟩, i1⟩
      · rintro ⟨i, i0, i1, i2⟩; exact ⟨i, ⟨i0.1, by omega⟩, i1, i2⟩
    · rw [e6]
      refine p_33 c2 c4 (by rw [e1]; exact ⟨by omega, by omega⟩) (by rw [e1]; exact ⟨by omega, by omega⟩) (by rw [e1]; exact ⟨by omega, by omega⟩) (by omega) (by omega) (fun M1 f1 r1 b1 t1 => x_bkv rfl (s_19_47 ?_))
      have g6 : M1 6 = M0 6 := (f1 6 (by decide) (by decide) (by decide)).trans e6
      have g11 : M1 11 = M 11 := f1 11 (by decide) (by decide) (by decide)
      rw [g6]
      refine ⟨⟨h0, by omega⟩, ⟨by omega, by omega⟩, by unfold pm_R; omega, ?_⟩
      generalize hM2 : pm_set M1 11 (M0 6 a2) 1 = M2
      have o2 : ∀ c, c ≠ 11 → M2 c = M1 c := fun c hc => by rw [← hM2]; exact pm_set_off c hc
      have m11 : M2 11 = upf (M 11) (M0 6 a2) 1 := by rw [← hM2, pm_cell, if_pos rfl, g11]
      have p13 : M2 13 = M1 13 := o2 13 (by decide)
      have p14 : M2 14 = M1 14 := o2 14 (by decide)
      have p2 : M2 2 = M1 2 := o2 2 (by decide)
      have p1 : M2 1 = M1 1 := o2 1 (by decide)
      refine ih M2 (a2 + 1) (by omega) (by omega) (by omega) (fun c c2 c11 c13 c14 => (o2 c c11).trans ((f1 c c2 c13 c14).trans (c1 c c2 c11 c13 c14))) (by unfold RW; rw [p13, p14, p2, p1]; exact r1) (by rw [p2]; exact ⟨by omega, by omega⟩) ?_ (fun i i0 i1 i2 => ?_)
      · have t2 : RT M2 (fun a b c => TL M0 a1 a2 a b c ∨ (a = 2 * M0 6 a2 ∧ b = 0 ∧ c = 0)) := by unfold RT; rw [p13, p14, p2]; exact t1
        refine t2.iff (fun x y z => ⟨?_, ?_⟩)
        · rintro (⟨i, i0, i1⟩ | w)
          · exact ⟨i, ⟨i0.1, by omega⟩, i1⟩
          · exact ⟨a2, ⟨h0, by omega⟩, hp, w⟩
        · rintro ⟨i, i0, i1, i2⟩
          rcases (by omega : i = a2 ∨ i < a2) with w | w
          · rw [w] at i2; exact Or.inr i2
          · exact Or.inl ⟨i, ⟨i0.1, w⟩, i1, i2⟩
      · rw [m11]
        unfold upf
        split
        · decide
        · rename_i hne
          exact c5 i i0 (by
            rcases (by omega : i = a2 ∨ i < a2) with w | w
            · rw [w] at hne; exact absurd rfl hne
            · exact w) i2
/-- all rows are taken away -/
theorem RW.nil {M : pm_M} (h14 : M 14 0 = 0) : RW (pm_set (pm_set M 2 2 0) 2 3 0) ∧ RT (pm_set (pm_set M 2 2 0) 2 3 0) (fun _ _ _ => False) ∧ pm_set (pm_set M 2 2 0) 2 3 0 2 2 = 0 ∧ pm_set (pm_set M 2 2 0) 2 3 0 2 3 = 0 := by
  have e22 : pm_set (pm_set M 2 2 0) 2 3 0 2 2 = 0 := by rw [pm_get_j (by decide) rfl, pm_get_e]
  have e23 : pm_set (pm_set M 2 2 0) 2 3 0 2 3 = 0 := pm_get_e
  have e14 : pm_set (pm_set M 2 2 0) 2 3 0 14 = M 14 := by rw [pm_set_off 14 (by decide), pm_set_off 14 (by decide)]
  refine ⟨⟨?_, ?_⟩, ⟨fun x y z h => False.elim h, fun c c0 c1 => by omega⟩, e22, e23⟩
  · rw [e22, e23, e14]
    exact ⟨by omega, by omega, h14, h14, by omega, fun c c0 c1 => by omega, fun i i0 i1 => by omega⟩
  · intro c i j c0 c1
    omega
theorem p_19 {L : Nat} {Q : pm_P} {M : pm_M} {a1 : Int} (hW : CW M) (hL : LI M) (h14 : M 14 0 = 0) (hq : ∀ M' : pm_M, QR M M' (TL M a1 (M 0 5)) → Q (.inl none) M') :
    pm_X L (19, 0, [some (.inr (.inl 0)), some (.inl a1), none], [], M) Q := by
  obtain ⟨n1, n2, n3, n4⟩ := RW.nil (M := M) h14
  generalize hM1 : pm_set (pm_set M 2 2 0) 2 3 0 = M1 at n1 n2 n3 n4
  have o1 : ∀ c, c ≠ 2 → M1 c = M c := fun c hc => by rw [← hM1, pm_set_off c hc, pm_set_off c hc]
  refine s_19_0 ?_
  rw [hM1]
  have e1 : M1 1 = M 1 := o1 1 (by decide)
  refine p_28 (by rw [e1]; exact hW.1.2) (fun M2 f2 _ => x_bkv rfl (s_19_14 ?_))
  have p13 : M2 13 = M1 13 := f2 13 (by decide)
  have p14 : M2 14 = M1 14 := f2 14 (by decide)
  have p2 : M2 2 = M1 2 := f2 2 (by decide)
  have p1 : M2 1 = M1 1 := f2 1 (by decide)
  refine p_19l hW hL hq _ M2 0 (Nat.le_refl _) (Int.le_refl _) hL.1.1 (fun c c2 c11 _ _ => (f2 c c11).trans (o1 c c2)) (by unfold RW; rw [p13, p14, p2, p1]; exact n1) (by rw [p2]; exact ⟨by omega, by omega⟩) ?_ (fun i i0 i1 => by omega)
  have t2 : RT M2 (fun _ _ _ => False) := by unfold RT; rw [p13, p14, p2]; exact n2
  exact t2.iff (fun x y z => ⟨fun w => False.elim w, fun ⟨i, i0, _⟩ => by omega⟩)
/-- the aims of a difference -/
def TD (a b : Int) : Int → Int → Int → Prop := fun x y z => (x = 2 * a ∧ y = 2 * b ∧ z = 0) ∨ (x = pm_op (2 * a) ∧ y = pm_op (2 * b) ∧ z = 0)
theorem p_20 {L : Nat} {Q : pm_P} {M : pm_M} {a b : Int} (hW : CW M) (ha : 0 ≤ a ∧ a < M 1 6) (hb : 0 ≤ b ∧ b < M 1 6) (h14 : M 14 0 = 0) (hq : ∀ M' : pm_M, QR M M' (TD a b) → Q (.inl none) M') :
    pm_X L (20, 0, [some (.inr (.inl 0)), some (.inl a), some (.inl b)], [], M) Q := by
  have hF := hW.1
  obtain ⟨n1, n2, n3, n4⟩ := RW.nil (M := M) h14
  generalize hM1 : pm_set (pm_set M 2 2 0) 2 3 0 = M1 at n1 n2 n3 n4
  have o1 : ∀ c, c ≠ 2 → M1 c = M c := fun c hc => by rw [← hM1, pm_set_off c hc, pm_set_off c hc]
  refine s_20_0 ?_
  rw [hM1]
  have e1 : M1 1 = M 1 := o1 1 (by decide)
  refine p_28 (by rw [e1]; exact hW.1.2) (fun M2 f2 _ => x_bkv rfl (s_20_14 ⟨by unfold pm_R; omega, by unfold pm_R; omega, ?_⟩))
  have p13 : M2 13 = M1 13 := f2 13 (by decide)
  have p14 : M2 14 = M1 14 := f2 14 (by decide)
  have p2 : M2 2 = M1 2 := f2 2 (by decide)
  have p1 : M2 1 = M 1 := (f2 1 (by decide)).trans e1
  have r2 : RW M2 := by unfold RW; rw [p13, p14, p2, p1, ← e1]; exact n1
  have t2 : RT M2 (fun _ _ _ => False) := by unfold RT; rw [p13, p14, p2]; exact n2
  have k22 : M2 2 2 = 0 := by rw [p2]; exact n3
  have k23 : M2 2 3 = 0 := by rw [p2]; exact n4
  have oa := op_hi (l := 2 * a) (n := M 1 6) (by omega)
  have ob := op_hi (l := 2 * b) (n := M 1 6) (by omega)
  have oa0 := op_lo (l := 2 * a) (by omega)
  have ob0 := op_lo (l := 2 * b) (by omega)
  refine p_33 r2 t2 (by rw [p1]; omega) (by rw [p1]; omega) (by rw [p1]; omega) (by omega) (by omega) (fun M3 f3 r3 b3 t3 => x_bkv rfl (s_20_30 ⟨by unfold pm_R; omega, by unfold pm_R; omega, ?_⟩))
  have p3 : M3 1 = M 1 := (f3 1 (by decide) (by decide) (by decide)).trans p1
  refine p_33 r3 t3 (by rw [p3]; omega) (by rw [p3]; omega) (by rw [p3]; omega) (by omega) (by omega) (fun M4 f4 r4 b4 t4 => x_bkv rfl (s_20_52 ⟨by omega, by omega, ?_⟩))
  have p4 : M4 1 = M 1 := (f4 1 (by decide) (by decide) (by decide)).trans p3
  generalize hM5 : pm_set (pm_set M4 11 a 1) 11 b 1 = M5
  have o5 : ∀ c, c ≠ 11 → M5 c = M4 c := fun c hc => by rw [← hM5, pm_set_off c hc, pm_set_off c hc]
  have m11 : M5 11 = upf (upf (M4 11) a 1) b 1 := by rw [← hM5, pm_cell, if_pos rfl, pm_cell, if_pos rfl]
  have hfr : ∀ c, c ≠ 2 → c ≠ 11 → c ≠ 13 → c ≠ 14 → M5 c = M c := fun c c2 c11 c13 c14 => (o5 c c11).trans ((f4 c c2 c13 c14).trans ((f3 c c2 c13 c14).trans ((f2 c c11).trans (o1 c c2))))
  have q13 : M5 13 = M4 13 := o5 13 (by decide)
  have q14 : M5 14 = M4 14 := o5 14 (by decide)
  have q2 : M5 2 = M4 2 := o5 2 (by decide)
  have q1 : M5 1 = M4 1 := o5 1 (by decide)
  have t5 : RT M5 (TD a b) := by
    have h : RT M5 (fun x y z => (False ∨ (x = 2 * a ∧ y = 2 * b ∧ z = 0)) ∨ (x = pm_op (2 * a) ∧ y = pm_op (2 * b) ∧ z = 0)) := by unfold RT; rw [q13, q14, q2]; exact t4
    refine h.iff (fun x y z => ⟨?_, ?_⟩)
    · rintro ((w | w) | w)
      · exact w.elim
      · exact Or.inl w
      · exact Or.inr w
    · rintro (w | w)
      · exact Or.inl (Or.inr w)
      · exact Or.inr w
  refine p_30 (hW.of (hfr 1 (by decide) (by decide) (by decide) (by decide)) (hfr 7 (by decide) (by decide) (by decide) (by decide)) (hfr 8 (by decide) (by decide) (by decide) (by decide)) (hfr 9 (by decide) (by decide) (by decide) (by decide))) (by unfold RW; rw [q13, q14, q2, q1]; exact r4) t5 (by rw [q2]; omega) (by rw [q2]; omega) (fun M' hD => x_bkv rfl (s_20_79 ?_))
  refine hq M' (QR.of hfr hF (by rw [q2]; omega) (by rw [q2]; omega) (fun x y z l w1 w2 => ?_) hD)
  have d1 := op_div (2 * a)
  have d2 := op_div (2 * b)
  have hl : l / 2 = a ∨ l / 2 = b := by
    obtain ⟨w3, w4⟩ := w2
    rcases w1 with ⟨u1, u2, u3⟩ | ⟨u1, u2, u3⟩
    · rcases w4 with w | w | w
      · rw [w, u1]; omega
      · rw [w, u2]; omega
      · exact absurd (w.trans u3) w3
    · rcases w4 with w | w | w
      · rw [w, u1]; omega
      · rw [w, u2]; omega
      · exact absurd (w.trans u3) w3
  rw [m11]
  rcases hl with w | w
  · rw [w]
    unfold upf
    split
    · decide
    · rw [if_pos rfl]; decide
  · rw [w, upf_e]; decide
/-- findInputs -/
theorem p_21 {L : Nat} {Q : pm_P} {M : pm_M} (hR : RW M) (hF : 1 ≤ M 1 6 ∧ M 1 6 ≤ 2000) (h1 : M 5 4 ≤ 2000) (h2 : ∀ i, 0 ≤ i → i < M 5 4 → 0 ≤ M 22 i ∧ M 22 i < 4000) (h3 : ∀ l, M 20 l ≠ 0 → onT (M 22) (M 5 4) l)
    (hI : IN M) (ht0 : M 2 2 ≤ 12020) (hu0 : M 2 3 ≤ 36060) (hs0 : 0 ≤ M 3 2 ∧ M 3 2 + 4096 ≤ 2147483647) (h15 : ∀ l, M 15 l ≤ M 3 2) (h18 : ∀ f, M 18 f = 0)
    (hq1 : ∀ (M' : pm_M) (C' : Int → List Int), FD M M' → SI M' C' (M' 5 4) → DL M' → (∀ k, 0 ≤ k → k < M' 1 7 → ∃ j, 0 ≤ j ∧ j < M' 5 4 ∧ M' 22 j / 2 = M' 12 k) → M 2 2 ≤ M' 2 2 → (∀ c l, 0 ≤ c → c < M 2 2 → (inC (M' 13) (M' 14) c l ↔ inC (M 13) (M 14) c l)) → (∀ V, SAT (M 13) (M 14) (M 2 2) V → SAT (M' 13) (M' 14) (M' 2 2) V) → Q (.inl (some (.inl 1))) M')
    (hq0 : ∀ (M' : pm_M), FD M M' → (∀ V, ¬ SAT (M 13) (M 14) (M 2 2) V) → Q (.inl (some (.inl 0))) M') :
    pm_X L (21, 0, [some (.inr (.inl 0)), none], [], M) Q := by
  refine s_21_0 ?_
  generalize hM1 : pm_set (pm_set M 3 3 (M 2 2)) 3 4 0 = M1
  have o1 : ∀ c, c ≠ 3 → M1 c = M c := fun c hc => by rw [← hM1, pm_set_off c hc, pm_set_off c hc]
  have e32 : M1 3 2 = M 3 2 := by rw [← hM1, pm_get_j (by decide) rfl, pm_get_j (by decide) rfl]
  have e33 : M1 3 3 = M 2 2 := by rw [← hM1, pm_get_j (by decide) rfl, pm_get_e]
  have e34 : M1 3 4 = 0 := by rw [← hM1]; exact pm_get_e
  have e1 : M1 1 = M 1 := o1 1 (by decide)
  have e2 : M1 2 = M 2 := o1 2 (by decide)
  have e5 : M1 5 = M 5 := o1 5 (by decide)
  have e12 : M1 12 = M 12 := o1 12 (by decide)
  have e13 : M1 13 = M 13 := o1 13 (by decide)
  have e14 : M1 14 = M 14 := o1 14 (by decide)
  have e15 : M1 15 = M 15 := o1 15 (by decide)
  have e18 : M1 18 = M 18 := o1 18 (by decide)
  have e20 : M1 20 = M 20 := o1 20 (by decide)
  have e22 : M1 22 = M 22 := o1 22 (by decide)
  have fd : ∀ M' : pm_M, FD M1 M' → FD M M' := by
    rintro M' ⟨q1, q2, q3, q4, q5, q6, q7⟩
    rw [e32] at q6
    exact ⟨fun c hc => (q1 c hc).trans (o1 c (by omega)), q2, q3, q4, q5, q6, q7⟩
  refine p_43 (by rw [e13, e14, e2, e1]; exact hR.1) (by rw [e1]; exact hF) (by rw [e13, e14, e2]; exact hR.2) (by rw [e5]; exact h1) (by rw [e5, e22]; exact h2) (by rw [e5, e20, e22]; exact h3) (hI.of e1 e12) (by rw [e2]; exact ht0) (by rw [e2]; exact hu0) (by rw [e32]; exact hs0) (by rw [e33, e2]) (by rw [e15, e32]; exact h15) (Or.inl e34) (by rw [e18]; exact h18) ?_ ?_
  · rw [e2, e13, e14]
    exact fun M' C' w1 w2 w3 w4 w5 w6 w7 => x_bki rfl (s_21_14 ⟨fun _ => ⟨by unfold pm_bit; decide, hq1 M' C' (fd M' w1) w2 w3 w4 w5 w6 w7⟩, fun z => absurd (by decide) z⟩)
  · rw [e2, e13, e14]
    exact fun M' w1 w2 w3 => x_bki rfl (s_21_14 ⟨fun z => absurd rfl z, fun _ => ⟨by rw [w3]; unfold pm_bit; decide, fun _ => ⟨by unfold pm_bit; decide, hq0 M' (fd M' w1) w2⟩, fun z => absurd (by rw [w3]; decide) z⟩⟩)
