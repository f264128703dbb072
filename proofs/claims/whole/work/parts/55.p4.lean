/-! PURE: followAll, tryInputs -/
theorem SI.of {M M' : pm_M} {C : Int → List Int} {p : Int} (h : SI M C p) (e1 : M' 1 = M 1) (e2 : M' 2 = M 2) (e5 : M' 5 = M 5) (e13 : M' 13 = M 13) (e14 : M' 14 = M 14) (e16 : M' 16 = M 16) (e17 : M' 17 = M 17) (e20 : M' 20 = M 20) (e21 : M' 21 = M 21) (e22 : M' 22 = M 22) (e23 : M' 23 = M 23) : SI M' C p := by
  unfold SI at h ⊢
  rw [e1, e2, e5, e13, e14, e16, e17, e20, e21, e22, e23]
  exact h
theorem SI.c4 {M : pm_M} {C : Int → List Int} {p j x : Int} (h : SI M C p) : SI (pm_set M 4 j x) C p :=
  h.of (pm_set_off 1 (by decide)) (pm_set_off 2 (by decide)) (pm_set_off 5 (by decide)) (pm_set_off 13 (by decide)) (pm_set_off 14 (by decide)) (pm_set_off 16 (by decide)) (pm_set_off 17 (by decide)) (pm_set_off 20 (by decide)) (pm_set_off 21 (by decide)) (pm_set_off 22 (by decide)) (pm_set_off 23 (by decide))
theorem SI.len {M : pm_M} {C : Int → List Int} {p : Int} (h : SI M C p) : M 5 4 ≤ M 1 6 - 1 := by
  obtain ⟨-, hF, ⟨hn, -⟩, -, -, hO, hT, -⟩ := h
  have := ph_le (M 1 6 - 1).toNat (M 5 4).toNat (fun i => (M 22 i / 2 - 1).toNat) (fun i hi => by
    have := hO i (by omega) (by omega)
    show (M 22 i / 2 - 1).toNat < _
    omega) (fun i j hij hj => by
    have b1 := hO i (by omega) (by omega)
    have b2 := hO j (by omega) (by omega)
    show (M 22 i / 2 - 1).toNat ≠ (M 22 j / 2 - 1).toNat
    intro z
    have := hT.inj (i := i) (j := j) (by omega) (by omega) (by omega) (by omega) (by omega)
    omega)
  omega
/-- leaveFailing -/
theorem p_48 {L : Nat} {Q : pm_P} {M : pm_M} {C : Int → List Int} {l p : Int} (hS : SI M C p) (hpn : p < M 5 4) (hp0 : 0 ≤ p) (hpl : M 22 p = pm_op l) (htop : ∀ t, 0 ≤ t → t < M 5 5 → M 23 t ≤ p)
    (hq1 : ∀ (M' : pm_M) (C' : Int → List Int), SI M' C' (p + 1) → FR M M' → Q (.inl (some (.inl (-1)))) M')
    (hq2 : ∀ (M' : pm_M) (C' : Int → List Int) (c : Int), SI M' C' p → FR M M' → 0 ≤ c → c < M' 2 2 → (∀ l', inC (M' 13) (M' 14) c l' → onT (M' 22) (M' 5 4) (pm_op l')) → inC (M' 13) (M' 14) c l → Q (.inl (some (.inl c))) M') :
    pm_X L (48, 0, [some (.inr (.inl 4)), some (.inl l), none, none, none, none, none, none, none], [], M) Q := by
  have hO := hS.2.2.2.2.2.1 p hp0 hpn
  have hl : l = pm_op (M 22 p) := by rw [hpl, op_op]
  have hd := op_div (M 22 p)
  have hl0 : 2 ≤ l := by rw [hl]; omega
  have hl1 : l < 2 * M 1 6 := by rw [hl]; omega
  have hF := hS.2.1
  have hch := hS.2.2.2.2.2.2.2.2.2.2.2
  obtain ⟨c1, c2⟩ := hch.1 l (by omega) hl1
  have htot := hS.1.2.1
  have hlen := nd_len (C l) (2 * M 2 2).toNat c2 (fun w hw => by
    have := hch.2.1 l w (by omega) hl1 hw
    omega)
  exact s_48_0 ⟨⟨by omega, by omega⟩, p_48l (C l) M C [] _ _ _ _ _ _ _ hS hpn hp0 hpl hl0 hl1 htop rfl c1 (Or.inl ⟨rfl, rfl⟩) (fun w hw => by cases hw) (by omega) (by omega) hq1 hq2⟩
/-- what following and trying leave -/
def FS (M M' : pm_M) : Prop := (∀ c, c ≠ 4 → c ≠ 5 → c ≠ 13 → c ≠ 16 → c ≠ 17 → c ≠ 20 → c ≠ 21 → c ≠ 22 → M' c = M c) ∧ M' 5 5 = M 5 5 ∧ M 5 4 ≤ M' 5 4 ∧ (∀ i, 0 ≤ i → i < M 5 4 → M' 22 i = M 22 i) ∧ ∀ c x, 0 ≤ c → c < M 2 2 → (inC (M' 13) (M' 14) c x ↔ inC (M 13) (M 14) c x)
theorem FR.fs {M M' : pm_M} (h : FR M M') : FS M M' := ⟨fun c _ c5 c13 c16 c17 c20 c21 c22 => h.1 c c5 c13 c16 c17 c20 c21 c22, h.2⟩
theorem FS.rf (M : pm_M) : FS M M := (FR.rf M).fs
theorem FS.tr {M M1 M2 : pm_M} (h : FS M M1) (g : FS M1 M2) : FS M M2 := by
  obtain ⟨h1, h2, h3, h4, h5⟩ := h
  obtain ⟨g1, g2, g3, g4, g5⟩ := g
  have e2 : M1 2 = M 2 := h1 2 (by decide) (by decide) (by decide) (by decide) (by decide) (by decide) (by decide) (by decide)
  exact ⟨fun c a0 a b c' d e f g => (g1 c a0 a b c' d e f g).trans (h1 c a0 a b c' d e f g), g2.trans h2, Int.le_trans h3 g3, fun i i0 i1 => (g4 i i0 (by omega)).trans (h4 i i0 i1), fun c x c0 c1 => (g5 c x c0 (by rw [e2]; exact c1)).trans (h5 c x c0 c1)⟩
theorem FS.c4 {M : pm_M} {j x : Int} : FS M (pm_set M 4 j x) := by
  refine ⟨fun c c4 _ _ _ _ _ _ _ => pm_set_off c c4, by rw [pm_set_off 5 (by decide)], by rw [pm_set_off 5 (by decide)]; exact Int.le_refl _, fun i _ _ => by rw [pm_set_off 22 (by decide)], fun c x _ _ => ?_⟩
  rw [pm_set_off 13 (by decide), pm_set_off 14 (by decide)]
/-- a clash: a clause whose literals all fail, one of them at p, on the last level -/
def CL (M : pm_M) (c p : Int) : Prop := (0 ≤ c ∧ c < M 2 2) ∧ (0 ≤ p ∧ p < M 5 4) ∧ (∀ t, 0 ≤ t → t < M 5 5 → M 23 t ≤ p) ∧ (∀ l', inC (M 13) (M 14) c l' → onT (M 22) (M 5 4) (pm_op l')) ∧ ∃ l, inC (M 13) (M 14) c l ∧ M 22 p = pm_op l
theorem p_47l {L : Nat} {Q : pm_P} : ∀ (n : Nat) (M : pm_M) (C : Int → List Int), (2000 - M 4 9).toNat ≤ n → SI M C (M 4 9) → 0 ≤ M 4 9 → M 4 9 ≤ M 5 4 → (∀ t, 0 ≤ t → t < M 5 5 → M 23 t ≤ M 4 9) →
    (∀ (M' : pm_M) (C' : Int → List Int), SI M' C' (M' 5 4) → M' 4 9 = M' 5 4 → FS M M' → Q (.inl (some (.inl (-1)))) M') →
    (∀ (M' : pm_M) (C' : Int → List Int) (c p : Int), SI M' C' p → CL M' c p → FS M M' → Q (.inl (some (.inl c))) M') →
    pm_X L (47, 2, [some (.inr (.inl 4)), some (.inl (-1))], [], M) Q := by
  intro n
  induction n with
  | zero =>
    intro M C hn hS h0 hle htop hq1 hq2
    have := hS.len
    have := hS.2.1
    omega
  | succ n ih =>
    intro M C hn hS h0 hle htop hq1 hq2
    have hlen := hS.len
    have hF := hS.2.1
    refine s_47_2 ⟨fun c => ?_, fun c => ⟨fun z => by omega, fun _ => ⟨fun z => absurd rfl z, fun _ => ⟨⟨h0, by omega⟩, ?_⟩⟩⟩⟩
    · have e : M 4 9 = M 5 4 := by omega
      exact hq1 M C (e ▸ hS) e (FS.rf M)
    · refine p_48 (p := M 4 9) hS (by omega) h0 (op_op _).symm htop (fun M' C' s1 s2 => x_bki rfl (s_47_50 ?_)) (fun M' C' cc s1 s2 c0 c1 c2 c3 => x_bki rfl (s_47_50 ?_))
      · have e4 : M' 4 = M 4 := s2.1 4 (by decide) (by decide) (by decide) (by decide) (by decide) (by decide) (by decide)
        have e23 : M' 23 = M 23 := s2.1 23 (by decide) (by decide) (by decide) (by decide) (by decide) (by decide) (by decide)
        have g9 : pm_set M' 4 9 (M' 4 9 + 1) 4 9 = M 4 9 + 1 := by rw [pm_get_e, e4]
        have g5 : pm_set M' 4 9 (M' 4 9 + 1) 5 = M' 5 := pm_set_off 5 (by decide)
        have g23 : pm_set M' 4 9 (M' 4 9 + 1) 23 = M 23 := (pm_set_off 23 (by decide)).trans e23
        have hF2 : FS M (pm_set M' 4 9 (M' 4 9 + 1)) := s2.fs.tr FS.c4
        have hle2 := s2.2.2.1
        refine ⟨by rw [e4]; unfold pm_R; omega, ih _ C' (by rw [g9]; omega) (by rw [g9]; exact s1.c4) (by rw [g9]; omega) (by rw [g9, g5]; omega) (by rw [g9, g5, g23, s2.2.1]; exact fun t t0 t1 => by have := htop t t0 t1; omega) (fun M2 C2 q1 q2 q3 => hq1 M2 C2 q1 q2 (hF2.tr q3)) (fun M2 C2 c p q1 q2 q3 => hq2 M2 C2 c p q1 q2 (hF2.tr q3))⟩
      · have e4 : M' 4 = M 4 := s2.1 4 (by decide) (by decide) (by decide) (by decide) (by decide) (by decide) (by decide)
        have e23 : M' 23 = M 23 := s2.1 23 (by decide) (by decide) (by decide) (by decide) (by decide) (by decide) (by decide)
        have hcl : CL (pm_set M' 4 9 (M' 4 9 + 1)) cc (M 4 9) := by
          unfold CL
          rw [pm_set_off 2 (by decide), pm_set_off 5 (by decide), pm_set_off 13 (by decide), pm_set_off 14 (by decide), pm_set_off 22 (by decide), pm_set_off 23 (by decide)]
          have hle2 := s2.2.2.1
          refine ⟨⟨c0, c1⟩, ⟨h0, by omega⟩, by rw [e23, s2.2.1]; exact htop, c2, _, c3, ?_⟩
          rw [s2.2.2.2.1 _ h0 (by omega), op_op]
        have fin := hq2 _ C' cc (M 4 9) s1.c4 hcl (s2.fs.tr FS.c4)
        exact ⟨by rw [e4]; unfold pm_R; omega, s_47_2 ⟨fun _ => fin, fun _ => ⟨fun _ => fin, fun _ => ⟨fun _ => fin, fun z => absurd (by omega) z⟩⟩⟩⟩
theorem p_47 {L : Nat} {Q : pm_P} {M : pm_M} {C : Int → List Int} (hS : SI M C (M 4 9)) (h0 : 0 ≤ M 4 9) (hle : M 4 9 ≤ M 5 4) (htop : ∀ t, 0 ≤ t → t < M 5 5 → M 23 t ≤ M 4 9)
    (hq1 : ∀ (M' : pm_M) (C' : Int → List Int), SI M' C' (M' 5 4) → M' 4 9 = M' 5 4 → FS M M' → Q (.inl (some (.inl (-1)))) M')
    (hq2 : ∀ (M' : pm_M) (C' : Int → List Int) (c p : Int), SI M' C' p → CL M' c p → FS M M' → Q (.inl (some (.inl c))) M') :
    pm_X L (47, 0, [some (.inr (.inl 4)), none], [], M) Q := s_47_0 (p_47l _ M C (Nat.le_refl _) hS h0 hle htop hq1 hq2)
