/-! PURE: tryInputs -/
/-- the inputs -/
def IN (M : pm_M) : Prop := (0 ≤ M 1 7 ∧ M 1 7 ≤ 12) ∧ (∀ k, 0 ≤ k → k < M 1 7 → 1 ≤ M 12 k ∧ M 12 k < M 1 6) ∧ ∀ j k, 0 ≤ j → j < M 1 7 → 0 ≤ k → k < M 1 7 → M 12 j = M 12 k → j = k
/-- each level tries an input; those before it stand already -/
def DL (M : pm_M) : Prop := ∀ t, 0 ≤ t → t < M 5 5 → ∃ k, (0 ≤ k ∧ k < M 1 7) ∧ M 22 (M 23 t) = 2 * M 12 k + 1 ∧ ∀ k', 0 ≤ k' → k' < k → ∃ j, 0 ≤ j ∧ j < M 23 t ∧ M 22 j / 2 = M 12 k'
theorem DL.ge {M : pm_M} {C : Int → List Int} {p : Int} (h : DL M) (hS : SI M C p) (hI : IN M) : ∀ (n : Nat) (k : Int), (n : Int) < M 5 5 → 0 ≤ k → k < M 1 7 → M 22 (M 23 n) = 2 * M 12 k + 1 → (n : Int) ≤ k := by
  have hT := hS.2.2.2.2.2.2.1
  intro n
  induction n with
  | zero => intro k _ h0 _ _; exact h0
  | succ n ih =>
    intro k hn h0 h1 hk
    obtain ⟨j, ⟨j0, j1⟩, j2, j3⟩ := h n (by omega) (by omega)
    have h2 := ih j (by omega) j0 j1 j2
    have q1 := hT.2.1 n (by omega) (by omega)
    have q2 := hT.2.1 ((n : Int) + 1) (by omega) (by omega)
    have q3 := hT.2.2.1 n ((n : Int) + 1) (by omega) (by omega) (by omega)
    rw [show (((n + 1 : Nat)) : Int) = (n : Int) + 1 by omega] at hk ⊢
    rcases (by omega : j < k ∨ j = k ∨ k < j) with z | z | z
    · omega
    · subst z
      have := hT.inj (i := M 23 n) (j := M 23 ((n : Int) + 1)) q1.1 q1.2 q2.1 q2.2 (by rw [j2, hk])
      omega
    · obtain ⟨i, i0, i1, i2⟩ := j3 k h0 z
      have := hT.inj (i := i) (j := M 23 ((n : Int) + 1)) i0 (by omega) q2.1 q2.2 (by rw [i2, hk]; omega)
      omega
/-- an open input: fewer levels than inputs before it -/
theorem DL.lt {M : pm_M} {C : Int → List Int} {p a : Int} (h : DL M) (hS : SI M C p) (hI : IN M) (a0 : 0 ≤ a) (a1 : a < M 1 7) (hl : ∀ i, 0 ≤ i → i < M 5 4 → M 22 i / 2 ≠ M 12 a) : M 5 5 ≤ a := by
  have hT := hS.2.2.2.2.2.2.1
  have h5 := hS.2.2.1.2
  rcases (by omega : M 5 5 = 0 ∨ 0 < M 5 5) with z | z
  · omega
  · obtain ⟨k, ⟨k0, k1⟩, k2, k3⟩ := h (M 5 5 - 1) (by omega) (by omega)
    have q1 := hT.2.1 (M 5 5 - 1) (by omega) (by omega)
    have hge := h.ge hS hI (M 5 5 - 1).toNat k (by omega) k0 k1 (by rw [show (((M 5 5 - 1).toNat : Nat) : Int) = M 5 5 - 1 by omega]; exact k2)
    rcases (by omega : k < a ∨ k = a ∨ a < k) with q | q | q
    · omega
    · subst q; exact absurd (show M 22 (M 23 (M 5 5 - 1)) / 2 = M 12 k by rw [k2]; omega) (hl _ q1.1 q1.2)
    · obtain ⟨j, j0, j1, j2⟩ := k3 a a0 q
      exact absurd j2 (hl j j0 (by omega))
def att (M : pm_M) (d : Int) : pm_M := pm_set (pm_set (pm_set (pm_set (pm_set (pm_set M 23 (M 5 5) (M 5 4)) 5 5 (M 5 5 + 1)) 20 d 1) 21 d (-1)) 22 (M 5 4) d) 5 4 (M 5 4 + 1)
theorem att_c {M : pm_M} {d : Int} (a : Nat) (h1 : a ≠ 5) (h2 : a ≠ 20) (h3 : a ≠ 21) (h4 : a ≠ 22) (h5 : a ≠ 23) : att M d a = M a := by
  unfold att
  rw [pm_set_off a h1, pm_set_off a h4, pm_set_off a h3, pm_set_off a h2, pm_set_off a h1, pm_set_off a h5]
theorem att_54 {M : pm_M} {d : Int} : att M d 5 4 = M 5 4 + 1 := pm_get_e
theorem att_55 {M : pm_M} {d : Int} : att M d 5 5 = M 5 5 + 1 := by
  unfold att
  rw [pm_get_j (by decide) rfl, pm_set_off 5 (by decide), pm_set_off 5 (by decide), pm_set_off 5 (by decide), pm_get_e]
theorem att_20 {M : pm_M} {d : Int} : att M d 20 = upf (M 20) d 1 := by
  unfold att
  rw [pm_set_off 20 (by decide), pm_set_off 20 (by decide), pm_set_off 20 (by decide), pm_cell, if_pos rfl, pm_set_off 20 (by decide), pm_set_off 20 (by decide)]
theorem att_21 {M : pm_M} {d : Int} : att M d 21 = upf (M 21) d (-1) := by
  unfold att
  rw [pm_set_off 21 (by decide), pm_set_off 21 (by decide), pm_cell, if_pos rfl, pm_set_off 21 (by decide), pm_set_off 21 (by decide), pm_set_off 21 (by decide)]
theorem att_22 {M : pm_M} {d : Int} : att M d 22 = upf (M 22) (M 5 4) d := by
  unfold att
  rw [pm_set_off 22 (by decide), pm_cell, if_pos rfl, pm_set_off 22 (by decide), pm_set_off 22 (by decide), pm_set_off 22 (by decide), pm_set_off 22 (by decide)]
theorem att_23 {M : pm_M} {d : Int} : att M d 23 = upf (M 23) (M 5 5) (M 5 4) := by
  unfold att
  rw [pm_set_off 23 (by decide), pm_set_off 23 (by decide), pm_set_off 23 (by decide), pm_set_off 23 (by decide), pm_set_off 23 (by decide), pm_cell, if_pos rfl]
theorem SI.attempt {M : pm_M} {C : Int → List Int} (h : SI M C (M 5 4)) {d : Int} (h0 : 2 ≤ d) (h1 : d < 2 * M 1 6) (hl : ∀ i, 0 ≤ i → i < M 5 4 → M 22 i / 2 ≠ d / 2) : SI (att M d) C (M 5 4) := by
  obtain ⟨a1, a2, a3, a4, a5, a6, a7, a8, a9, a10, a11, a12⟩ := h
  have e2 : att M d 2 = M 2 := att_c 2 (by decide) (by decide) (by decide) (by decide) (by decide)
  have e1 : att M d 1 = M 1 := att_c 1 (by decide) (by decide) (by decide) (by decide) (by decide)
  have e13 : att M d 13 = M 13 := att_c 13 (by decide) (by decide) (by decide) (by decide) (by decide)
  have e14 : att M d 14 = M 14 := att_c 14 (by decide) (by decide) (by decide) (by decide) (by decide)
  have e16 : att M d 16 = M 16 := att_c 16 (by decide) (by decide) (by decide) (by decide) (by decide)
  have e17 : att M d 17 = M 17 := att_c 17 (by decide) (by decide) (by decide) (by decide) (by decide)
  unfold SI
  rw [e2, e1, e13, e14, e16, e17, att_54, att_55, att_20, att_21, att_22, att_23]
  refine ⟨a1, a2, ⟨by omega, by omega⟩, fun x => ?_, fun x => ?_, fun i i0 i1 => ?_, a7.attempt a3.1 a3.2 hl (a8.free0 a7 a9 a10 a11 hl), ?_, ?_, a10, a11, a12⟩
  · unfold upf; split
    · exact Or.inr rfl
    · exact a4 x
  · rw [onT_up a3.1]
    by_cases e : x = d
    · subst e; rw [upf_e]; exact ⟨fun _ => Or.inr rfl, fun _ => by decide⟩
    · rw [upf_n _ _ e, a5 x]; exact ⟨Or.inl, fun z => z.elim id (fun z => absurd z e)⟩
  · rcases (by omega : i < M 5 4 ∨ i = M 5 4) with z | z
    · rw [upf_n _ _ (by omega)]; exact a6 i i0 z
    · rw [z, upf_e]; exact ⟨h0, h1⟩
  · intro c b q c0 c1 hs hb q0 q1 hq
    rw [upf_n _ _ (by omega)] at hq
    obtain ⟨v, v0, v1, v2, v3⟩ := a8 c b q c0 c1 hs hb q0 q1 hq
    refine ⟨v, v0, by omega, by rw [upf_n _ _ (by omega)]; exact v2, fun t t0 t1 => ?_⟩
    rcases (by omega : t < M 5 5 ∨ t = M 5 5) with z | z
    · rw [upf_n _ _ (by omega)]; exact v3 t t0 z
    · rw [z, upf_e]; intro _; omega
  · intro c c0 c1 hs
    obtain ⟨v, v0, v1, v2, v3⟩ := a9 c c0 c1 hs
    refine ⟨v, v0, by omega, by rw [upf_n _ _ (by omega)]; exact v2, fun t t0 t1 => ?_⟩
    rcases (by omega : t < M 5 5 ∨ t = M 5 5) with z | z
    · rw [upf_n _ _ (by omega)]; exact v3 t t0 z
    · rw [z, upf_e]; omega
/-- what trying leaves -/
def FT (M M' : pm_M) : Prop := (∀ c, c ≠ 4 → c ≠ 5 → c ≠ 13 → c ≠ 16 → c ≠ 17 → c ≠ 20 → c ≠ 21 → c ≠ 22 → c ≠ 23 → M' c = M c) ∧ ∀ c x, 0 ≤ c → c < M 2 2 → (inC (M' 13) (M' 14) c x ↔ inC (M 13) (M 14) c x)
theorem FS.ft {M M' : pm_M} (h : FS M M') : FT M M' := ⟨fun c c4 c5 c13 c16 c17 c20 c21 c22 _ => h.1 c c4 c5 c13 c16 c17 c20 c21 c22, h.2.2.2.2⟩
theorem FT.rf (M : pm_M) : FT M M := (FS.rf M).ft
theorem FT.tr {M M1 M2 : pm_M} (h : FT M M1) (g : FT M1 M2) : FT M M2 := by
  have e2 : M1 2 = M 2 := h.1 2 (by decide) (by decide) (by decide) (by decide) (by decide) (by decide) (by decide) (by decide) (by decide)
  exact ⟨fun c a b c' d e f g' h' i => (g.1 c a b c' d e f g' h' i).trans (h.1 c a b c' d e f g' h' i), fun c x c0 c1 => (g.2 c x c0 (by rw [e2]; exact c1)).trans (h.2 c x c0 c1)⟩
theorem FT.att {M : pm_M} {d : Int} : FT M (att M d) := by
  refine ⟨fun c _ c5 _ _ _ c20 c21 c22 c23 => att_c c c5 c20 c21 c22 c23, fun c x _ _ => ?_⟩
  rw [att_c 13 (by decide) (by decide) (by decide) (by decide) (by decide), att_c 14 (by decide) (by decide) (by decide) (by decide) (by decide)]
theorem IN.of {M M' : pm_M} (h : IN M) (e1 : M' 1 = M 1) (e12 : M' 12 = M 12) : IN M' := by
  unfold IN at h ⊢
  rw [e1, e12]
  exact h
theorem DL.fs {M M' : pm_M} {C : Int → List Int} {p : Int} (h : DL M) (hS : SI M C p) (hF : FS M M') : DL M' := by
  have e1 : M' 1 = M 1 := hF.1 1 (by decide) (by decide) (by decide) (by decide) (by decide) (by decide) (by decide) (by decide)
  have e12 : M' 12 = M 12 := hF.1 12 (by decide) (by decide) (by decide) (by decide) (by decide) (by decide) (by decide) (by decide)
  have e23 : M' 23 = M 23 := hF.1 23 (by decide) (by decide) (by decide) (by decide) (by decide) (by decide) (by decide) (by decide)
  have hT := hS.2.2.2.2.2.2.1
  intro t t0 t1
  rw [hF.2.1] at t1
  obtain ⟨k, k0, k1, k2⟩ := h t t0 t1
  have q := hT.2.1 t t0 t1
  rw [e1, e12, e23]
  refine ⟨k, k0, by rw [hF.2.2.2.1 _ q.1 q.2]; exact k1, fun k' a b => ?_⟩
  obtain ⟨j, j0, j1, j2⟩ := k2 k' a b
  exact ⟨j, j0, j1, by rw [hF.2.2.2.1 j j0 (by omega)]; exact j2⟩
theorem DL.att {M : pm_M} {C : Int → List Int} {p k : Int} (h : DL M) (hS : SI M C p) (k0 : 0 ≤ k) (k1 : k < M 1 7) (hk : ∀ k', 0 ≤ k' → k' < k → ∃ j, 0 ≤ j ∧ j < M 5 4 ∧ M 22 j / 2 = M 12 k') : DL (att M (2 * M 12 k + 1)) := by
  have hT := hS.2.2.2.2.2.2.1
  have h5 := hS.2.2.1
  intro t t0 t1
  rw [att_55] at t1
  rw [att_22, att_23, att_c 1 (by decide) (by decide) (by decide) (by decide) (by decide), att_c 12 (by decide) (by decide) (by decide) (by decide) (by decide)]
  rcases (by omega : t < M 5 5 ∨ t = M 5 5) with z | z
  · obtain ⟨j, j0, j1, j2⟩ := h t t0 z
    have q := hT.2.1 t t0 z
    rw [upf_n (M 23) _ (by omega), upf_n _ _ (by omega)]
    refine ⟨j, j0, j1, fun k' a b => ?_⟩
    obtain ⟨i, i0, i1, i2⟩ := j2 k' a b
    exact ⟨i, i0, i1, by rw [upf_n _ _ (by omega)]; exact i2⟩
  · rw [z, upf_e, upf_e]
    refine ⟨k, ⟨k0, k1⟩, rfl, fun k' a b => ?_⟩
    obtain ⟨i, i0, i1, i2⟩ := hk k' a b
    exact ⟨i, i0, i1, by rw [upf_n _ _ (by omega)]; exact i2⟩
theorem p_46l {L : Nat} {Q : pm_P} : ∀ (n : Nat) (M : pm_M) (C : Int → List Int) (a2 : Int) (o3 : Option pm_V), (12 - a2).toNat ≤ n → SI M C (M 5 4) → M 4 9 = M 5 4 → IN M → DL M → 0 ≤ a2 → a2 ≤ M 1 7 → (∀ k, 0 ≤ k → k < a2 → ∃ j, 0 ≤ j ∧ j < M 5 4 ∧ M 22 j / 2 = M 12 k) →
    (∀ (M' : pm_M) (C' : Int → List Int), SI M' C' (M' 5 4) → DL M' → (∀ k, 0 ≤ k → k < M' 1 7 → ∃ j, 0 ≤ j ∧ j < M' 5 4 ∧ M' 22 j / 2 = M' 12 k) → FT M M' → Q (.inl (some (.inl (-1)))) M') →
    (∀ (M' : pm_M) (C' : Int → List Int) (c p : Int), SI M' C' p → CL M' c p → DL M' → FT M M' → Q (.inl (some (.inl c))) M') →
    pm_X L (46, 7, [some (.inr (.inl 4)), some (.inl (-1)), some (.inl a2), o3], [], M) Q := by
  intro n
  induction n with
  | zero =>
    intro M C a2 o3 hn hS h49 hI hD h0 h1 hin hq1 hq2
    have := hI.1
    refine s_46_7 ⟨fun z => ?_, fun z => by omega⟩
    have e : a2 = M 1 7 := by omega
    exact hq1 M C hS hD (e ▸ hin) (FT.rf M)
  | succ n ih =>
    intro M C a2 o3 hn hS h49 hI hD h0 h1 hin hq1 hq2
    have hN := hI.1
    refine s_46_7 ⟨fun z => ?_, fun z => ⟨fun y => absurd rfl y, fun _ => ?_⟩⟩
    · have e : a2 = M 1 7 := by omega
      exact hq1 M C hS hD (e ▸ hin) (FT.rf M)
    · have hk := hI.2.1 a2 h0 (by omega)
      have hF := hS.2.1
      have hb5 := hS.2.2.2.2.1
      have hop := op_two (M 12 a2)
      refine ⟨⟨h0, by omega⟩, by unfold pm_R; omega, ⟨by omega, by omega⟩, fun y => ⟨by unfold pm_R; omega, ?_⟩, fun y => ⟨⟨by omega, by omega⟩, fun x => ⟨by unfold pm_R; omega, ?_⟩, fun x => ?_⟩⟩
      · refine ih M C _ _ (by omega) hS h49 hI hD (by omega) (by omega) (fun k k0 k1 => ?_) hq1 hq2
        rcases (by omega : k < a2 ∨ k = a2) with q | q
        · exact hin k k0 q
        · obtain ⟨j, j0, j1, j2⟩ := (hb5 _).mp y
          exact ⟨j, j0, j1, by rw [j2, q]; omega⟩
      · refine ih M C _ _ (by omega) hS h49 hI hD (by omega) (by omega) (fun k k0 k1 => ?_) hq1 hq2
        rcases (by omega : k < a2 ∨ k = a2) with q | q
        · exact hin k k0 q
        · obtain ⟨j, j0, j1, j2⟩ := (hb5 _).mp x
          exact ⟨j, j0, j1, by rw [j2, hop, q]; omega⟩
      · have y1 : ¬ onT (M 22) (M 5 4) (2 * M 12 a2) := fun q => y ((hb5 _).mpr q)
        have x1 : ¬ onT (M 22) (M 5 4) (pm_op (2 * M 12 a2)) := fun q => x ((hb5 _).mpr q)
        have hoff : ∀ i, 0 ≤ i → i < M 5 4 → M 22 i / 2 ≠ M 12 a2 := fun i i0 i1 q => off_T y1 x1 i i0 i1 (by rw [q]; omega)
        have hlt := hD.lt hS hI h0 (by omega) hoff
        have hlen := hS.len
        have h5 := hS.2.2.1
        have hoff2 : ∀ i, 0 ≤ i → i < M 5 4 → M 22 i / 2 ≠ (2 * M 12 a2 + 1) / 2 := fun i i0 i1 q => hoff i i0 i1 (by rw [q]; omega)
        have hS1 := hS.attempt (d := 2 * M 12 a2 + 1) (by omega) (by omega) hoff2
        have hT := hS.2.2.2.2.2.2.1
        have hD1 := hD.att hS (k := a2) h0 (by omega) hin
        rw [hop]
        have g4 : att M (2 * M 12 a2 + 1) 4 = M 4 := att_c 4 (by decide) (by decide) (by decide) (by decide) (by decide)
        refine ⟨⟨by omega, by omega⟩, by unfold pm_R; omega, ⟨by omega, by omega⟩, by unfold pm_R; omega, ?_⟩
        show pm_X L (47, 0, [some (.inr (.inl 4)), none], [], att M (2 * M 12 a2 + 1)) _
        refine p_47 (C := C) (by rw [g4, h49]; exact hS1) (by rw [g4, h49]; omega) (by rw [g4, h49, att_54]; omega) ?_ (fun M' C' s1 s2 s3 => x_bki rfl (s_46_62 ⟨by unfold pm_R; omega, ?_⟩)) (fun M' C' c p s1 s2 s3 => x_bki rfl (s_46_62 ⟨by unfold pm_R; omega, ?_⟩))
        · rw [g4, h49, att_55, att_23]
          intro t t0 t1
          rcases (by omega : t < M 5 5 ∨ t = M 5 5) with q | q
          · rw [upf_n _ _ (by omega)]; have := hT.2.1 t t0 q; omega
          · rw [q, upf_e]; omega
        · have hFT : FT M M' := FT.att.tr s3.ft
          have e1 : M' 1 = M 1 := hFT.1 1 (by decide) (by decide) (by decide) (by decide) (by decide) (by decide) (by decide) (by decide) (by decide)
          have e12 : M' 12 = M 12 := hFT.1 12 (by decide) (by decide) (by decide) (by decide) (by decide) (by decide) (by decide) (by decide) (by decide)
          have hle := s3.2.2.1
          rw [att_54] at hle
          have hsame := s3.2.2.2.1
          rw [att_54, att_22] at hsame
          refine ih M' C' _ _ (by omega) s1 s2 (hI.of e1 e12) (hD1.fs hS1 s3) (by omega) (by rw [e1]; omega) (fun k k0 k1 => ?_) (fun M2 C2 q1 q2 q3 q4 => hq1 M2 C2 q1 q2 q3 (hFT.tr q4)) (fun M2 C2 c p q1 q2 q3 q4 => hq2 M2 C2 c p q1 q2 q3 (hFT.tr q4))
          rw [e12]
          rcases (by omega : k < a2 ∨ k = a2) with q | q
          · obtain ⟨j, j0, j1, j2⟩ := hin k k0 q
            exact ⟨j, j0, by omega, by rw [hsame j j0 (by omega), upf_n _ _ (by omega)]; exact j2⟩
          · exact ⟨M 5 4, by omega, by omega, by rw [hsame _ (by omega) (by omega), upf_e, q]; omega⟩
        · have hFT : FT M M' := FT.att.tr s3.ft
          have fin := hq2 M' C' c p s1 s2 (hD1.fs hS1 s3) hFT
          have hc := s2.1.1
          exact s_46_7 ⟨fun _ => fin, fun _ => ⟨fun _ => fin, fun q => absurd (by omega) q⟩⟩
theorem p_46 {L : Nat} {Q : pm_P} {M : pm_M} {C : Int → List Int} (hS : SI M C (M 4 9)) (h0 : 0 ≤ M 4 9) (hle : M 4 9 ≤ M 5 4) (htop : ∀ t, 0 ≤ t → t < M 5 5 → M 23 t ≤ M 4 9) (hI : IN M) (hD : DL M)
    (hq1 : ∀ (M' : pm_M) (C' : Int → List Int), SI M' C' (M' 5 4) → DL M' → (∀ k, 0 ≤ k → k < M' 1 7 → ∃ j, 0 ≤ j ∧ j < M' 5 4 ∧ M' 22 j / 2 = M' 12 k) → FT M M' → Q (.inl (some (.inl (-1)))) M')
    (hq2 : ∀ (M' : pm_M) (C' : Int → List Int) (c p : Int), SI M' C' p → CL M' c p → DL M' → FT M M' → Q (.inl (some (.inl c))) M') :
    pm_X L (46, 0, [some (.inr (.inl 4)), none, none, none], [], M) Q := by
  refine s_46_0 (p_47 hS h0 hle htop (fun M' C' s1 s2 s3 => x_bki rfl (s_46_4 ?_)) (fun M' C' c p s1 s2 s3 => x_bki rfl (s_46_4 ?_)))
  · have e1 : M' 1 = M 1 := s3.1 1 (by decide) (by decide) (by decide) (by decide) (by decide) (by decide) (by decide) (by decide)
    have e12 : M' 12 = M 12 := s3.1 12 (by decide) (by decide) (by decide) (by decide) (by decide) (by decide) (by decide) (by decide)
    have hN := hI.1
    exact p_46l _ M' C' 0 none (Nat.le_refl _) s1 s2 (hI.of e1 e12) (hD.fs hS s3) (by omega) (by rw [e1]; exact hN.1) (fun k k0 k1 => by omega) (fun M2 C2 q1 q2 q3 q4 => hq1 M2 C2 q1 q2 q3 (s3.ft.tr q4)) (fun M2 C2 c p q1 q2 q3 q4 => hq2 M2 C2 c p q1 q2 q3 (s3.ft.tr q4))
  · have fin := hq2 M' C' c p s1 s2 (hD.fs hS s3) s3.ft
    have hc := s2.1.1
    exact s_46_7 ⟨fun _ => fin, fun _ => ⟨fun _ => fin, fun q => absurd (by omega) q⟩⟩
