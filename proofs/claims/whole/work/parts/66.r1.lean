/-! PURE: clauses are added -/
def RW (M : pm_M) : Prop := CD (M 13) (M 14) (M 2 2) (M 2 3) (M 1 6) ∧ ND (M 13) (M 14) (M 2 2)
/-- a row of three places, where 0 fills one that isn't needed -/
def TRI (x y z l : Int) : Prop := l ≠ 0 ∧ (l = x ∨ l = y ∨ l = z)
def TRV (x y z : Int) : Prop := x = 1 ∨ y = 1 ∨ z = 1 ∨ x = pm_op y ∨ x = pm_op z ∨ y = pm_op z
/-- the clauses are those of T, but for such as hold anyway -/
def RT (M : pm_M) (T : Int → Int → Int → Prop) : Prop :=
  (∀ x y z, T x y z → TRV x y z ∨ ∃ c, 0 ≤ c ∧ c < M 2 2 ∧ ∀ l, inC (M 13) (M 14) c l ↔ TRI x y z l) ∧ ∀ c, 0 ≤ c → c < M 2 2 → ∃ x y z, T x y z ∧ ∀ l, inC (M 13) (M 14) c l ↔ TRI x y z l
/-- literals appended since a clause was closed -/
def AP (M0 M : pm_M) (P : Int → Prop) (k : Int) : Prop :=
  (∀ c, c ≠ 2 → c ≠ 13 → M c = M0 c) ∧ M 2 2 = M0 2 2 ∧ (∀ x, x < M0 2 3 → M 13 x = M0 13 x) ∧ (M0 2 3 ≤ M 2 3 ∧ M 2 3 ≤ M0 2 3 + k) ∧ (∀ l, (∃ i, M0 2 3 ≤ i ∧ i < M 2 3 ∧ M 13 i = l) ↔ P l) ∧ (∀ i j, M0 2 3 ≤ i → i < j → j < M 2 3 → M 13 i ≠ M 13 j) ∧ ∀ i, M0 2 3 ≤ i → i < M 2 3 → 2 ≤ M 13 i ∧ M 13 i < 2 * M0 1 6
theorem AP.rf (M : pm_M) : AP M M (fun _ => False) 0 :=
  ⟨fun _ _ _ => rfl, rfl, fun _ _ => rfl, ⟨Int.le_refl _, by omega⟩, fun l => ⟨fun ⟨i, i0, i1, _⟩ => by omega, fun z => z.elim⟩, fun i j i0 i1 i2 => by omega, fun i i0 i1 => by omega⟩
theorem AP.iff {M0 M : pm_M} {P P' : Int → Prop} {k k' : Int} (h : AP M0 M P k) (hk : k ≤ k') (hP : ∀ l, P l ↔ P' l) : AP M0 M P' k' := by
  obtain ⟨h1, h2, h3, h4, h5, h6⟩ := h
  exact ⟨h1, h2, h3, ⟨h4.1, by omega⟩, fun l => (h5 l).trans (hP l), h6⟩
theorem AP.app {M0 M : pm_M} {P : Int → Prop} {k v : Int} (h : AP M0 M P k) (hv : ¬ P v) (h2 : 2 ≤ v ∧ v < 2 * M0 1 6) : AP M0 (pm_set (pm_set M 13 (M 2 3) v) 2 3 (M 2 3 + 1)) (fun l => P l ∨ l = v) (k + 1) := by
  obtain ⟨a1, a2, a3, a4, a5, a6, a7⟩ := h
  have e13 : pm_set (pm_set M 13 (M 2 3) v) 2 3 (M 2 3 + 1) 13 = upf (M 13) (M 2 3) v := by rw [pm_set_off 13 (by decide), pm_cell, if_pos rfl]
  have e23 : pm_set (pm_set M 13 (M 2 3) v) 2 3 (M 2 3 + 1) 2 3 = M 2 3 + 1 := pm_get_e
  have e22 : pm_set (pm_set M 13 (M 2 3) v) 2 3 (M 2 3 + 1) 2 2 = M 2 2 := by rw [pm_get_j (by decide) rfl, pm_set_off 2 (by decide)]
  unfold AP
  rw [e13, e23, e22]
  have new : ∀ i, M0 2 3 ≤ i → i < M 2 3 → M 13 i ≠ v := fun i i0 i1 z => hv ((a5 v).mp ⟨i, i0, i1, z⟩)
  refine ⟨fun c c2 c13 => by rw [pm_set_off c c2, pm_set_off c c13]; exact a1 c c2 c13, a2, fun x hx => by rw [upf_n _ _ (by omega)]; exact a3 x hx, ⟨by omega, by omega⟩, fun l => ⟨?_, ?_⟩, fun i j i0 i1 i2 => ?_, fun i i0 i1 => ?_⟩
  · rintro ⟨i, i0, i1, i2⟩
    rcases (by omega : i < M 2 3 ∨ i = M 2 3) with z | z
    · rw [upf_n _ _ (by omega)] at i2; exact Or.inl ((a5 l).mp ⟨i, i0, z, i2⟩)
    · rw [z, upf_e] at i2; exact Or.inr i2.symm
  · rintro (z | z)
    · obtain ⟨i, i0, i1, i2⟩ := (a5 l).mpr z
      exact ⟨i, i0, by omega, by rw [upf_n _ _ (by omega)]; exact i2⟩
    · exact ⟨M 2 3, by omega, by omega, by rw [upf_e]; exact z.symm⟩
  · rw [upf_n _ _ (by omega : i ≠ M 2 3)]
    rcases (by omega : j < M 2 3 ∨ j = M 2 3) with z | z
    · rw [upf_n _ _ (by omega)]; exact a6 i j i0 i1 z
    · rw [z, upf_e]; exact new i i0 (by omega)
  · rcases (by omega : i < M 2 3 ∨ i = M 2 3) with z | z
    · rw [upf_n _ _ (by omega)]; exact a7 i i0 z
    · rw [z, upf_e]; exact h2
theorem RW.used {M : pm_M} (h : RW M) : 0 ≤ M 2 3 := by
  have h1 := h.1.mon (a := 0) (b := M 2 2) (Int.le_refl _) h.1.1 (Int.le_refl _)
  have h2 := h.1.2.2.1
  have h3 := h.1.2.2.2.1
  omega
/-- a clause is closed -/
theorem AP.close {M0 M M' : pm_M} {T : Int → Int → Int → Prop} {x y z : Int} (h : AP M0 M (TRI x y z) 3) (hR : RW M0) (hT : RT M0 T) (hu : M0 2 3 + 3 ≤ 85212) (htt : M0 2 2 + 1 ≤ 16116) (hM : M' = pm_set (pm_set M 2 2 (M 2 2 + 1)) 14 (M 2 2 + 1) (M 2 3)) :
    (∀ c, c ≠ 2 → c ≠ 13 → c ≠ 14 → M' c = M0 c) ∧ RW M' ∧ (M' 2 2 = M0 2 2 + 1 ∧ M' 2 3 ≤ M0 2 3 + 3) ∧ RT M' (fun a b c => T a b c ∨ (a = x ∧ b = y ∧ c = z)) := by
  obtain ⟨a1, a2, a3, a4, a5, a6, a7⟩ := h
  have hu0 := hR.used
  obtain ⟨hcd, hN⟩ := hR
  have e14 : M' 14 = upf (M0 14) (M0 2 2 + 1) (M 2 3) := by rw [hM, pm_cell, if_pos rfl, pm_set_off 14 (by decide), a1 14 (by decide) (by decide), a2]
  have e13 : M' 13 = M 13 := by rw [hM, pm_set_off 13 (by decide), pm_set_off 13 (by decide)]
  have e22 : M' 2 2 = M0 2 2 + 1 := by rw [hM, pm_set_off 2 (by decide), pm_get_e, a2]
  have e23 : M' 2 3 = M 2 3 := by rw [hM, pm_set_off 2 (by decide), pm_get_j (by decide) rfl]
  have e1 : M' 1 = M0 1 := by rw [hM, pm_set_off 1 (by decide), pm_set_off 1 (by decide)]; exact a1 1 (by decide) (by decide)
  have hin : ∀ c, 0 ≤ c → c ≤ M0 2 2 → M' 14 c = M0 14 c := fun c c0 c1 => by rw [e14, upf_n _ _ (by omega)]
  have hl : ∀ i, i < M0 2 3 → M' 13 i = M0 13 i := fun i hi => by rw [e13]; exact a3 i hi
  have hK : ∀ c l, 0 ≤ c → c < M0 2 2 → (inC (M' 13) (M' 14) c l ↔ inC (M0 13) (M0 14) c l) := fun c l c0 c1 => in_of hcd hin hl c0 c1
  have en : M' 14 (M0 2 2 + 1) = M 2 3 := by rw [e14, upf_e]
  have et : M' 14 (M0 2 2) = M0 2 3 := (hin _ hcd.1 (Int.le_refl _)).trans hcd.2.2.2.1
  have inew : ∀ l, inC (M' 13) (M' 14) (M0 2 2) l ↔ TRI x y z l := fun l => by
    unfold inC
    rw [et, en, e13]
    exact a5 l
  refine ⟨fun c c2 c13 c14 => by rw [hM, pm_set_off c c14, pm_set_off c c2]; exact a1 c c2 c13, ⟨?_, ?_⟩, ⟨e22, by rw [e23]; omega⟩, ?_, ?_⟩
  · rw [e22, e23, e1]
    obtain ⟨d1, d2, d3, d4, d5, d6, d7⟩ := hcd
    refine ⟨by omega, htt, by rw [hin 0 (by omega) d1]; exact d3, en, by omega, fun c c0 c1 => ?_, fun i i0 i1 => ?_⟩
    · rcases (by omega : c < M0 2 2 ∨ c = M0 2 2) with w | w
      · rw [hin c c0 (by omega), hin (c + 1) (by omega) (by omega)]; exact d6 c c0 w
      · rw [w, en, et]; exact a4.1
    · rcases (by omega : i < M0 2 3 ∨ M0 2 3 ≤ i) with w | w
      · rw [hl i w]; exact d7 i i0 w
      · rw [e13]; exact a7 i w i1
  · rw [e22]
    intro c i j c0 c1 hi hij hj
    rcases (by omega : c < M0 2 2 ∨ c = M0 2 2) with w | w
    · have hat := hcd.at c0 w
      rw [hin c c0 (by omega)] at hi
      rw [hin (c + 1) (by omega) (by omega)] at hj
      rw [hl i (by omega), hl j (by omega)]
      exact hN c i j c0 w hi hij hj
    · rw [w, et] at hi
      rw [w, en] at hj
      rw [e13]
      exact a6 i j hi hij hj
  · intro a b c hab
    rcases hab with w | ⟨w1, w2, w3⟩
    · rcases hT.1 a b c w with q | ⟨d, d0, d1, d2⟩
      · exact Or.inl q
      · exact Or.inr ⟨d, d0, by omega, fun l => (hK d l d0 d1).trans (d2 l)⟩
    · rw [w1, w2, w3]
      exact Or.inr ⟨M0 2 2, hcd.1, by omega, inew⟩
  · rw [e22]
    intro c c0 c1
    rcases (by omega : c < M0 2 2 ∨ c = M0 2 2) with w | w
    · obtain ⟨x', y', z', q1, q2⟩ := hT.2 c c0 w
      exact ⟨x', y', z', Or.inl q1, fun l => (hK c l c0 w).trans (q2 l)⟩
    · exact ⟨x, y, z, Or.inr ⟨rfl, rfl, rfl⟩, by rw [w]; exact inew⟩
theorem p_33 {L : Nat} {Q : pm_P} {M : pm_M} {T : Int → Int → Int → Prop} {x y z : Int} (hR : RW M) (hT : RT M T) (hx : 0 ≤ x ∧ x < 2 * M 1 6) (hy : 0 ≤ y ∧ y < 2 * M 1 6) (hz : 0 ≤ z ∧ z < 2 * M 1 6) (hu : M 2 3 + 3 ≤ 85212) (htt : M 2 2 + 1 ≤ 16116)
    (hq : ∀ M' : pm_M, (∀ c, c ≠ 2 → c ≠ 13 → c ≠ 14 → M' c = M c) → RW M' → (M' 2 2 ≤ M 2 2 + 1 ∧ M' 2 3 ≤ M 2 3 + 3) → RT M' (fun a b c => T a b c ∨ (a = x ∧ b = y ∧ c = z)) → Q (.inl none) M') :
    pm_X L (33, 0, [some (.inr (.inl 2)), some (.inl x), some (.inl y), some (.inl z)], [], M) Q := by
  have hu0 := hR.used
  have triv : TRV x y z → Q (.inl none) M := fun ht => hq M (fun _ _ _ _ => rfl) hR ⟨by omega, by omega⟩ ⟨fun a b c h => by
    rcases h with w | ⟨w1, w2, w3⟩
    · exact hT.1 a b c w
    · rw [w1, w2, w3]; exact Or.inl ht, fun c c0 c1 => by
    obtain ⟨x', y', z', q1, q2⟩ := hT.2 c c0 c1
    exact ⟨x', y', z', Or.inl q1, q2⟩⟩
  refine s_33_0 ⟨fun c => triv (Or.inl c), fun n1 => ⟨fun c => triv (Or.inr (Or.inl c)), fun n2 => ⟨fun n3 => ⟨fun c => triv (Or.inr (Or.inr (Or.inr (Or.inl c)))), fun n4 => ⟨fun c => triv (Or.inr (Or.inr (Or.inr (Or.inr (Or.inl c))))), fun n5 => ⟨fun n6 => ?_, fun c => triv (Or.inr (Or.inr (Or.inr (Or.inr (Or.inr (Classical.not_not.mp c))))))⟩⟩⟩, fun c => triv (Or.inr (Or.inr (Or.inl (Classical.not_not.mp c))))⟩⟩⟩
  -- from the last place on
  have t83 : ∀ M1 : pm_M, AP M M1 (TRI x y z) 3 → pm_X L (33, 83, [some (.inr (.inl 2)), some (.inl x), some (.inl y), some (.inl z)], [], M1) Q := by
    intro M1 h
    have h2 := h.2.1
    have ht0 := hR.1.1
    refine s_33_83 ⟨by unfold pm_R; omega, ⟨by omega, by omega⟩, ?_⟩
    obtain ⟨q1, q2, q3, q4⟩ := h.close hR hT hu htt rfl
    exact hq _ q1 q2 ⟨by omega, q3.2⟩ q4
  have t64 : ∀ M1 : pm_M, AP M M1 (fun l => l ≠ 0 ∧ (l = x ∨ l = y)) 2 → pm_X L (33, 64, [some (.inr (.inl 2)), some (.inl x), some (.inl y), some (.inl z)], [], M1) Q := by
    intro M1 h
    have h4 := h.2.2.2.1
    refine s_33_64 ⟨fun c => t83 M1 (h.iff (by omega) (fun l => by unfold TRI; omega)), fun c1 => ⟨fun c => t83 M1 (h.iff (by omega) (fun l => by unfold TRI; omega)), fun c2 => ⟨fun c => t83 M1 (h.iff (by omega) (fun l => by unfold TRI; omega)), fun c3 => ⟨⟨by omega, by omega⟩, by unfold pm_R; omega, ?_⟩⟩⟩⟩
    exact t83 _ ((h.app (v := z) (by omega) ⟨by omega, by omega⟩).iff (by omega) (fun l => by unfold TRI; omega))
  have t50 : ∀ M1 : pm_M, AP M M1 (fun l => l ≠ 0 ∧ l = x) 1 → pm_X L (33, 50, [some (.inr (.inl 2)), some (.inl x), some (.inl y), some (.inl z)], [], M1) Q := by
    intro M1 h
    have h4 := h.2.2.2.1
    refine s_33_50 ⟨fun c => t64 M1 (h.iff (by omega) (fun l => by omega)), fun c1 => ⟨fun c => t64 M1 (h.iff (by omega) (fun l => by omega)), fun c2 => ⟨⟨by omega, by omega⟩, by unfold pm_R; omega, ?_⟩⟩⟩
    exact t64 _ ((h.app (v := y) (by omega) ⟨by omega, by omega⟩).iff (by omega) (fun l => by omega))
  refine s_33_41 ⟨fun c => t50 M ((AP.rf M).iff (by omega) (fun l => ⟨fun w => False.elim w, fun w => absurd (w.2.trans c) w.1⟩)), fun c1 => ⟨⟨by omega, by omega⟩, by unfold pm_R; omega, ?_⟩⟩
  exact t50 _ (((AP.rf M).app (v := x) (fun z => z) ⟨by omega, by omega⟩).iff (by omega) (fun l => ⟨fun w => w.elim (fun f => False.elim f) (fun e => ⟨fun q => c1 (e.symm.trans q), e⟩), fun w => Or.inr w.2⟩))
