/-! PURE: watchBoth -/
theorem CH.skip {fw nw lits st : Int → Int} {tot F : Int} {C : Int → List Int} (h : CH fw nw lits st tot F C) (hs : ¬ st tot + 2 ≤ st (tot + 1)) : CH fw nw lits st (tot + 1) F C := by
  obtain ⟨h1, h2, h3⟩ := h
  refine ⟨h1, fun l w l0 l1 hw => ?_, fun w w0 w1 w2 => ?_⟩
  · obtain ⟨a, b, c⟩ := h2 l w l0 l1 hw
    exact ⟨a, by omega, c⟩
  · have : w / 2 ≠ tot := fun z => by rw [z] at w2; exact hs w2
    exact h3 w w0 (by omega) w2
/-- the rows before are as they were -/
theorem CH.of {fw nw lits st lits' st' : Int → Int} {tot used F : Int} {C : Int → List Int} (h : CH fw nw lits st tot F C) (hcd : CD lits st tot used F) (e1 : ∀ c, 0 ≤ c → c ≤ tot → st' c = st c) (e2 : ∀ i, i < used → lits' i = lits i) : CH fw nw lits' st' tot F C := by
  obtain ⟨h1, h2, h3⟩ := h
  refine ⟨h1, fun l w l0 l1 hw => ?_, fun w w0 w1 w2 => ?_⟩
  · obtain ⟨a, b, c, d⟩ := h2 l w l0 l1 hw
    have hat := hcd.at (c := w / 2) (by omega) b
    rw [e1 _ (by omega) (by omega), e1 _ (by omega) (by omega), e2 _ (by omega)]
    exact ⟨a, b, c, d⟩
  · have hat := hcd.at (c := w / 2) (by omega) w1
    rw [e1 _ (by omega) (by omega), e1 _ (by omega) (by omega)] at w2
    rw [e1 _ (by omega) (by omega), e2 _ (by omega)]
    exact h3 w w0 w1 w2
/-- two watches more -/
theorem CH.more {fw nw lits st : Int → Int} {tot F l0 l1 : Int} {C : Int → List Int} (h : CH fw nw lits st tot F C) (ht : 0 ≤ tot) (e0 : lits (st tot) = l0) (e1 : lits (st tot + 1) = l1) (hs : st tot + 2 ≤ st (tot + 1)) (hne : l1 ≠ l0) (b0 : 0 ≤ l0 ∧ l0 < 2 * F) (b1 : 0 ≤ l1 ∧ l1 < 2 * F) :
    CH (upf (upf fw l0 (2 * tot)) l1 (2 * tot + 1)) (upf (upf nw (2 * tot) (fw l0)) (2 * tot + 1) (fw l1)) lits st (tot + 1) F (fun x => if x = l0 then (2 * tot) :: C x else if x = l1 then (2 * tot + 1) :: C x else C x) := by
  obtain ⟨h1, h2, h3⟩ := h
  have out : ∀ l w, 0 ≤ l → l < 2 * F → w ∈ C l → w ≠ 2 * tot ∧ w ≠ 2 * tot + 1 := fun l w q0 q1 hw => by
    have := h2 l w q0 q1 hw
    omega
  have old : ∀ l, 0 ≤ l → l < 2 * F → Ch (upf (upf nw (2 * tot) (fw l0)) (2 * tot + 1) (fw l1)) (fw l) (C l) := fun l q0 q1 =>
    Ch.upd _ _ (Ch.upd _ _ (h1 l q0 q1).1 (fun z => (out l _ q0 q1 z).1 rfl)) (fun z => (out l _ q0 q1 z).2 rfl)
  refine ⟨fun l q0 q1 => ?_, fun l w q0 q1 hw => ?_, fun w w0 w1 w2 => ?_⟩
  · show Ch _ _ (if l = l0 then (2 * tot) :: C l else if l = l1 then (2 * tot + 1) :: C l else C l) ∧ (if l = l0 then (2 * tot) :: C l else if l = l1 then (2 * tot + 1) :: C l else C l).Nodup
    by_cases x0 : l = l0
    · rw [if_pos x0, x0, upf_n _ _ (fun z => hne z.symm), upf_e]
      refine ⟨⟨rfl, by omega, ?_⟩, List.nodup_cons.mpr ⟨fun z => (out l0 _ b0.1 b0.2 z).1 rfl, (h1 l0 b0.1 b0.2).2⟩⟩
      rw [upf_n _ _ (by omega), upf_e]
      exact old l0 b0.1 b0.2
    · rw [if_neg x0]
      by_cases x1 : l = l1
      · rw [if_pos x1, x1, upf_e]
        refine ⟨⟨rfl, by omega, ?_⟩, List.nodup_cons.mpr ⟨fun z => (out l1 _ b1.1 b1.2 z).2 rfl, (h1 l1 b1.1 b1.2).2⟩⟩
        rw [upf_e]
        exact old l1 b1.1 b1.2
      · rw [if_neg x1, upf_n _ _ x1, upf_n _ _ x0]
        exact ⟨old l q0 q1, (h1 l q0 q1).2⟩
  · replace hw : w ∈ (if l = l0 then (2 * tot) :: C l else if l = l1 then (2 * tot + 1) :: C l else C l) := hw
    have nw0 : w = 2 * tot → l = l0 → 0 ≤ w ∧ w / 2 < tot + 1 ∧ st (w / 2) + 2 ≤ st (w / 2 + 1) ∧ lits (st (w / 2) + w % 2) = l := fun y z => by
      rw [show w / 2 = tot by omega, show w % 2 = 0 by omega, Int.add_zero, e0]
      exact ⟨by omega, by omega, hs, z.symm⟩
    have nw1 : w = 2 * tot + 1 → l = l1 → 0 ≤ w ∧ w / 2 < tot + 1 ∧ st (w / 2) + 2 ≤ st (w / 2 + 1) ∧ lits (st (w / 2) + w % 2) = l := fun y z => by
      rw [show w / 2 = tot by omega, show w % 2 = 1 by omega, e1]
      exact ⟨by omega, by omega, hs, z.symm⟩
    have oldw : w ∈ C l → 0 ≤ w ∧ w / 2 < tot + 1 ∧ st (w / 2) + 2 ≤ st (w / 2 + 1) ∧ lits (st (w / 2) + w % 2) = l := fun z => by
      obtain ⟨a, b, c⟩ := h2 l w q0 q1 z
      exact ⟨a, by omega, c⟩
    by_cases x0 : l = l0
    · rw [if_pos x0] at hw
      rcases List.mem_cons.mp hw with z | z
      · exact nw0 z x0
      · exact oldw z
    · rw [if_neg x0] at hw
      by_cases x1 : l = l1
      · rw [if_pos x1] at hw
        rcases List.mem_cons.mp hw with z | z
        · exact nw1 z x1
        · exact oldw z
      · rw [if_neg x1] at hw
        exact oldw hw
  · show w ∈ (if lits (st (w / 2) + w % 2) = l0 then (2 * tot) :: C (lits (st (w / 2) + w % 2)) else if lits (st (w / 2) + w % 2) = l1 then (2 * tot + 1) :: C (lits (st (w / 2) + w % 2)) else C (lits (st (w / 2) + w % 2)))
    rcases (by omega : w / 2 < tot ∨ w = 2 * tot ∨ w = 2 * tot + 1) with z | z | z
    · have hm := h3 w w0 z w2
      by_cases x0 : lits (st (w / 2) + w % 2) = l0
      · rw [if_pos x0]; exact List.mem_cons_of_mem _ hm
      · rw [if_neg x0]
        by_cases x1 : lits (st (w / 2) + w % 2) = l1
        · rw [if_pos x1]; exact List.mem_cons_of_mem _ hm
        · rw [if_neg x1]; exact hm
    · rw [show w / 2 = tot by omega, show w % 2 = 0 by omega, Int.add_zero, if_pos e0, z]
      exact List.mem_cons_self
    · rw [show w / 2 = tot by omega, show w % 2 = 1 by omega, if_neg (by rw [e1]; exact hne), if_pos e1, z]
      exact List.mem_cons_self
theorem p_52 {L : Nat} {Q : pm_P} {M : pm_M} {C : Int → List Int} {a1 : Int} (hC : CH (M 16) (M 17) (M 13) (M 14) a1 (M 1 6) C) (h0 : 0 ≤ a1) (h1 : a1 < 16116) (h2 : M 14 a1 + 2 ≤ M 14 (a1 + 1)) (hs0 : 0 ≤ M 14 a1) (hs : M 14 (a1 + 1) ≤ 85212) (hF : M 1 6 ≤ 2000)
    (hl : ∀ i, M 14 a1 ≤ i → i < M 14 (a1 + 1) → 0 ≤ M 13 i ∧ M 13 i < 2 * M 1 6) (hne : M 13 (M 14 a1 + 1) ≠ M 13 (M 14 a1))
    (hq : ∀ (M' : pm_M) (C' : Int → List Int), (∀ c, c ≠ 16 → c ≠ 17 → M' c = M c) → CH (M' 16) (M' 17) (M 13) (M 14) (a1 + 1) (M 1 6) C' → Q (.inl none) M') :
    pm_X L (52, 0, [some (.inr (.inl 4)), some (.inl a1), none, none, none], [], M) Q := by
  have g0 := hl (M 14 a1) (by omega) (by omega)
  have g1 := hl (M 14 a1 + 1) (by omega) (by omega)
  refine s_52_0 (s_52_2 ⟨fun c => by omega, fun _ => ?_⟩)
  rw [Int.add_zero (M 14 a1), Int.add_zero (2 * a1), show (0 : Int) + 1 = 1 from rfl]
  refine ⟨⟨h0, by omega⟩, by unfold pm_R; omega, ⟨by omega, by omega⟩, by unfold pm_R; omega, by unfold pm_R; omega, ⟨by omega, by omega⟩, ⟨by omega, by omega⟩, by unfold pm_R; omega, ?_⟩
  generalize hM1 : pm_set (pm_set M 17 (2 * a1) (M 16 (M 13 (M 14 a1)))) 16 (M 13 (M 14 a1)) (2 * a1) = M1
  have o1 : ∀ c, c ≠ 16 → c ≠ 17 → M1 c = M c := fun c c16 c17 => by rw [← hM1, pm_set_off c c16, pm_set_off c c17]
  have e13 : M1 13 = M 13 := o1 13 (by decide) (by decide)
  have e14 : M1 14 = M 14 := o1 14 (by decide) (by decide)
  have e16 : M1 16 = upf (M 16) (M 13 (M 14 a1)) (2 * a1) := by rw [← hM1, pm_cell, if_pos rfl, pm_set_off 16 (by decide)]
  have e17 : M1 17 = upf (M 17) (2 * a1) (M 16 (M 13 (M 14 a1))) := by rw [← hM1, pm_set_off 17 (by decide), pm_cell, if_pos rfl]
  refine s_52_2 ⟨fun c => by omega, fun _ => ?_⟩
  rw [e13, e14]
  refine ⟨⟨h0, by omega⟩, by unfold pm_R; omega, ⟨by omega, by omega⟩, by unfold pm_R; omega, by unfold pm_R; omega, ⟨by omega, by omega⟩, ⟨by omega, by omega⟩, by unfold pm_R; omega, ?_⟩
  refine s_52_2 ⟨fun _ => ?_, fun c => by omega⟩
  refine hq _ (fun x => if x = M 13 (M 14 a1) then (2 * a1) :: C x else if x = M 13 (M 14 a1 + 1) then (2 * a1 + 1) :: C x else C x) (fun c c16 c17 => by rw [pm_set_off c c16, pm_set_off c c17]; exact o1 c c16 c17) ?_
  · have f16 : pm_set (pm_set M1 17 (2 * a1 + 1) (M1 16 (M 13 (M 14 a1 + 1)))) 16 (M 13 (M 14 a1 + 1)) (2 * a1 + 1) 16 = upf (upf (M 16) (M 13 (M 14 a1)) (2 * a1)) (M 13 (M 14 a1 + 1)) (2 * a1 + 1) := by rw [pm_cell, if_pos rfl, pm_set_off 16 (by decide), e16]
    have f17 : pm_set (pm_set M1 17 (2 * a1 + 1) (M1 16 (M 13 (M 14 a1 + 1)))) 16 (M 13 (M 14 a1 + 1)) (2 * a1 + 1) 17 = upf (upf (M 17) (2 * a1) (M 16 (M 13 (M 14 a1)))) (2 * a1 + 1) (M 16 (M 13 (M 14 a1 + 1))) := by rw [pm_set_off 17 (by decide), pm_cell, if_pos rfl, e17, e16, upf_n _ _ hne]
    rw [f16, f17]
    exact hC.more h0 rfl rfl h2 hne g0 g1
