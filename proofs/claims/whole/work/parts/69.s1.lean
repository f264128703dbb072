/-! MEANING: which formulas are true -/
/-- V is what the circuit says, given its inputs -/
def GV (M : pm_M) (V : Int → Bool) : Prop := V 0 = false ∧ ∀ f, 0 < f → f < M 1 6 → M 7 f ≠ -1 → V f = (if tv V (M 7 f) = true then tv V (M 8 f) else tv V (M 9 f))
theorem tv_0 (V : Int → Bool) : tv V 0 = V 0 := tv_two V 0
theorem tv_1 (V : Int → Bool) : tv V 1 = !(V 0) := tv_two1 V 0
theorem G6.hold {V : Int → Bool} {c a b f x y z : Int} (hv : V f = (if tv V c = true then tv V a else tv V b)) (h : G6 c a b (2 * f) x y z) : tv V x = true ∨ tv V y = true ∨ tv V z = true := by
  unfold G6 at h
  rcases h with ⟨e1, e2, e3⟩ | ⟨e1, e2, e3⟩ | ⟨e1, e2, e3⟩ | ⟨e1, e2, e3⟩ | ⟨e1, e2, e3⟩ | ⟨e1, e2, e3⟩ <;> rw [e1, e2, e3] <;> simp only [tv_op, tv_two, hv] <;> cases tv V c <;> cases tv V a <;> cases tv V b <;> decide
theorem QR.sat {M M' : pm_M} {T : Int → Int → Int → Prop} {V : Int → Bool} (h : QR M M' T) (hV : GV M V) (hT : ∀ x y z, T x y z → tv V x = true ∨ tv V y = true ∨ tv V z = true) : SAT (M' 13) (M' 14) (M' 2 2) V := by
  obtain ⟨-, -, -, -, ⟨-, r⟩, -⟩ := h
  intro c c0 c1
  obtain ⟨x, y, z, t, q⟩ := r c c0 c1
  have hold : tv V x = true ∨ tv V y = true ∨ tv V z = true := by
    rcases t with w | ⟨f, f0, -, f2, f3⟩
    · exact hT x y z w
    · exact f3.hold (hV.2 f f0.1 f0.2 f2)
  have ne : ∀ l, tv V l = true → l ≠ 0 := fun l hl e => by
    rw [e, tv_0, hV.1] at hl
    cases hl
  rcases hold with w | w | w
  · exact ⟨x, (q x).mpr ⟨ne x w, Or.inl rfl⟩, w⟩
  · exact ⟨y, (q y).mpr ⟨ne y w, Or.inr (Or.inl rfl)⟩, w⟩
  · exact ⟨z, (q z).mpr ⟨ne z w, Or.inr (Or.inr rfl)⟩, w⟩
/-- a valuation there is for all inputs -/
theorem gv_ex {M : pm_M} (hW : CW M) (W : Int → Bool) : ∃ V, GV M V ∧ ∀ f, 0 < f → f < M 1 6 → M 7 f = -1 → V f = W f := by
  have key : ∀ n : Nat, (n : Int) ≤ M 1 6 → ∃ V : Int → Bool, V 0 = false ∧ ∀ f : Int, 0 < f → f < (n : Int) → (M 7 f = -1 → V f = W f) ∧ (M 7 f ≠ -1 → V f = (if tv V (M 7 f) = true then tv V (M 8 f) else tv V (M 9 f))) := by
    intro n
    induction n with
    | zero => intro _; exact ⟨fun _ => false, rfl, fun f f0 f1 => by omega⟩
    | succ n ih =>
      intro hn
      obtain ⟨V, v0, v1⟩ := ih (by omega)
      by_cases hz : n = 0
      · exact ⟨V, v0, fun f f0 f1 => by omega⟩
      · let x : Bool := if M 7 n = -1 then W n else (if tv V (M 7 n) = true then tv V (M 8 n) else tv V (M 9 n))
        have off : ∀ l : Int, l / 2 < (n : Int) → tv (fun b => if b = (n : Int) then x else V b) l = tv V l := by
          intro l hl
          show (if l % 2 = 0 then (if l / 2 = (n : Int) then x else V (l / 2)) else !(if l / 2 = (n : Int) then x else V (l / 2))) = (if l % 2 = 0 then V (l / 2) else !(V (l / 2)))
          rw [if_neg (by omega : ¬ l / 2 = (n : Int))]
        refine ⟨fun b => if b = (n : Int) then x else V b, ?_, fun f f0 f1 => ?_⟩
        · show (if (0 : Int) = (n : Int) then x else V 0) = false
          rw [if_neg (by omega)]; exact v0
        · rcases (by omega : f < n ∨ f = n) with q | q
          · have e : (if f = (n : Int) then x else V f) = V f := if_neg (by omega)
            obtain ⟨u1, u2⟩ := v1 f f0 q
            refine ⟨fun h => by show (if f = (n : Int) then x else V f) = W f; rw [e]; exact u1 h, fun h => ?_⟩
            obtain ⟨g7, g8, g9⟩ := hW.2 f f0 (by omega) h
            show (if f = (n : Int) then x else V f) = _
            rw [e, off _ (by omega), off _ (by omega), off _ (by omega)]
            exact u2 h
          · subst q
            refine ⟨fun h => ?_, fun h => ?_⟩
            · show (if (n : Int) = (n : Int) then x else V n) = W n
              rw [if_pos rfl]
              show (if M 7 n = -1 then W n else _) = W n
              rw [if_pos h]
            · obtain ⟨g7, g8, g9⟩ := hW.2 n f0 (by omega) h
              show (if (n : Int) = (n : Int) then x else V n) = _
              rw [if_pos rfl, off _ (by omega), off _ (by omega), off _ (by omega)]
              show (if M 7 n = -1 then W n else _) = _
              rw [if_neg h]
  have hF := hW.1
  obtain ⟨V, v0, v1⟩ := key (M 1 6).toNat (by omega)
  exact ⟨V, ⟨v0, fun f f0 f1 f2 => (v1 f f0 (by omega)).2 f2⟩, fun f f0 f1 f2 => (v1 f f0 (by omega)).1 f2⟩
/-- the same inputs, the same values -/
theorem GV.same {M : pm_M} {V V' : Int → Bool} (hW : CW M) (h : GV M V) (h' : GV M V') (hi : ∀ f, 0 < f → f < M 1 6 → M 7 f = -1 → V f = V' f) : ∀ (n : Nat) (f : Int), f.toNat = n → 0 ≤ f → f < M 1 6 → V f = V' f := by
  intro n
  induction n using Nat.strongRecOn with
  | ind n ih =>
    intro f hn f0 f1
    rcases (by omega : f = 0 ∨ 0 < f) with z | z
    · rw [z, h.1, h'.1]
    · by_cases hc : M 7 f = -1
      · exact hi f z f1 hc
      · obtain ⟨g7, g8, g9⟩ := hW.2 f z f1 hc
        have e : ∀ l, 0 ≤ l → l / 2 < f → tv V l = tv V' l := by
          intro l l0 l1
          unfold tv
          rw [ih (l / 2).toNat (by omega) (l / 2) rfl (by omega) (by omega)]
        rw [h.2 f z f1 hc, h'.2 f z f1 hc, e _ g7.1 g7.2, e _ g8.1 g8.2, e _ g9.1 g9.2]
/-- what was found: the trail says of every formula that matters what the circuit says -/
theorem found_det {M M1 M2 : pm_M} {C : Int → List Int} {T : Int → Int → Int → Prop} {V : Int → Bool} (hW : CW M) (hQ : QR M M1 T) (hS : SI M2 C (M2 5 4)) (ht : M1 2 2 ≤ M2 2 2) (hK : ∀ c l, 0 ≤ c → c < M1 2 2 → (inC (M2 13) (M2 14) c l ↔ inC (M1 13) (M1 14) c l))
    (hin : ∀ f, 0 < f → f < M 1 6 → M 7 f = -1 → ∃ j, 0 ≤ j ∧ j < M2 5 4 ∧ M2 22 j / 2 = f) (hV : GV M V) (hVi : ∀ f, 0 < f → f < M 1 6 → M 7 f = -1 → (V f = true ↔ M2 20 (2 * f) ≠ 0)) :
    ∀ (n : Nat) (f : Int), f.toNat = n → 0 < f → f < M 1 6 → M1 11 f ≠ 0 → ∀ l, l / 2 = f → tv V l = true → onT (M2 22) (M2 5 4) l := by
  obtain ⟨-, -, -, q4, ⟨q5, -⟩, -⟩ := hQ
  obtain ⟨-, -, -, -, s5, -, s7, s8, s9, s10, s11, -⟩ := hS
  have t0 : tv V 0 = false := by rw [tv_0]; exact hV.1
  have t1 : tv V 1 = true := by rw [tv_1, hV.1]; rfl
  intro n
  induction n using Nat.strongRecOn with
  | ind n ih =>
    intro f hn f0 f1 hm l hl hv
    by_cases hc : M 7 f = -1
    · obtain ⟨j, j0, j1, j2⟩ := hin f f0 f1 hc
      rcases op_or (a := M2 22 j) (b := l) (by rw [j2, hl]) with w | w
      · exact ⟨j, j0, j1, w⟩
      · rcases (by omega : l = 2 * f ∨ l = 2 * f + 1) with e | e
        · rw [e, tv_two] at hv
          have := (s5 _).mp ((hVi f f0 f1 hc).mp hv)
          rw [e]; exact this
        · rw [e, op_two1] at w
          have h1 := (hVi f f0 f1 hc).mpr ((s5 _).mpr ⟨j, j0, j1, w⟩)
          rw [e, tv_two1, h1] at hv
          cases hv
    · obtain ⟨g7, g8, g9⟩ := hW.2 f f0 f1 hc
      obtain ⟨m7, m8, m9⟩ := q4 f f0 f1 hm hc
      have force : ∀ x y g : Int, g / 2 = f → G6 (M 7 f) (M 8 f) (M 9 f) (2 * f) x y g → tv V x = false → tv V y = false → (0 ≤ x ∧ x / 2 < f ∧ M1 11 (x / 2) ≠ 0) → (0 ≤ y ∧ y / 2 < f ∧ M1 11 (y / 2) ≠ 0) → onT (M2 22) (M2 5 4) g := by
        intro x y g hg h6 vx vy hx hy
        have low : ∀ u, tv V u = false → (0 ≤ u ∧ u / 2 < f ∧ M1 11 (u / 2) ≠ 0) → u ≠ 0 → onT (M2 22) (M2 5 4) (pm_op u) := by
          intro u vu hu hne
          have hn1 : u ≠ 1 := fun z => by rw [z, t1] at vu; cases vu
          exact ih (u / 2).toNat (by omega) (u / 2) rfl (by omega) (by omega) hu.2.2 (pm_op u) (op_div u) (by rw [tv_op, vu]; rfl)
        rcases q5 x y g (Or.inr ⟨f, ⟨f0, f1⟩, hm, hc, h6⟩) with w | ⟨c, c0, c1, c2⟩
        · have dx := op_div g
          rcases w with w | w | w | w | w | w
          · rw [w, t1] at vx; cases vx
          · rw [w, t1] at vy; cases vy
          · omega
          · rw [w, tv_op, vy] at vx; cases vx
          · rw [w] at hx; omega
          · rw [w] at hy; omega
        · refine WI.fix s7 s8 s9 s10 s11 c0 (by omega : c < M2 2 2) ((hK c g c0 c1).mpr ((c2 g).mpr ⟨by omega, Or.inr (Or.inr rfl)⟩)) (fun u hu hne => ?_)
          obtain ⟨u1, u2⟩ := (c2 u).mp ((hK c u c0 c1).mp hu)
          rcases u2 with w | w | w
          · rw [w]; exact low x vx hx (by rw [← w]; exact u1)
          · rw [w]; exact low y vy hy (by rw [← w]; exact u1)
          · exact absurd w hne
      have hval := hV.2 f f0 f1 hc
      have o7 := op_div (M 7 f)
      have o8 := op_div (M 8 f)
      have o9 := op_div (M 9 f)
      have i7 : 0 ≤ M 7 f ∧ M 7 f / 2 < f ∧ M1 11 (M 7 f / 2) ≠ 0 := ⟨g7.1, g7.2, m7⟩
      have i8 : 0 ≤ M 8 f ∧ M 8 f / 2 < f ∧ M1 11 (M 8 f / 2) ≠ 0 := ⟨g8.1, g8.2, m8⟩
      have i9 : 0 ≤ M 9 f ∧ M 9 f / 2 < f ∧ M1 11 (M 9 f / 2) ≠ 0 := ⟨g9.1, g9.2, m9⟩
      have p7 : 0 ≤ pm_op (M 7 f) ∧ pm_op (M 7 f) / 2 < f ∧ M1 11 (pm_op (M 7 f) / 2) ≠ 0 := by rw [o7]; exact ⟨op_lo g7.1, i7.2⟩
      have p8 : 0 ≤ pm_op (M 8 f) ∧ pm_op (M 8 f) / 2 < f ∧ M1 11 (pm_op (M 8 f) / 2) ≠ 0 := by rw [o8]; exact ⟨op_lo g8.1, i8.2⟩
      have p9 : 0 ≤ pm_op (M 9 f) ∧ pm_op (M 9 f) / 2 < f ∧ M1 11 (pm_op (M 9 f) / 2) ≠ 0 := by rw [o9]; exact ⟨op_lo g9.1, i9.2⟩
      have og : pm_op (2 * f) / 2 = f := by rw [op_div]; omega
      rcases (by omega : l = 2 * f ∨ l = 2 * f + 1) with e | e
      · rw [e, tv_two, hval] at hv
        rw [e]
        cases h7 : tv V (M 7 f) with
        | true =>
          rw [if_pos h7] at hv
          exact force _ _ _ (by omega) (Or.inl ⟨rfl, rfl, rfl⟩) (by rw [tv_op, h7]; rfl) (by rw [tv_op, hv]; rfl) p7 p8
        | false =>
          rw [if_neg (by rw [h7]; decide)] at hv
          exact force _ _ _ (by omega) (Or.inr (Or.inr (Or.inl ⟨rfl, rfl, rfl⟩))) h7 (by rw [tv_op, hv]; rfl) i7 p9
      · rw [e, tv_two1, hval] at hv
        rw [e, ← op_two]
        cases h7 : tv V (M 7 f) with
        | true =>
          rw [if_pos h7] at hv
          exact force _ _ _ og (Or.inr (Or.inl ⟨rfl, rfl, rfl⟩)) (by rw [tv_op, h7]; rfl) (by revert hv; cases tv V (M 8 f) <;> decide) p7 i8
        | false =>
          rw [if_neg (by rw [h7]; decide)] at hv
          exact force _ _ _ og (Or.inr (Or.inr (Or.inr (Or.inl ⟨rfl, rfl, rfl⟩)))) h7 (by revert hv; cases tv V (M 9 f) <;> decide) i7 i9
/-- and so the aims hold -/
theorem found_aims {M M1 M2 : pm_M} {C : Int → List Int} {T : Int → Int → Int → Prop} {V : Int → Bool} (hW : CW M) (hQ : QR M M1 T) (hS : SI M2 C (M2 5 4)) (e1 : M2 1 = M 1) (ht : M1 2 2 ≤ M2 2 2) (hK : ∀ c l, 0 ≤ c → c < M1 2 2 → (inC (M2 13) (M2 14) c l ↔ inC (M1 13) (M1 14) c l))
    (hin : ∀ f, 0 < f → f < M 1 6 → M 7 f = -1 → ∃ j, 0 ≤ j ∧ j < M2 5 4 ∧ M2 22 j / 2 = f) (hV : GV M V) (hVi : ∀ f, 0 < f → f < M 1 6 → M 7 f = -1 → (V f = true ↔ M2 20 (2 * f) ≠ 0)) :
    ∀ x y z, T x y z → tv V x = true ∨ tv V y = true ∨ tv V z = true := by
  have det := found_det hW hQ hS ht hK hin hV hVi
  obtain ⟨-, -, -, -, ⟨q5, -⟩, q6⟩ := hQ
  obtain ⟨s1, -, -, -, -, -, s7, s8, s9, s10, s11, -⟩ := hS
  have t1 : tv V 1 = true := by rw [tv_1, hV.1]; rfl
  intro x y z hT
  rcases q5 x y z (Or.inl hT) with w | ⟨c, c0, c1, c2⟩
  · rcases w with w | w | w | w | w | w
    · rw [w]; exact Or.inl t1
    · rw [w]; exact Or.inr (Or.inl t1)
    · rw [w]; exact Or.inr (Or.inr t1)
    · rw [w, tv_op]; cases tv V y with
      | true => exact Or.inr (Or.inl rfl)
      | false => exact Or.inl rfl
    · rw [w, tv_op]; cases tv V z with
      | true => exact Or.inr (Or.inr rfl)
      | false => exact Or.inl rfl
    · rw [w, tv_op]; cases tv V z with
      | true => exact Or.inr (Or.inr rfl)
      | false => exact Or.inr (Or.inl rfl)
  · obtain ⟨l, l1, l2⟩ := WI.all0 s7 s8 s9 s10 s11 c0 (by omega : c < M2 2 2)
    obtain ⟨i, i0, i1, i2⟩ := l1
    have hat := s1.at c0 (by omega : c < M2 2 2)
    have hr := s1.2.2.2.2.2.2 i (by omega) (by omega)
    rw [i2, e1] at hr
    have hl := (c2 l).mp ((hK c l c0 c1).mp ⟨i, i0, i1, i2⟩)
    have hv : tv V l = true := by
      cases h : tv V l with
      | true => rfl
      | false => exact absurd (det (l / 2).toNat (l / 2) rfl (by omega) (by omega) (q6 x y z l hT hl) (pm_op l) (op_div l) (by rw [tv_op, h]; rfl)) l2
    rcases hl.2 with w | w | w
    · rw [← w]; exact Or.inl hv
    · rw [← w]; exact Or.inr (Or.inl hv)
    · rw [← w]; exact Or.inr (Or.inr hv)
/-- none before it in the order of inputs -/
theorem found_least {M2 : pm_M} {C : Int → List Int} {V : Int → Bool} (hI : IN M2) (hS : SI M2 C (M2 5 4)) (hD : DL M2) (hV : SAT (M2 13) (M2 14) (M2 2 2) V) {k : Int} (k0 : 0 ≤ k) (k1 : k < M2 1 7) (he : ∀ k', 0 ≤ k' → k' < k → (V (M2 12 k') = true ↔ M2 20 (2 * M2 12 k') ≠ 0)) (hk : M2 20 (2 * M2 12 k) ≠ 0) : V (M2 12 k) = true := by
  obtain ⟨-, -, -, -, s5, -, s7, -⟩ := hS
  obtain ⟨j, j0, j1, j2⟩ := (s5 _).mp hk
  have := s7.imp hV (m := j + 1) (by omega) (fun t t0 t1 t2 => ?_) j.toNat j rfl j0 (by omega)
  · rw [j2, tv_two] at this; exact this
  · obtain ⟨kt, q0, q1, q2⟩ := hD t t0 t1
    have hr := s7.2.1 t t0 t1
    have hne : M2 23 t ≠ j := fun z => by rw [z, j2] at q1; omega
    have hlt : kt < k := by
      rcases (by omega : kt < k ∨ kt = k ∨ k < kt) with w | w | w
      · exact w
      · rw [w] at q1
        have := s7.inj (i := M2 23 t) (j := j) hr.1 hr.2 j0 j1 (by rw [q1, j2]; omega)
        exact absurd this hne
      · obtain ⟨j', b0, b1, b2⟩ := q2 k k0 w
        have := s7.inj (i := j') (j := j) b0 (by omega) j0 j1 (by rw [b2, j2]; omega)
        omega
    rw [q1, tv_two1]
    cases h : V (M2 12 kt) with
    | false => rfl
    | true =>
      have h1 := (s5 _).mp ((he kt q0.1 hlt).mp h)
      exact (s7.two h1 ⟨M2 23 t, hr.1, hr.2, by rw [q1, op_two]⟩).elim
