/-! PURE: applyLesson -/
/-- rows, trail, watches; the last row is a lesson, not watched yet -/
def SL (M : pm_M) (C : Int → List Int) (p a : Int) : Prop :=
  M 2 2 = a + 1 ∧ CD (M 13) (M 14) (a + 1) (M 2 3) (M 1 6) ∧ (1 ≤ M 1 6 ∧ M 1 6 ≤ 2000) ∧ (0 ≤ M 5 4 ∧ 0 ≤ M 5 5) ∧ (∀ l, M 20 l = 0 ∨ M 20 l = 1) ∧ (∀ l, M 20 l ≠ 0 ↔ onT (M 22) (M 5 4) l) ∧ (∀ i, 0 ≤ i → i < M 5 4 → 2 ≤ M 22 i ∧ M 22 i < 2 * M 1 6) ∧
  TR (inC (M 13) (M 14)) a (M 22) (M 5 4) (M 21) (M 23) (M 5 5) ∧ WI (M 13) (M 14) a (M 22) (M 5 4) (M 23) (M 5 5) p ∧ UI (M 13) (M 14) a (M 22) (M 5 4) (M 23) (M 5 5) ∧ NE (M 14) a ∧ ND (M 13) (M 14) a ∧ CH (M 16) (M 17) (M 13) (M 14) a (M 1 6) C
/-- the lesson: the last tried first, the others in the order in which they were tried, backwards -/
def LX (M : pm_M) (a : Int) (ix : Int → Int) : Prop :=
  M 14 a < M 14 (a + 1) ∧ 0 < M 5 5 ∧ ix (M 14 a) = M 23 (M 5 5 - 1) ∧ (∀ x, M 14 a ≤ x → x < M 14 (a + 1) → (0 ≤ ix x ∧ ix x < M 5 4) ∧ M 21 (M 22 (ix x)) = -1 ∧ M 13 x = pm_op (M 22 (ix x))) ∧ (∀ x y, M 14 a ≤ x → x < y → y < M 14 (a + 1) → ix y < ix x)
theorem op_iff {a b : Int} (h : pm_op a = pm_op b) : a = b := by rw [← op_op a, h, op_op]
theorem SL.back {M M2 : pm_M} {C C' : Int → List Int} {p a lv' e' : Int} {ix : Int → Int} (hS : SL M C p a) (ha : 0 ≤ a) (hp : ∀ t, 0 ≤ t → t < M 5 5 → M 23 t ≤ p) (hX : LX M a ix) (r1 : 0 ≤ lv') (r2 : lv' < M 5 5) (r3 : e' = M 23 lv')
    (r4 : (lv' = 0 ∧ M 14 (a + 1) = M 14 a + 1) ∨ (0 < lv' ∧ M 14 a + 2 ≤ M 14 (a + 1) ∧ ix (M 14 a + 1) = M 23 (lv' - 1)))
    (k0 : ∀ c, c ≠ 4 → c ≠ 5 → c ≠ 16 → c ≠ 17 → c ≠ 20 → M2 c = M c) (k1 : M2 5 4 = e') (k2 : M2 5 5 = lv') (k3 : ∀ l, (∃ i, e' ≤ i ∧ i < M 5 4 ∧ M 22 i = l) → M2 20 l = 0) (k4 : ∀ l, (¬ ∃ i, e' ≤ i ∧ i < M 5 4 ∧ M 22 i = l) → M2 20 l = M 20 l)
    (k5 : CH (M2 16) (M2 17) (M 13) (M 14) (a + 1) (M 1 6) C') : SI (hld M2 (M 13 (M 14 a)) a) C' e' := by
  obtain ⟨a0, a1, a2, a3, a4, a5, a6, a7, a8, a9, a10, a11, a12⟩ := hS
  obtain ⟨x1, x2, x3, x4, x5⟩ := hX
  obtain ⟨y1, y2, y3⟩ := x4 (M 14 a) (Int.le_refl _) x1
  rw [x3] at y1 y2 y3
  have hlt := a7.2.1 lv' r1 r2
  have htl : ∀ t, 0 ≤ t → t < lv' → M 23 t < e' := fun t t0 t1 => by rw [r3]; exact a7.2.2.1 t lv' t0 t1 r2
  have hup : ∀ t, lv' ≤ t → t < M 5 5 → e' ≤ M 23 t := fun t t0 t1 => by
    rw [r3]
    rcases (by omega : t = lv' ∨ lv' < t) with z | z
    · rw [z]; exact Int.le_refl _
    · exact Int.le_of_lt (a7.2.2.1 lv' t r1 z t1)
  have hll := hup (M 5 5 - 1) (by omega) (by omega)
  have e0 : 0 ≤ e' := by omega
  have en : e' ≤ M 5 4 := by omega
  have atl : ∀ i, 0 ≤ i → i < M 5 4 → M 22 i = M 22 (M 23 (M 5 5 - 1)) → i = M 23 (M 5 5 - 1) := fun i i0 i1 z => a7.inj i0 i1 y1.1 y1.2 (by rw [z])
  have opl : pm_op (M 13 (M 14 a)) = M 22 (M 23 (M 5 5 - 1)) := by rw [y3, op_op]
  -- the second literal, if there is one
  have sec : ∀ x, M 14 a + 1 ≤ x → x < M 14 (a + 1) → 0 < lv' ∧ ix x ≤ M 23 (lv' - 1) ∧ ix (M 14 a + 1) = M 23 (lv' - 1) := by
    intro x g0 g1
    rcases r4 with ⟨z, z1⟩ | ⟨z, z1, z2⟩
    · omega
    · refine ⟨z, ?_, z2⟩
      rcases (by omega : x = M 14 a + 1 ∨ M 14 a + 1 < x) with q | q
      · rw [q, z2]; exact Int.le_refl _
      · have := x5 (M 14 a + 1) x (by omega) q g1
        omega
  have cut := a7.cut (n' := e') (lv' := lv') en (Int.le_of_lt r2) htl (fun t _ t1 t2 => hup t t1 t2)
  have more := cut.more (K' := inC (M 13) (M 14)) (fun _ _ _ _ => Iff.rfl) (fun t t0 t1 => ⟨M 13 (M 14 a), ⟨M 14 a, Int.le_refl _, x1, rfl⟩, fun z => by
      have h1 := a7.2.1 t t0 (by omega)
      have h2 := atl (M 23 t) h1.1 h1.2 (by rw [y3] at z; exact (op_iff z).symm)
      have h3 := htl t t0 t1
      omega, fun ⟨j, j0, j1, j2⟩ => by
      have h1 := htl t t0 t1
      have h2 := atl j j0 (by omega) (by rw [j2, opl])
      omega⟩)
  have hold := more.hold (l := M 13 (M 14 a)) (c := a) (fun i i0 i1 z => by
      have h1 := a7.inj (i := i) (j := M 23 (M 5 5 - 1)) i0 (by omega) y1.1 y1.2 (by rw [z, y3, op_div])
      omega) ⟨ha, by omega⟩ ⟨M 14 a, Int.le_refl _, x1, rfl⟩ (fun l' hl hne => by
      obtain ⟨x, g0, g1, g2⟩ := hl
      have gx : x ≠ M 14 a := fun z => hne (by rw [← g2, z])
      obtain ⟨s1, s2, -⟩ := sec x (by omega) g1
      obtain ⟨u1, -, u3⟩ := x4 x g0 g1
      have h1 := htl (lv' - 1) (by omega) (by omega)
      exact ⟨ix x, u1.1, by omega, by rw [← g2, u3, op_op]⟩) (fun hl => by
      rcases r4 with ⟨z, -⟩ | ⟨z, z1, z2⟩
      · omega
      · obtain ⟨u1, -, u3⟩ := x4 (M 14 a + 1) (by omega) (by omega)
        have h1 := htl (lv' - 1) (by omega) (by omega)
        have h2 := x5 (M 14 a) (M 14 a + 1) (Int.le_refl _) (by omega) (by omega)
        refine ⟨M 13 (M 14 a + 1), ix (M 14 a + 1), ⟨M 14 a + 1, by omega, by omega, rfl⟩, fun y => ?_, by omega, by omega, by rw [u3, op_op]⟩
        rw [u3, y3] at y
        have h3 := atl _ u1.1 u1.2 (op_iff y)
        omega)
  have c1 : hld M2 (M 13 (M 14 a)) a 1 = M 1 := (hld_c 1 (by decide) (by decide) (by decide) (by decide)).trans (k0 1 (by decide) (by decide) (by decide) (by decide) (by decide))
  have c2 : hld M2 (M 13 (M 14 a)) a 2 = M 2 := (hld_c 2 (by decide) (by decide) (by decide) (by decide)).trans (k0 2 (by decide) (by decide) (by decide) (by decide) (by decide))
  have c13 : hld M2 (M 13 (M 14 a)) a 13 = M 13 := (hld_c 13 (by decide) (by decide) (by decide) (by decide)).trans (k0 13 (by decide) (by decide) (by decide) (by decide) (by decide))
  have c14 : hld M2 (M 13 (M 14 a)) a 14 = M 14 := (hld_c 14 (by decide) (by decide) (by decide) (by decide)).trans (k0 14 (by decide) (by decide) (by decide) (by decide) (by decide))
  have c23 : hld M2 (M 13 (M 14 a)) a 23 = M 23 := (hld_c 23 (by decide) (by decide) (by decide) (by decide)).trans (k0 23 (by decide) (by decide) (by decide) (by decide) (by decide))
  have c16 : hld M2 (M 13 (M 14 a)) a 16 = M2 16 := hld_c 16 (by decide) (by decide) (by decide) (by decide)
  have c17 : hld M2 (M 13 (M 14 a)) a 17 = M2 17 := hld_c 17 (by decide) (by decide) (by decide) (by decide)
  have m21 : M2 21 = M 21 := k0 21 (by decide) (by decide) (by decide) (by decide) (by decide)
  have m22 : M2 22 = M 22 := k0 22 (by decide) (by decide) (by decide) (by decide) (by decide)
  unfold SI
  rw [c1, c2, c13, c14, c23, c16, c17, hld_54, hld_55, hld_20, hld_21, hld_22, k1, k2, m21, m22, a0]
  have hl0 := a6 _ y1.1 y1.2
  have hlr := a1.2.2.2.2.2.2 (M 14 a) (by have := a1.at ha (by omega); omega) (by have := a1.at ha (by omega); omega)
  refine ⟨a1, a2, ⟨by omega, r1⟩, fun x => ?_, fun x => ?_, fun i i0 i1 => ?_, hold, ?_, ?_, ?_, ?_, k5⟩
  · unfold upf; split
    · exact Or.inr rfl
    · by_cases hx : ∃ i, e' ≤ i ∧ i < M 5 4 ∧ M 22 i = x
      · exact Or.inl (k3 x hx)
      · rw [k4 x hx]; exact a4 x
  · rw [onT_up e0]
    by_cases e : x = M 13 (M 14 a)
    · rw [e, upf_e]; exact ⟨fun _ => Or.inr rfl, fun _ => by decide⟩
    · rw [upf_n _ _ e]
      by_cases hx : ∃ i, e' ≤ i ∧ i < M 5 4 ∧ M 22 i = x
      · rw [k3 x hx]
        refine ⟨fun z => absurd rfl z, fun z => ?_⟩
        rcases z with ⟨j, j0, j1, j2⟩ | z
        · obtain ⟨i, i0, i1, i2⟩ := hx
          have := a7.inj (i := i) (j := j) (by omega) i1 j0 (by omega) (by rw [i2, j2])
          omega
        · exact absurd z e
      · rw [k4 x hx, a5 x]
        constructor
        · rintro ⟨i, i0, i1, i2⟩
          rcases (by omega : i < e' ∨ e' ≤ i) with q | q
          · exact Or.inl ⟨i, i0, q, i2⟩
          · exact absurd ⟨i, q, i1, i2⟩ hx
        · rintro (⟨i, i0, i1, i2⟩ | z)
          · exact ⟨i, i0, by omega, i2⟩
          · exact absurd z e
  · rcases (by omega : i < e' ∨ i = e') with z | z
    · rw [upf_n _ _ (by omega)]; exact a6 i i0 (by omega)
    · rw [z, upf_e]; exact hlr
  · intro c b q c0' c1' hs hb q0 q1 hq
    rw [upf_n _ _ (by omega)] at hq
    rcases (by omega : c < a ∨ c = a) with z | z
    · obtain ⟨v, v0, v1, v2, v3⟩ := a8 c b q c0' z hs hb q0 (by have := hp lv' r1 r2; omega) hq
      have h1 := v3 lv' r1 r2 (by omega)
      exact ⟨v, v0, by omega, by rw [upf_n _ _ (by omega)]; exact v2, fun t t0 t1 => v3 t t0 (by omega)⟩
    · rw [z] at hq hs
      rcases hb with w | w
      · rw [w, Int.add_zero, opl] at hq
        have := atl q q0 (by omega) hq
        omega
      · rw [w] at hq
        obtain ⟨s1, -, s3⟩ := sec (M 14 a + 1) (by omega) (by omega)
        obtain ⟨u1, -, u3⟩ := x4 (M 14 a + 1) (by omega) (by omega)
        rw [u3, op_op] at hq
        have h2 := a7.inj (i := q) (j := ix (M 14 a + 1)) q0 (by omega) u1.1 u1.2 (by rw [hq])
        refine ⟨e', e0, by omega, by rw [upf_e, z, w, show (1 : Int) - 1 = 0 from rfl, Int.add_zero], fun t t0 t1 t2 => ?_⟩
        rcases (by omega : t = lv' - 1 ∨ t < lv' - 1) with y | y
        · rw [y] at t2; omega
        · have := a7.2.2.1 t (lv' - 1) t0 y (by omega); omega
  · intro c c0' c1' hs
    rcases (by omega : c < a ∨ c = a) with z | z
    · obtain ⟨v, v0, v1, v2, v3⟩ := a9 c c0' z hs
      have h1 := v3 lv' r1 r2
      exact ⟨v, v0, by omega, by rw [upf_n _ _ (by omega)]; exact v2, fun t t0 t1 => v3 t t0 (by omega)⟩
    · rw [z] at hs
      refine ⟨e', e0, by omega, by rw [upf_e, z], fun t t0 t1 => ?_⟩
      rcases r4 with ⟨w, -⟩ | ⟨-, w, -⟩
      · omega
      · omega
  · intro c c0' c1'
    rcases (by omega : c < a ∨ c = a) with z | z
    · exact a10 c c0' z
    · rw [z]; exact x1
  · intro c i j c0' c1' hi hij hj
    rcases (by omega : c < a ∨ c = a) with z | z
    · exact a11 c i j c0' z hi hij hj
    · rw [z] at hi hj
      intro y
      obtain ⟨u1, -, u3⟩ := x4 i hi (by omega)
      obtain ⟨v1, -, v3⟩ := x4 j (by omega) hj
      rw [u3, v3] at y
      have h1 := a7.inj u1.1 u1.2 v1.1 v1.2 (by rw [op_iff y])
      have h2 := x5 i j hi hij hj
      omega
theorem p_56 {L : Nat} {Q : pm_P} {M : pm_M} {C : Int → List Int} {p a1 : Int} {ix : Int → Int} (hS : SL M C p a1) (ha : 0 ≤ a1) (hp : ∀ t, 0 ≤ t → t < M 5 5 → M 23 t ≤ p) (hX : LX M a1 ix) (h12 : M 5 5 ≤ 12) (hn : M 5 4 ≤ 1999)
    (hq : ∀ (M' : pm_M) (C' : Int → List Int), SI M' C' (M' 4 9) → 0 ≤ M' 4 9 → M' 5 4 = M' 4 9 + 1 → (∀ t, 0 ≤ t → t < M' 5 5 → M' 23 t < M' 4 9) → M' 5 5 < M 5 5 → M' 4 9 ≤ M 5 4 → (∀ i, i < M' 4 9 → M' 22 i = M 22 i) → (∀ c, c ≠ 4 → c ≠ 5 → c ≠ 16 → c ≠ 17 → c ≠ 20 → c ≠ 21 → c ≠ 22 → M' c = M c) → Q (.inl none) M') :
    pm_X L (56, 0, [some (.inr (.inl 4)), some (.inl a1), none], [], M) Q := by
  have hS0 := hS
  have hX0 := hX
  obtain ⟨a0, b1, a2, a3, a4, a5, a6, a7, a8, a9, a10, a11, a12⟩ := hS
  obtain ⟨x1, x2, x3, x4, x5⟩ := hX
  have hat := b1.at ha (by omega)
  have htt := b1.2.1
  have huu := b1.2.2.2.2.1
  have hrow : ∀ i, M 14 a1 ≤ i → i < M 14 (a1 + 1) → 2 ≤ M 13 i ∧ M 13 i < 2 * M 1 6 := fun i i0 i1 => b1.2.2.2.2.2.2 i (by omega) (by omega)
  have hord : ∀ i, 0 ≤ i → i < M 5 4 → 0 ≤ M 22 i ∧ M 22 i < 4000 := fun i i0 i1 => by have := a6 i i0 i1; omega
  have hlev : ∀ t, 0 ≤ t → t < M 5 5 → 0 ≤ M 23 t ∧ M 23 t < 2000 := fun t t0 t1 => by have := a7.2.1 t t0 t1; omega
  -- what is left to do behind both ways
  have tail : ∀ (M2 : pm_M) (C' : Int → List Int) (lv' e' : Int), 0 ≤ lv' → lv' < M 5 5 → e' = M 23 lv' → ((lv' = 0 ∧ M 14 (a1 + 1) = M 14 a1 + 1) ∨ (0 < lv' ∧ M 14 a1 + 2 ≤ M 14 (a1 + 1) ∧ ix (M 14 a1 + 1) = M 23 (lv' - 1))) →
      (∀ c, c ≠ 4 → c ≠ 5 → c ≠ 16 → c ≠ 17 → c ≠ 20 → M2 c = M c) → M2 5 4 = e' → M2 5 5 = lv' → (∀ l, (∃ i, e' ≤ i ∧ i < M 5 4 ∧ M 22 i = l) → M2 20 l = 0) → (∀ l, (¬ ∃ i, e' ≤ i ∧ i < M 5 4 ∧ M 22 i = l) → M2 20 l = M 20 l) → CH (M2 16) (M2 17) (M 13) (M 14) (a1 + 1) (M 1 6) C' →
      pm_X L (56, 59, [some (.inr (.inl 4)), some (.inl a1), some (.inl (M 14 a1))], [], M2) Q := by
    intro M2 C' lv' e' r1 r2 r3 r4 k0 k1 k2 k3 k4 k5
    have m13 : M2 13 = M 13 := k0 13 (by decide) (by decide) (by decide) (by decide) (by decide)
    have hl := hlev lv' r1 r2
    have hl' := a7.2.1 lv' r1 r2
    have hr := hrow (M 14 a1) (Int.le_refl _) x1
    refine s_56_59 ⟨⟨by omega, by omega⟩, by rw [m13]; exact ⟨by omega, by omega⟩, by rw [k1]; exact ⟨by omega, by omega⟩, by rw [k1]; unfold pm_R; omega, ?_⟩
    have eh : pm_set (pm_set (pm_set (pm_set (pm_set M2 4 9 (M2 5 4)) 20 (M2 13 (M 14 a1)) 1) 21 (M2 13 (M 14 a1)) a1) 22 (M2 5 4) (M2 13 (M 14 a1))) 5 4 (M2 5 4 + 1) = hld (pm_set M2 4 9 (M2 5 4)) (M 13 (M 14 a1)) a1 := by
      unfold hld
      rw [show pm_set M2 4 9 (M2 5 4) 5 = M2 5 from pm_set_off 5 (by decide), m13]
    rw [eh]
    generalize hM3 : pm_set M2 4 9 (M2 5 4) = M3
    have o3 : ∀ c, c ≠ 4 → M3 c = M2 c := fun c c4 => by rw [← hM3]; exact pm_set_off c c4
    have e49 : M3 4 9 = e' := by rw [← hM3, pm_get_e]; exact k1
    have f49 : hld M3 (M 13 (M 14 a1)) a1 4 9 = e' := by rw [hld_c 4 (by decide) (by decide) (by decide) (by decide)]; exact e49
    have f54 : hld M3 (M 13 (M 14 a1)) a1 5 4 = e' + 1 := by rw [hld_54, o3 5 (by decide), k1]
    have f55 : hld M3 (M 13 (M 14 a1)) a1 5 5 = lv' := by rw [hld_55, o3 5 (by decide), k2]
    have f22 : hld M3 (M 13 (M 14 a1)) a1 22 = upf (M 22) e' (M 13 (M 14 a1)) := by rw [hld_22, o3 5 (by decide), o3 22 (by decide), k1, k0 22 (by decide) (by decide) (by decide) (by decide) (by decide)]
    have f23 : hld M3 (M 13 (M 14 a1)) a1 23 = M 23 := by rw [hld_c 23 (by decide) (by decide) (by decide) (by decide), o3 23 (by decide)]; exact k0 23 (by decide) (by decide) (by decide) (by decide) (by decide)
    have hSI := SL.back (M2 := M3) (C' := C') (lv' := lv') (e' := e') hS0 ha hp hX0 r1 r2 r3 r4 (fun c c4 c5 c16 c17 c20 => (o3 c c4).trans (k0 c c4 c5 c16 c17 c20)) (by rw [o3 5 (by decide)]; exact k1) (by rw [o3 5 (by decide)]; exact k2) (by rw [o3 20 (by decide)]; exact k3) (by rw [o3 20 (by decide)]; exact k4) (by rw [o3 16 (by decide), o3 17 (by decide)]; exact k5)
    refine hq _ C' (by rw [f49]; exact hSI) (by rw [f49]; omega) (by rw [f49]; exact f54) (by rw [f55, f23, f49]; exact fun t t0 t1 => by rw [r3]; exact a7.2.2.1 t lv' t0 t1 r2) (by rw [f55]; exact r2) (by rw [f49]; omega) (by rw [f49, f22]; exact fun i i1 => upf_n _ _ (by omega)) (fun c c4 c5 c16 c17 c20 c21 c22 => by rw [hld_c c c5 c20 c21 c22, o3 c c4]; exact k0 c c4 c5 c16 c17 c20)
  refine s_56_0 ⟨⟨ha, by omega⟩, by unfold pm_R; omega, ⟨by omega, by omega⟩, by unfold pm_R; omega, fun z => ?_, fun z => ⟨by unfold pm_R; omega, ⟨by omega, by omega⟩, ?_⟩⟩
  · refine p_61 a3.2 h12 a3.1 (by omega) hlev hord (fun M1 lv' e' r1 r2 r3 r4 r5 r6 q1 q2 q3 q4 q5 => x_bkv rfl ?_)
    have hz : lv' = 0 := by
      rcases r3 with w | w
      · exact w
      · rcases (by omega : lv' = 0 ∨ 0 < lv') with y | y
        · exact y
        · have h1 := a7.2.1 (lv' - 1) (by omega) (by omega)
          have h2 := hord _ h1.1 h1.2
          omega
    exact tail M1 C lv' e' r1 (by omega) (r5 (by omega)) (Or.inl ⟨hz, by omega⟩) (fun c _ c5 _ _ c20 => q1 c c5 c20) q2 q3 q4 q5 (by rw [q1 16 (by decide) (by decide), q1 17 (by decide) (by decide)]; exact a12.skip (by omega))
  · obtain ⟨u1, u2, u3⟩ := x4 (M 14 a1 + 1) (by omega) (by omega)
    have h5 := x5 (M 14 a1) (M 14 a1 + 1) (Int.le_refl _) (by omega) (by omega)
    rw [u3, op_op]
    refine p_61 a3.2 h12 a3.1 (by omega) hlev hord (fun M1 lv' e' r1 r2 r3 r4 r5 r6 q1 q2 q3 q4 q5 => x_bkv rfl (s_56_43 ?_))
    obtain ⟨t, t0, t1, t2⟩ := a7.2.2.2.2.1 _ u1.1 u1.2 u2
    have hpos : 0 < lv' := by
      rcases (by omega : lv' = 0 ∨ 0 < lv') with y | y
      · exact absurd (by rw [t2]) (r4 t (by omega) t1)
      · exact y
    have hix : ix (M 14 a1 + 1) = M 23 (lv' - 1) := by
      rcases r3 with w | w
      · omega
      · have h1 := a7.2.1 (lv' - 1) (by omega) (by omega)
        exact (a7.inj h1.1 h1.2 u1.1 u1.2 (by rw [w])).symm
    have hlt : lv' < M 5 5 := by
      rcases (by omega : lv' < M 5 5 ∨ lv' = M 5 5) with y | y
      · exact y
      · rw [y] at hix; omega
    have g13 : M1 13 = M 13 := q1 13 (by decide) (by decide)
    have g14 : M1 14 = M 14 := q1 14 (by decide) (by decide)
    have g1 : M1 1 = M 1 := q1 1 (by decide) (by decide)
    have g16 : M1 16 = M 16 := q1 16 (by decide) (by decide)
    have g17 : M1 17 = M 17 := q1 17 (by decide) (by decide)
    refine p_52 (C := C) (by rw [g13, g14, g1, g16, g17]; exact a12) ha (by omega) (by rw [g14]; omega) (by rw [g14]; omega) (by rw [g14]; omega) (by rw [g1]; omega) (by rw [g13, g14, g1]; exact fun i i0 i1 => by have := hrow i i0 i1; omega) ?_ (fun M2 C' s1 s2 => x_bkv rfl (s_56_48 ?_))
    · rw [g13, g14]
      intro y
      obtain ⟨v1, -, v3⟩ := x4 (M 14 a1) (Int.le_refl _) x1
      rw [u3, v3] at y
      have h1 := a7.inj u1.1 u1.2 v1.1 v1.2 (by rw [op_iff y])
      omega
    · rw [g13, g14, g1] at s2
      exact tail M2 C' lv' e' r1 hlt (r5 hlt) (Or.inr ⟨hpos, by omega, hix⟩) (fun c _ c5 c16 c17 c20 => (s1 c c16 c17).trans (q1 c c5 c20)) (by rw [s1 5 (by decide) (by decide)]; exact q2) (by rw [s1 5 (by decide) (by decide)]; exact q3) (by rw [s1 20 (by decide) (by decide)]; exact q4) (by rw [s1 20 (by decide) (by decide)]; exact q5) s2
