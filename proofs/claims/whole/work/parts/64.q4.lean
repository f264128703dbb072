/-! LESSONS: implied, new, not many -/
/-- what a lesson says follows -/
theorem LSN.imp {M M' : pm_M} {a1 : Int} {I : Int → Prop} {ix : Int → Int} (hL : LSN M M' a1 I ix) {tot n lv : Int} {ls : Int → Int} (en : n = M 5 4) (hT : TR (inC (M 13) (M 14)) tot (M 22) n (M 21) ls lv) (hc : 0 ≤ a1 ∧ a1 < tot) (hfail : ∀ l, inC (M 13) (M 14) a1 l → onT (M 22) (M 5 4) (pm_op l)) {V : Int → Bool} (hV : ∀ c, 0 ≤ c → c < tot → ∃ l, inC (M 13) (M 14) c l ∧ tv V l = true) :
    ∃ x, M 2 3 ≤ x ∧ x < M' 2 3 ∧ tv V (M' 13 x) = true := by
  subst en
  obtain ⟨b1, b2, b3, b4, b5⟩ := hL
  apply Classical.byContradiction
  intro hno
  have hd : ∀ i, 0 ≤ i → i < M 5 4 → I (M 22 i / 2) → M 21 (M 22 i) = -1 → tv V (M 22 i) = true := by
    intro i i0 i1 i2 i3
    obtain ⟨x, x0, x1, x2⟩ := b5 i i0 i1 i3 i2
    have h1 := (b3 x x0 x1).2.2.2
    cases hv : tv V (M 22 i) with
    | true => rfl
    | false => exact absurd ⟨x, x0, x1, by rw [h1, x2, tv_op, hv]; rfl⟩ hno
  have all := hT.inv hV (I := I) b2 hd
  obtain ⟨l, l1, l2⟩ := hV a1 hc.1 hc.2
  obtain ⟨i, i0, i1, i2⟩ := hfail l l1
  have h1 := all i.toNat i rfl i0 i1 (by rw [i2, op_div]; exact b1 l l1)
  rw [i2, tv_op, l2] at h1
  cases h1
/-- lessons: of inputs, not empty, each another -/
def LW (K : Int → Int → Prop) (t0 tot N : Int) (inp : Int → Int) : Prop :=
  (∀ c, t0 ≤ c → c < tot → (∃ l, K c l) ∧ ∀ l, K c l → ∃ k, 0 ≤ k ∧ k < N ∧ l = 2 * inp k) ∧ ∀ c d, t0 ≤ c → c < d → d < tot → ¬ ∀ l, (K c l ↔ K d l)
noncomputable def lw_P (K : Int → Int → Prop) (N : Int) (inp : Int → Int) (c : Int) : Nat → Bool := fun i => @decide (K c (2 * inp i) ∧ (i : Int) < N) (Classical.propDecidable _)
theorem lw_t {K : Int → Int → Prop} {N : Int} {inp : Int → Int} {c : Int} {i : Nat} : lw_P K N inp c i = true ↔ (K c (2 * inp i) ∧ (i : Int) < N) := by
  unfold lw_P
  exact @decide_eq_true_iff _ (Classical.propDecidable _)
theorem LW.count {K : Int → Int → Prop} {t0 tot N : Int} {inp : Int → Int} (h : LW K t0 tot N inp) (hN : N ≤ 12) : tot - t0 ≤ 4095 := by
  obtain ⟨h1, h2⟩ := h
  have pos : ∀ c, t0 ≤ c → c < tot → mk_n (lw_P K N inp c) 12 ≠ 0 := by
    intro c c0 c1 z
    obtain ⟨⟨l, hl⟩, ha⟩ := h1 c c0 c1
    obtain ⟨k, k0, k1, k2⟩ := ha l hl
    have e := mk_inj 12 (z.trans (mk_zero 12).symm) k.toNat (by omega)
    have t : lw_P K N inp c k.toNat = true := lw_t.mpr ⟨by rw [show ((k.toNat : Nat) : Int) = k by omega, ← k2]; exact hl, by omega⟩
    rw [t] at e
    cases e
  have e12 : (2 : Nat) ^ 12 = 4096 := rfl
  have := ph_le 4095 (tot - t0).toNat (fun i => mk_n (lw_P K N inp (t0 + i)) 12 - 1) (fun i hi => by
    show mk_n (lw_P K N inp (t0 + i)) 12 - 1 < 4095
    have a := pos (t0 + i) (by omega) (by omega)
    have b := mk_lt (lw_P K N inp (t0 + i)) 12
    rw [e12] at b
    omega) (fun i j hij hj => by
    show mk_n (lw_P K N inp (t0 + i)) 12 - 1 ≠ mk_n (lw_P K N inp (t0 + j)) 12 - 1
    intro z
    have a := pos (t0 + i) (by omega) (by omega)
    have b := pos (t0 + j) (by omega) (by omega)
    have e := mk_inj 12 (by omega : mk_n (lw_P K N inp (t0 + i)) 12 = mk_n (lw_P K N inp (t0 + j)) 12)
    have one : ∀ c d : Int, t0 ≤ c → c < tot → (∀ k : Nat, k < 12 → lw_P K N inp c k = lw_P K N inp d k) → ∀ l, K c l → K d l := by
      intro c d c0 c1 hp l hl
      obtain ⟨k, k0, k1, k2⟩ := (h1 c c0 c1).2 l hl
      have ek : ((k.toNat : Nat) : Int) = k := by omega
      have t : lw_P K N inp c k.toNat = true := lw_t.mpr ⟨by rw [ek, ← k2]; exact hl, by omega⟩
      rw [hp k.toNat (by omega)] at t
      have := (lw_t.mp t).1
      rw [ek, ← k2] at this
      exact this
    exact h2 (t0 + i) (t0 + j) (by omega) (by omega) (by omega) (fun l => ⟨one _ _ (by omega) (by omega) e l, one _ _ (by omega) (by omega) (fun k hk => (e k hk).symm) l⟩))
  omega
/-! rows that grew behind -/
theorem in_of {lits st lits' st' : Int → Int} {tot used F : Int} (hcd : CD lits st tot used F) (e1 : ∀ c, 0 ≤ c → c ≤ tot → st' c = st c) (e2 : ∀ i, i < used → lits' i = lits i) {c l : Int} (c0 : 0 ≤ c) (c1 : c < tot) : inC lits' st' c l ↔ inC lits st c l := by
  have hat := hcd.at c0 c1
  unfold inC
  rw [e1 c c0 (by omega), e1 (c + 1) (by omega) (by omega)]
  constructor
  · rintro ⟨i, i0, i1, i2⟩; exact ⟨i, i0, i1, by rw [← e2 i (by omega)]; exact i2⟩
  · rintro ⟨i, i0, i1, i2⟩; exact ⟨i, i0, i1, by rw [e2 i (by omega)]; exact i2⟩
theorem SL.of {M M' : pm_M} {C : Int → List Int} {p a1 : Int} {I : Int → Prop} {ix : Int → Int} (hS : SI M C p) (h12 : M 5 5 ≤ 12) (hu : M 2 3 + 12 ≤ 85212) (htt : M 2 2 + 1 ≤ 16116) (f0 : ∀ c, c ≠ 2 → c ≠ 3 → c ≠ 4 → c ≠ 13 → c ≠ 14 → c ≠ 15 → c ≠ 18 → c ≠ 19 → M' c = M c) (f1 : M' 2 2 = M 2 2 + 1) (f2 : M 2 3 ≤ M' 2 3 ∧ M' 2 3 ≤ M 2 3 + M 5 5) (f3 : M' 14 = upf (M 14) (M 2 2 + 1) (M' 2 3)) (f4 : ∀ x, x < M 2 3 → M' 13 x = M 13 x) (hL : LSN M M' a1 I ix) :
    SL M' C p (M 2 2) ∧ ∀ c l, 0 ≤ c → c < M 2 2 → (inC (M' 13) (M' 14) c l ↔ inC (M 13) (M 14) c l) := by
  obtain ⟨a1', a2, a3, a4, a5, a6, a7, a8, a9, a10, a11, a12⟩ := hS
  have hin : ∀ c, 0 ≤ c → c ≤ M 2 2 → M' 14 c = M 14 c := fun c c0 c1 => by rw [f3, upf_n _ _ (by omega)]
  have hK : ∀ c l, 0 ≤ c → c < M 2 2 → (inC (M' 13) (M' 14) c l ↔ inC (M 13) (M 14) c l) := fun c l c0 c1 => in_of a1' hin f4 c0 c1
  have en : M' 14 (M 2 2 + 1) = M' 2 3 := by rw [f3, upf_e]
  have et : M' 14 (M 2 2) = M 2 3 := (hin _ a1'.1 (Int.le_refl _)).trans a1'.2.2.2.1
  have o1 : M' 1 = M 1 := f0 1 (by decide) (by decide) (by decide) (by decide) (by decide) (by decide) (by decide) (by decide)
  have o5 : M' 5 = M 5 := f0 5 (by decide) (by decide) (by decide) (by decide) (by decide) (by decide) (by decide) (by decide)
  have o16 : M' 16 = M 16 := f0 16 (by decide) (by decide) (by decide) (by decide) (by decide) (by decide) (by decide) (by decide)
  have o17 : M' 17 = M 17 := f0 17 (by decide) (by decide) (by decide) (by decide) (by decide) (by decide) (by decide) (by decide)
  have o20 : M' 20 = M 20 := f0 20 (by decide) (by decide) (by decide) (by decide) (by decide) (by decide) (by decide) (by decide)
  have o21 : M' 21 = M 21 := f0 21 (by decide) (by decide) (by decide) (by decide) (by decide) (by decide) (by decide) (by decide)
  have o22 : M' 22 = M 22 := f0 22 (by decide) (by decide) (by decide) (by decide) (by decide) (by decide) (by decide) (by decide)
  have o23 : M' 23 = M 23 := f0 23 (by decide) (by decide) (by decide) (by decide) (by decide) (by decide) (by decide) (by decide)
  refine ⟨?_, hK⟩
  unfold SL
  rw [o1, o5, o16, o17, o20, o21, o22, o23]
  have hst : ∀ c, 0 ≤ c → c < M 2 2 → M' 14 c = M 14 c ∧ M' 14 (c + 1) = M 14 (c + 1) := fun c c0 c1 => ⟨hin c c0 (by omega), hin (c + 1) (by omega) (by omega)⟩
  refine ⟨f1, ?_, a2, a3, a4, a5, a6, a7.same hK, ?_, ?_, ?_, ?_, a12.of a1' hin f4⟩
  · obtain ⟨d1, d2, d3, d4, d5, d6, d7⟩ := a1'
    refine ⟨by omega, htt, by rw [hin 0 (by omega) d1]; exact d3, en, by omega, fun c c0 c1 => ?_, fun i i0 i1 => ?_⟩
    · rcases (by omega : c < M 2 2 ∨ c = M 2 2) with z | z
      · rw [(hst c c0 z).1, (hst c c0 z).2]; exact d6 c c0 z
      · rw [z, en, et]; exact f2.1
    · rcases (by omega : i < M 2 3 ∨ M 2 3 ≤ i) with z | z
      · rw [f4 i z]; exact d7 i i0 z
      · obtain ⟨u1, -, -, u4⟩ := hL.2.2.1 i z i1
        have h1 := a6 _ u1.1 u1.2
        have h2 := op_div (M 22 (ix i))
        rw [u4]
        omega
  · intro c b q c0 c1 hs hb q0 q1 hq
    have hat := a1'.at c0 c1
    rw [(hst c c0 c1).1, (hst c c0 c1).2] at hs
    rw [(hst c c0 c1).1, f4 _ (by omega)] at hq
    obtain ⟨v, v0, v1, v2, v3⟩ := a8 c b q c0 c1 hs hb q0 q1 hq
    exact ⟨v, v0, v1, by rw [(hst c c0 c1).1, f4 _ (by omega)]; exact v2, v3⟩
  · intro c c0 c1 hs
    have hat := a1'.at c0 c1
    rw [(hst c c0 c1).1, (hst c c0 c1).2] at hs
    obtain ⟨v, v0, v1, v2, v3⟩ := a9 c c0 c1 hs
    exact ⟨v, v0, v1, by rw [(hst c c0 c1).1, f4 _ (by omega)]; exact v2, v3⟩
  · intro c c0 c1
    rw [(hst c c0 c1).1, (hst c c0 c1).2]
    exact a10 c c0 c1
  · intro c i j c0 c1 hi hij hj
    have hat := a1'.at c0 c1
    rw [(hst c c0 c1).1] at hi
    rw [(hst c c0 c1).2] at hj
    rw [f4 i (by omega), f4 j (by omega)]
    exact a11 c i j c0 c1 hi hij hj
/-- the first of the lesson is the last tried -/
theorem LX.of {M M' : pm_M} {a1 p : Int} {I : Int → Prop} {ix : Int → Int} (hT : TR (inC (M 13) (M 14)) (M 2 2) (M 22) (M 5 4) (M 21) (M 23) (M 5 5)) (hcl : CL M a1 p) (f0 : ∀ c, c ≠ 2 → c ≠ 3 → c ≠ 4 → c ≠ 13 → c ≠ 14 → c ≠ 15 → c ≠ 18 → c ≠ 19 → M' c = M c) (et : M' 14 (M 2 2) = M 2 3) (en : M' 14 (M 2 2 + 1) = M' 2 3) (hne : M 2 3 < M' 2 3) (hL : LSN M M' a1 I ix) : LX M' (M 2 2) ix := by
  have o5 : M' 5 = M 5 := f0 5 (by decide) (by decide) (by decide) (by decide) (by decide) (by decide) (by decide) (by decide)
  have o21 : M' 21 = M 21 := f0 21 (by decide) (by decide) (by decide) (by decide) (by decide) (by decide) (by decide) (by decide)
  have o22 : M' 22 = M 22 := f0 22 (by decide) (by decide) (by decide) (by decide) (by decide) (by decide) (by decide) (by decide)
  have o23 : M' 23 = M 23 := f0 23 (by decide) (by decide) (by decide) (by decide) (by decide) (by decide) (by decide) (by decide)
  obtain ⟨b1, b2, b3, b4, b5⟩ := hL
  obtain ⟨-, p0, ptop, -, l, l1, l2⟩ := hcl
  obtain ⟨u1, u2, u3, u4⟩ := b3 (M 2 3) (Int.le_refl _) hne
  obtain ⟨t, t0, t1, t2⟩ := hT.2.2.2.2.1 _ u1.1 u1.2 u2
  have hlv : 0 < M 5 5 := by omega
  have hlast := hT.2.1 (M 5 5 - 1) (by omega) (by omega)
  have hI := hT.top (I := I) b2 hlv p.toNat p rfl (ptop (M 5 5 - 1) (by omega) (by omega)) p0.2 (by rw [l2, op_div]; exact b1 l l1)
  obtain ⟨x, x0, x1, x2⟩ := b5 _ hlast.1 hlast.2 (hT.2.2.2.1 (M 5 5 - 1) (by omega) (by omega)) hI
  have hfirst : ix (M 2 3) = M 23 (M 5 5 - 1) := by
    rcases (by omega : x = M 2 3 ∨ M 2 3 < x) with z | z
    · rw [← z]; exact x2
    · have h1 := b4 (M 2 3) x (Int.le_refl _) z x1
      rcases (by omega : t = M 5 5 - 1 ∨ t < M 5 5 - 1) with y | y
      · rw [y] at t2; exact t2
      · have := hT.2.2.1 t (M 5 5 - 1) t0 y (by omega); omega
  unfold LX
  rw [o5, o21, o22, o23, et, en]
  exact ⟨hne, hlv, hfirst, fun y y0 y1 => by obtain ⟨v1, v2, v3, v4⟩ := b3 y y0 y1; exact ⟨v1, v2, v4⟩, b4⟩
