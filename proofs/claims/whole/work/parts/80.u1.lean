/-! PURE: one question of the class, answered -/
/-- the search's cells between calls -/
def SrS (M : pm_M) : Prop := M 5 4 ≤ 2000 ∧ (∀ i, 0 ≤ i → i < M 5 4 → 0 ≤ M 22 i ∧ M 22 i < 4000) ∧ (∀ l, M 20 l ≠ 0 → onT (M 22) (M 5 4) l) ∧ (∀ f, M 18 f = 0) ∧ 0 ≤ M 3 2 ∧ (∀ l, M 15 l ≤ M 3 2) ∧ M 14 0 = 0
theorem SrS.of {M M' : pm_M} (h : SrS M) (e3 : M' 3 = M 3) (e5 : M' 5 = M 5) (e14 : M' 14 = M 14) (e15 : M' 15 = M 15) (e18 : M' 18 = M 18) (e20 : M' 20 = M 20) (e22 : M' 22 = M 22) : SrS M' := by
  unfold SrS
  rw [e3, e5, e14, e15, e18, e20, e22]
  exact h
/-- the aims of T hold -/
def AiT (T : Int → Int → Int → Prop) (V : Int → Bool) : Prop := ∀ x y z, T x y z → tv V x = true ∨ tv V y = true ∨ tv V z = true
/-- the cells that a question leaves alone -/
def QFr (M M' : pm_M) : Prop := ∀ c, (c ≤ 1 ∨ (6 ≤ c ∧ c ≤ 10) ∨ c = 12 ∨ 24 ≤ c) → M' c = M c
theorem in_12 {M : pm_M} (hR : RK M) {f : Int} (f0 : 0 < f) (f1 : f < M 1 6) (f2 : M 7 f = -1) : ∃ k, (0 ≤ k ∧ k < M 1 7) ∧ M 12 k = f := by
  rcases hR.2.2.2.2.1 f (by omega) f1 with ⟨a, b⟩ | ⟨a, b0, b1, b2, b3⟩ | ⟨a, b0, b1, b2, b3⟩ | ⟨a, b0, b1, b2, b3, b4⟩ | ⟨a, b0, b1, b2, b3, b4⟩ | ⟨a, b0, b1, b2, b3, b4⟩ | ⟨a, b0, b1, b2, b2', b3, b4⟩
  · omega
  · exact ⟨M 26 f, b2, b3⟩
  all_goals omega
theorem asked {L : Nat} {Q : pm_P} {M M1 : pm_M} {T : Int → Int → Int → Prop} (hR : RK M) (hQ : QR M M1 T) (hS : SrS M) (hs : M 3 2 + 4096 ≤ 2147483647)
    (hq1 : ∀ (M' : pm_M) (V : Int → Bool), QFr M M' → SrS M' → M' 3 2 ≤ M 3 2 + 4096 → (∀ l, M' 20 l = 0 ∨ M' 20 l = 1) → GV M V → (∀ k, 0 ≤ k → k < M 1 7 → M' 20 (2 * M 12 k) = b01 (V (M 12 k))) → AiT T V →
      (∀ V', GV M V' → AiT T V' → ∀ k : Nat, (k : Int) < M 1 7 → (∀ k' : Nat, k' < k → nV M V k' = nV M V' k') → nV M V k = true → nV M V' k = true) → Q (.inl (some (.inl 1))) M')
    (hq0 : ∀ M' : pm_M, QFr M M' → SrS M' → M' 3 2 ≤ M 3 2 + 4096 → (∀ V, GV M V → ¬ AiT T V) → Q (.inl (some (.inl 0))) M') :
    pm_X L (21, 0, [some (.inr (.inl 0)), none], [], M1) Q := by
  have hQ0 := hQ
  obtain ⟨q1, q2, q3, -⟩ := hQ
  obtain ⟨s1, s2, s3, s4, s5, s6, s7⟩ := hS
  have e1 : M1 1 = M 1 := q1 1 (by decide) (by decide) (by decide) (by decide)
  have e3 : M1 3 = M 3 := q1 3 (by decide) (by decide) (by decide) (by decide)
  have e5 : M1 5 = M 5 := q1 5 (by decide) (by decide) (by decide) (by decide)
  have e12 : M1 12 = M 12 := q1 12 (by decide) (by decide) (by decide) (by decide)
  have e15 : M1 15 = M 15 := q1 15 (by decide) (by decide) (by decide) (by decide)
  have e18 : M1 18 = M 18 := q1 18 (by decide) (by decide) (by decide) (by decide)
  have e20 : M1 20 = M 20 := q1 20 (by decide) (by decide) (by decide) (by decide)
  have e22 : M1 22 = M 22 := q1 22 (by decide) (by decide) (by decide) (by decide)
  have fr : ∀ M' : pm_M, FD M1 M' → QFr M M' ∧ SrS M' ∧ M' 3 2 ≤ M 3 2 + 4096 := by
    rintro M' ⟨w1, w2, w3, w4, w5, w6, w7, w8, w9⟩
    rw [e3] at w6
    exact ⟨fun c hc => (w1 c (by omega)).trans (q1 c (by omega) (by omega) (by omega) (by omega)), ⟨w2, w3, w4, w5, by omega, w7, w9⟩, w6.2⟩
  refine p_21 q2 (by rw [e1]; exact hR.1.1) (by rw [e5]; exact s1) (by rw [e5, e22]; exact s2) (by rw [e5, e20, e22]; exact s3) (hR.2.1.of e1 e12) q3.1 q3.2 (by rw [e3]; exact ⟨s5, hs⟩) (by rw [e15, e3]; exact s6) (by rw [e18]; exact s4) ?_ ?_
  · intro M' C' w1 w2 w3 w4 w5 w6 w7
    obtain ⟨r1, r2, r3⟩ := fr M' w1
    have g1 : M' 1 = M 1 := r1 1 (by omega)
    have g12 : M' 12 = M 12 := r1 12 (by omega)
    have hbit := w2.2.2.2.1
    obtain ⟨V, hV, hVi⟩ := gv_in hR (fun k => M' 20 (2 * M 12 k)) (fun k _ _ => hbit _)
    have hVj : ∀ k, 0 ≤ k → k < M 1 7 → M' 20 (2 * M 12 k) = b01 (V (M 12 k)) := hVi
    have hin : ∀ f, 0 < f → f < M 1 6 → M 7 f = -1 → ∃ j, 0 ≤ j ∧ j < M' 5 4 ∧ M' 22 j / 2 = f := by
      intro f f0 f1 f2
      obtain ⟨k, k0, k1⟩ := in_12 hR f0 f1 f2
      obtain ⟨j, j0, j1, j2⟩ := w4 k k0.1 (by rw [g1]; exact k0.2)
      exact ⟨j, j0, j1, by rw [j2, g12, k1]⟩
    have hvf : ∀ f, 0 < f → f < M 1 6 → M 7 f = -1 → (V f = true ↔ M' 20 (2 * f) ≠ 0) := by
      intro f f0 f1 f2
      obtain ⟨k, k0, k1⟩ := in_12 hR f0 f1 f2
      rw [← k1, hVj k k0.1 k0.2]
      exact b01_n.symm
    refine hq1 M' V r1 r2 r3 hbit hV hVj (found_aims hR.1 hQ0 w2 g1 w5 w6 hin hV hvf) ?_
    intro V' u1 u2 k k1 hk ht
    have hsat := w7 V' (hQ0.sat u1 u2)
    have hfl := found_least (V := V') (k := (k : Int)) (hR.2.1.of g1 g12) w2 w3 hsat (by omega) (by rw [g1]; exact k1) (fun k' k0' k1' => by
      rw [g12, hVj k' k0' (by omega)]
      have h1 := hk k'.toNat (by omega)
      unfold nV at h1
      rw [show ((k'.toNat : Nat) : Int) = k' by omega] at h1
      rw [← h1]
      exact b01_n.symm) (by
      rw [g12, hVj k (by omega) k1]
      exact b01_n.mpr ht)
    rw [g12] at hfl
    exact hfl
  · intro M' w1 w2
    obtain ⟨r1, r2, r3⟩ := fr M' w1
    exact hq0 M' r1 r2 r3 (fun V u1 u2 => w2 V (hQ0.sat u1 u2))
/-- the inputs found are taken -/
theorem taken {L : Nat} {Q : pm_P} {M M2 : pm_M} {V : Int → Bool} (hR : RK M) (hF : QFr M M2) (hS : SrS M2) (hbit : ∀ l, M2 20 l = 0 ∨ M2 20 l = 1) (hv : ∀ k, 0 ≤ k → k < M 1 7 → M2 20 (2 * M 12 k) = b01 (V (M 12 k)))
    (hq : ∀ M' : pm_M, (∀ c, (c ≤ 1 ∨ (6 ≤ c ∧ c ≤ 9) ∨ c = 12 ∨ 24 ≤ c) → M' c = M c) → SrS M' → M' 3 2 = M2 3 2 → (∀ k, 0 ≤ k → k < M 1 7 → M' 10 (M 12 k) = b01 (V (M 12 k))) → (∀ f, (∀ k, 0 ≤ k → k < M 1 7 → M 12 k ≠ f) → M' 10 f = M 10 f) → Q (.inl none) M') :
    pm_X L (22, 0, [some (.inr (.inl 0)), none, none], [], M2) Q := by
  have e1 : M2 1 = M 1 := hF 1 (by omega)
  have e10 : M2 10 = M 10 := hF 10 (by omega)
  have e12 : M2 12 = M 12 := hF 12 (by omega)
  refine p_22 (hR.2.1.of e1 e12) (by rw [e1]; exact hR.1.1.2) hbit ?_
  rw [e1, e10, e12]
  intro M' f1 f2 f3
  exact hq M' (fun c hc => (f1 c (by omega)).trans (hF c (by omega))) (hS.of (f1 3 (by decide)) (f1 5 (by decide)) (f1 14 (by decide)) (f1 15 (by decide)) (f1 18 (by decide)) (f1 20 (by decide)) (f1 22 (by decide))) (by rw [f1 3 (by decide)]) (fun k ka kb => by rw [f2 k ka kb]; exact hv k ka kb) f3
/-- all of a list but one place is true -/
def LoP (l : Int → Int) (n p : Int) (V : Int → Bool) : Prop := ∀ i, 0 ≤ i → i < n → i ≠ p → V (l i) = true
theorem LoP.congr {l l' : Int → Int} {n p : Int} {V : Int → Bool} (h : LoP l n p V) (hl : ∀ i, 0 ≤ i → i < n → l i = l' i) : LoP l' n p V := fun i i0 i1 i2 => by rw [← hl i i0 i1]; exact h i i0 i1 i2
theorem TL.ai {M : pm_M} {p n : Int} {V : Int → Bool} (h0 : V 0 = false) : AiT (TL M p n) V ↔ LoP (M 6) n p V := by
  constructor
  · intro h i i0 i1 i2
    rcases h (2 * M 6 i) 0 0 ⟨i, ⟨i0, i1⟩, i2, rfl, rfl, rfl⟩ with w | w | w
    · rw [tv_two] at w; exact w
    · rw [tv_0, h0] at w; cases w
    · rw [tv_0, h0] at w; cases w
  · rintro h x y z ⟨i, i0, i1, i2, i3, i4⟩
    rw [i2, tv_two]
    exact Or.inl (h i i0.1 i0.2 i1)
theorem TD.ai {a b : Int} {V : Int → Bool} (h0 : V 0 = false) : AiT (TD a b) V ↔ V a ≠ V b := by
  constructor
  · intro h
    have h1 := h (2 * a) (2 * b) 0 (Or.inl ⟨rfl, rfl, rfl⟩)
    have h2 := h (pm_op (2 * a)) (pm_op (2 * b)) 0 (Or.inr ⟨rfl, rfl, rfl⟩)
    rw [tv_two, tv_two, tv_0, h0] at h1
    rw [tv_op, tv_op, tv_two, tv_two, tv_0, h0] at h2
    revert h1 h2
    cases V a <;> cases V b <;> decide
  · intro h x y z ht
    rcases ht with ⟨u1, u2, u3⟩ | ⟨u1, u2, u3⟩
    · rw [u1, u2, u3, tv_two, tv_two, tv_0, h0]
      revert h
      cases V a <;> cases V b <;> decide
    · rw [u1, u2, u3, tv_op, tv_op, tv_two, tv_two, tv_0, h0]
      revert h
      cases V a <;> cases V b <;> decide
/-- the least ones -/
def LeS (M : pm_M) (P : (Int → Bool) → Prop) (V : Int → Bool) : Prop := ∀ V', GV M V' → P V' → ∀ k : Nat, (k : Int) < M 1 7 → (∀ k' : Nat, k' < k → nV M V k' = nV M V' k') → nV M V k = true → nV M V' k = true
/-- the class's can -/
theorem p_6 {L : Nat} {Q : pm_P} {M : pm_M} (hR : RK M) (hL : LI M) (hS : SrS M) (hs : M 3 2 + 4096 ≤ 2147483647)
    (hq1 : ∀ (M' : pm_M) (V : Int → Bool), (∀ c, (c ≤ 1 ∨ (6 ≤ c ∧ c ≤ 9) ∨ c = 12 ∨ 24 ≤ c) → M' c = M c) → SrS M' → M' 3 2 ≤ M 3 2 + 4096 → GV M V → (∀ k, 0 ≤ k → k < M 1 7 → M' 10 (M 12 k) = b01 (V (M 12 k))) → (∀ f, (∀ k, 0 ≤ k → k < M 1 7 → M 12 k ≠ f) → M' 10 f = M 10 f) → LoP (M 6) (M 0 5) (-1) V → LeS M (LoP (M 6) (M 0 5) (-1)) V → Q (.inl (some (.inl 1))) M')
    (hq0 : ∀ M' : pm_M, QFr M M' → SrS M' → M' 3 2 ≤ M 3 2 + 4096 → (∀ V, GV M V → ¬ LoP (M 6) (M 0 5) (-1) V) → Q (.inl (some (.inl 0))) M') :
    pm_X L (6, 0, [some (.inr (.inl 0)), none], [], M) Q := by
  refine s_6_0 (p_19 hR.1 hL hS.2.2.2.2.2.2 (fun M1 hQ => x_bkv rfl (s_6_5 (asked hR hQ hS hs (fun M2 V w1 w2 w3 w4 w5 w6 w7 w8 => ?_) (fun M2 w1 w2 w3 w4 => ?_)))))
  · refine x_bki rfl (s_6_9 ⟨fun z => absurd z (by decide), fun _ => taken hR w1 w2 w4 w6 (fun M3 u1 u2 u3 u4 u5 => x_bkv rfl (s_6_18 ⟨Or.inr rfl, ?_⟩))⟩)
    exact hq1 M3 V u1 u2 (by omega) w5 u4 u5 ((TL.ai w5.1).mp w7) (fun V' v1 v2 => w8 V' v1 ((TL.ai v1.1).mpr v2))
  · exact x_bki rfl (s_6_9 ⟨fun _ => s_6_18 ⟨Or.inl rfl, hq0 M2 w1 w2 w3 (fun V v1 v2 => w4 V v1 ((TL.ai v1.1).mpr v2))⟩, fun z => absurd rfl z⟩)
/-- the class's same, asked of two formulas that are there -/
theorem p_9 {L : Nat} {Q : pm_P} {M : pm_M} {a b : Int} (hR : RK M) (ha : 0 ≤ a ∧ a < M 1 6) (hb : 0 ≤ b ∧ b < M 1 6) (hS : SrS M) (hs : M 3 2 + 4096 ≤ 2147483647)
    (hq0 : ∀ (M' : pm_M) (V : Int → Bool), (∀ c, (c ≤ 1 ∨ (6 ≤ c ∧ c ≤ 9) ∨ c = 12 ∨ 24 ≤ c) → M' c = M c) → SrS M' → M' 3 2 ≤ M 3 2 + 4096 → GV M V → (∀ k, 0 ≤ k → k < M 1 7 → M' 10 (M 12 k) = b01 (V (M 12 k))) → (∀ f, (∀ k, 0 ≤ k → k < M 1 7 → M 12 k ≠ f) → M' 10 f = M 10 f) → V a ≠ V b → LeS M (fun V => V a ≠ V b) V → Q (.inl (some (.inl 0))) M')
    (hq1 : ∀ M' : pm_M, QFr M M' → SrS M' → M' 3 2 ≤ M 3 2 + 4096 → (∀ V, GV M V → V a = V b) → Q (.inl (some (.inl 1))) M') :
    pm_X L (9, 0, [some (.inr (.inl 0)), some (.inl a), some (.inl b), none], [], M) Q := by
  refine s_9_0 ⟨fun z => by omega, fun _ => ⟨fun _ => ⟨fun z => by omega, fun _ => ⟨fun _ => ?_, fun z => by omega⟩⟩, fun z => by omega⟩⟩
  refine p_20 hR.1 ha hb hS.2.2.2.2.2.2 (fun M1 hQ => x_bkv rfl (s_9_16 (asked hR hQ hS hs (fun M2 V w1 w2 w3 w4 w5 w6 w7 w8 => ?_) (fun M2 w1 w2 w3 w4 => ?_))))
  · refine x_bki rfl (s_9_20 ⟨fun z => absurd z (by decide), fun _ => taken hR w1 w2 w4 w6 (fun M3 u1 u2 u3 u4 u5 => x_bkv rfl (s_9_29 ⟨fun _ => ?_, fun z => absurd (by decide) z⟩))⟩)
    exact hq0 M3 V u1 u2 (by omega) w5 u4 u5 ((TD.ai w5.1).mp w7) (fun V' v1 v2 => w8 V' v1 ((TD.ai v1.1).mpr v2))
  · refine x_bki rfl (s_9_20 ⟨fun _ => s_9_29 ⟨fun z => absurd rfl z, fun _ => hq1 M2 w1 w2 w3 (fun V v1 => ?_)⟩, fun z => absurd rfl z⟩)
    exact Classical.byContradiction (fun v2 => w4 V v1 ((TD.ai v1.1).mpr v2))
