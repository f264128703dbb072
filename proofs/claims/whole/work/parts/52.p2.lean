/-! PURE: watches move, force or clash -/
/-- what holds all through a search: rows, trail, watches; p: how far it was followed -/
def SI (M : pm_M) (C : Int → List Int) (p : Int) : Prop :=
  CD (M 13) (M 14) (M 2 2) (M 2 3) (M 1 6) ∧ (1 ≤ M 1 6 ∧ M 1 6 ≤ 2000) ∧ (0 ≤ M 5 4 ∧ 0 ≤ M 5 5) ∧ (∀ l, M 20 l = 0 ∨ M 20 l = 1) ∧ (∀ l, M 20 l ≠ 0 ↔ onT (M 22) (M 5 4) l) ∧ (∀ i, 0 ≤ i → i < M 5 4 → 2 ≤ M 22 i ∧ M 22 i < 2 * M 1 6) ∧
  TR (inC (M 13) (M 14)) (M 2 2) (M 22) (M 5 4) (M 21) (M 23) (M 5 5) ∧ WI (M 13) (M 14) (M 2 2) (M 22) (M 5 4) (M 23) (M 5 5) p ∧ UI (M 13) (M 14) (M 2 2) (M 22) (M 5 4) (M 23) (M 5 5) ∧ NE (M 14) (M 2 2) ∧ ND (M 13) (M 14) (M 2 2) ∧ CH (M 16) (M 17) (M 13) (M 14) (M 2 2) (M 1 6) C
/-- a literal more has room -/
theorem SI.room {M : pm_M} {C : Int → List Int} {p : Int} (h : SI M C p) {l : Int} (h0 : 2 ≤ l) (h1 : l < 2 * M 1 6) (hl : ∀ i, 0 ≤ i → i < M 5 4 → M 22 i / 2 ≠ l / 2) : M 5 4 + 1 ≤ M 1 6 - 1 := by
  obtain ⟨-, hF, ⟨hn, -⟩, -, -, hO, hT, -⟩ := h
  have := ph_le (M 1 6 - 1).toNat ((M 5 4).toNat + 1) (fun i => if i = (M 5 4).toNat then (l / 2 - 1).toNat else (M 22 i / 2 - 1).toNat) (fun i hi => by
    show (if i = (M 5 4).toNat then (l / 2 - 1).toNat else (M 22 i / 2 - 1).toNat) < _
    split
    · omega
    · have := hO i (by omega) (by omega); omega) (fun i j hij hj => by
    show (if i = (M 5 4).toNat then (l / 2 - 1).toNat else (M 22 i / 2 - 1).toNat) ≠ (if j = (M 5 4).toNat then (l / 2 - 1).toNat else (M 22 j / 2 - 1).toNat)
    rw [if_neg (by omega)]
    have b1 := hO i (by omega) (by omega)
    split
    · have b2 := hl i (by omega) (by omega); omega
    · have b2 := hO j (by omega) (by omega)
      intro z
      have := hT.inj (i := i) (j := j) (by omega) (by omega) (by omega) (by omega) (by omega)
      omega)
  omega
/-- a literal is held: forced by a clause whose others fail -/
def hld (M : pm_M) (l c : Int) : pm_M := pm_set (pm_set (pm_set (pm_set M 20 l 1) 21 l c) 22 (M 5 4) l) 5 4 (M 5 4 + 1)
theorem hld_c {M : pm_M} {l c : Int} (a : Nat) (h1 : a ≠ 5) (h2 : a ≠ 20) (h3 : a ≠ 21) (h4 : a ≠ 22) : hld M l c a = M a := by
  unfold hld
  rw [pm_set_off a h1, pm_set_off a h4, pm_set_off a h3, pm_set_off a h2]
theorem hld_54 {M : pm_M} {l c : Int} : hld M l c 5 4 = M 5 4 + 1 := pm_get_e
theorem hld_55 {M : pm_M} {l c : Int} : hld M l c 5 5 = M 5 5 := by
  unfold hld
  rw [pm_get_j (by decide) rfl, pm_set_off 5 (by decide), pm_set_off 5 (by decide), pm_set_off 5 (by decide)]
theorem hld_20 {M : pm_M} {l c : Int} : hld M l c 20 = upf (M 20) l 1 := by
  unfold hld
  rw [pm_set_off 20 (by decide), pm_set_off 20 (by decide), pm_set_off 20 (by decide), pm_cell, if_pos rfl]
theorem hld_21 {M : pm_M} {l c : Int} : hld M l c 21 = upf (M 21) l c := by
  unfold hld
  rw [pm_set_off 21 (by decide), pm_set_off 21 (by decide), pm_cell, if_pos rfl, pm_set_off 21 (by decide)]
theorem hld_22 {M : pm_M} {l c : Int} : hld M l c 22 = upf (M 22) (M 5 4) l := by
  unfold hld
  rw [pm_set_off 22 (by decide), pm_cell, if_pos rfl, pm_set_off 22 (by decide), pm_set_off 22 (by decide)]
theorem onT_up {o : Int → Int} {n l x : Int} (hn : 0 ≤ n) : onT (upf o n l) (n + 1) x ↔ onT o n x ∨ x = l := by
  constructor
  · rintro ⟨i, i0, i1, i2⟩
    by_cases e : i = n
    · subst e; rw [upf_e] at i2; exact Or.inr i2.symm
    · rw [upf_n _ _ e] at i2; exact Or.inl ⟨i, i0, by omega, i2⟩
  · rintro (⟨i, i0, i1, i2⟩ | rfl)
    · exact ⟨i, i0, by omega, by rw [upf_n _ _ (by omega)]; exact i2⟩
    · exact ⟨n, hn, by omega, upf_e _ _ _⟩
/-- not on the trail, nor its opposite: no formula of it there -/
theorem off_T {o : Int → Int} {n l : Int} (h1 : ¬ onT o n l) (h2 : ¬ onT o n (pm_op l)) : ∀ i, 0 ≤ i → i < n → o i / 2 ≠ l / 2 := by
  intro i i0 i1 e
  rcases op_or e with z | z
  · exact h1 ⟨i, i0, i1, z⟩
  · exact h2 ⟨i, i0, i1, z⟩
theorem WI.hold {lits st o ls : Int → Int} {tot n lv fol l : Int} (h : WI lits st tot o n ls lv fol) (hf : fol ≤ n) : WI lits st tot (upf o n l) (n + 1) ls lv fol := by
  intro c b p c0 c1 hs hb p0 p1 hp
  rw [upf_n _ _ (by omega)] at hp
  obtain ⟨q, q0, q1, q2, q3⟩ := h c b p c0 c1 hs hb p0 p1 hp
  exact ⟨q, q0, by omega, by rw [upf_n _ _ (by omega)]; exact q2, q3⟩
theorem UI.hold {lits st o ls : Int → Int} {tot n lv l : Int} (h : UI lits st tot o n ls lv) : UI lits st tot (upf o n l) (n + 1) ls lv := by
  intro c c0 c1 hs
  obtain ⟨q, q0, q1, q2, q3⟩ := h c c0 c1 hs
  exact ⟨q, q0, by omega, by rw [upf_n _ _ (by omega)]; exact q2, q3⟩
theorem SI.hold {M : pm_M} {C : Int → List Int} {p : Int} (h : SI M C p) (hp : p ≤ M 5 4) {l c : Int} (h0 : 2 ≤ l) (h1 : l < 2 * M 1 6) (hl : ∀ i, 0 ≤ i → i < M 5 4 → M 22 i / 2 ≠ l / 2) (hc : 0 ≤ c ∧ c < M 2 2) (hk : inC (M 13) (M 14) c l)
    (hf : ∀ l', inC (M 13) (M 14) c l' → l' ≠ l → onT (M 22) (M 5 4) (pm_op l')) (h6 : 0 < M 5 5 → ∃ l' j, inC (M 13) (M 14) c l' ∧ l' ≠ l ∧ M 23 (M 5 5 - 1) ≤ j ∧ j < M 5 4 ∧ M 22 j = pm_op l') : SI (hld M l c) C p := by
  obtain ⟨a1, a2, a3, a4, a5, a6, a7, a8, a9, a10, a11, a12⟩ := h
  have e2 : hld M l c 2 = M 2 := hld_c 2 (by decide) (by decide) (by decide) (by decide)
  have e1 : hld M l c 1 = M 1 := hld_c 1 (by decide) (by decide) (by decide) (by decide)
  have e13 : hld M l c 13 = M 13 := hld_c 13 (by decide) (by decide) (by decide) (by decide)
  have e14 : hld M l c 14 = M 14 := hld_c 14 (by decide) (by decide) (by decide) (by decide)
  have e16 : hld M l c 16 = M 16 := hld_c 16 (by decide) (by decide) (by decide) (by decide)
  have e17 : hld M l c 17 = M 17 := hld_c 17 (by decide) (by decide) (by decide) (by decide)
  have e23 : hld M l c 23 = M 23 := hld_c 23 (by decide) (by decide) (by decide) (by decide)
  unfold SI
  rw [e2, e1, e13, e14, e16, e17, e23, hld_54, hld_55, hld_20, hld_21, hld_22]
  refine ⟨a1, a2, ⟨by omega, a3.2⟩, fun x => ?_, fun x => ?_, fun i i0 i1 => ?_, a7.hold hl hc hk hf h6, a8.hold hp, a9.hold, a10, a11, a12⟩
  · unfold upf; split
    · exact Or.inr rfl
    · exact a4 x
  · rw [onT_up a3.1]
    by_cases e : x = l
    · subst e; rw [upf_e]; exact ⟨fun _ => Or.inr rfl, fun _ => by decide⟩
    · rw [upf_n _ _ e, a5 x]; exact ⟨Or.inl, fun z => z.elim id (fun z => absurd z e)⟩
  · rcases (by omega : i < M 5 4 ∨ i = M 5 4) with z | z
    · rw [upf_n _ _ (by omega)]; exact a6 i i0 z
    · rw [z, upf_e]; exact ⟨h0, h1⟩
