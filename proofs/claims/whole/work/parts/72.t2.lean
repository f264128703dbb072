/-! PURE: the reference goes through the inputs -/
theorem mk_ext {P P' : Nat → Bool} : ∀ k, (∀ i, i < k → P i = P' i) → mk_n P k = mk_n P' k := by
  intro k
  induction k with
  | zero => intro _; rfl
  | succ k ih =>
    intro h
    show 2 * mk_n P k + (if P k then 1 else 0) = 2 * mk_n P' k + (if P' k then 1 else 0)
    rw [ih (fun i hi => h i (by omega)), h k (by omega)]
/-- the next one -/
theorem mk_succ {P P' : Nat → Bool} {k : Nat} (h0 : P k = false) (h1 : P' k = true) (hl : ∀ i, i < k → P i = P' i) : ∀ m, (∀ i, k < i → i < k + 1 + m → P i = true ∧ P' i = false) → mk_n P' (k + 1 + m) = mk_n P (k + 1 + m) + 1 := by
  intro m
  induction m with
  | zero =>
    intro _
    show 2 * mk_n P' k + (if P' k then 1 else 0) = 2 * mk_n P k + (if P k then 1 else 0) + 1
    rw [h0, h1, mk_ext k hl]
    rfl
  | succ m ih =>
    intro h
    obtain ⟨a, b⟩ := h (k + 1 + m) (by omega) (by omega)
    have e := ih (fun i i0 i1 => h i i0 (by omega))
    show 2 * mk_n P' (k + 1 + m) + (if P' (k + 1 + m) then 1 else 0) = 2 * mk_n P (k + 1 + m) + (if P (k + 1 + m) then 1 else 0) + 1
    rw [e, a, b]
    show 2 * (mk_n P (k + 1 + m) + 1) + 0 = 2 * mk_n P (k + 1 + m) + 1 + 1
    omega
/-- the last one -/
theorem mk_full {P : Nat → Bool} : ∀ k, (∀ i, i < k → P i = true) → mk_n P k + 1 = 2 ^ k := by
  intro k
  induction k with
  | zero => intro _; rfl
  | succ k ih =>
    intro h
    have e := ih (fun i hi => h i (by omega))
    show 2 * mk_n P k + (if P k then 1 else 0) + 1 = 2 ^ (k + 1)
    rw [h k (by omega), Nat.pow_succ, ← e]
    show 2 * mk_n P k + 1 + 1 = (mk_n P k + 1) * 2
    omega
/-- the first difference decides -/
theorem mk_lex {P P' : Nat → Bool} {k : Nat} (h0 : P k = false) (h1 : P' k = true) (hl : ∀ i, i < k → P i = P' i) : ∀ m, mk_n P (k + 1 + m) < mk_n P' (k + 1 + m) := by
  intro m
  induction m with
  | zero =>
    show 2 * mk_n P k + (if P k then 1 else 0) < 2 * mk_n P' k + (if P' k then 1 else 0)
    rw [h0, h1, mk_ext k hl]
    show 2 * mk_n P' k + 0 < 2 * mk_n P' k + 1
    omega
  | succ m ih =>
    show 2 * mk_n P (k + 1 + m) + (if P (k + 1 + m) then 1 else 0) < 2 * mk_n P' (k + 1 + m) + (if P' (k + 1 + m) then 1 else 0)
    split <;> split <;> omega
theorem p_75l {L : Nat} {Q : pm_P} {M0 : pm_M} (hb : ∀ k, 0 ≤ k → k < 12 → pm_bit (M0 30 k)) (hq : ∀ M' : pm_M, (∀ c, c ≠ 30 → c ≠ 31 → M' c = M0 c) → (∀ k, 0 ≤ k → k < 12 → M' 31 k = M0 30 k) → (∀ k, 0 ≤ k → k < 12 → M' 30 k = 0) → Q (.inl none) M') :
    ∀ (n : Nat) (M : pm_M) (a1 : Int), (12 - a1).toNat ≤ n → 0 ≤ a1 → a1 ≤ 12 → (∀ c, c ≠ 30 → c ≠ 31 → M c = M0 c) → (∀ k, 0 ≤ k → k < a1 → M 31 k = M0 30 k) → (∀ k, 0 ≤ k → k < a1 → M 30 k = 0) → (∀ k, a1 ≤ k → M 30 k = M0 30 k) →
    pm_X L (75, 2, [some (.inr (.inl 24)), some (.inl a1)], [], M) Q := by
  intro n
  induction n with
  | zero =>
    intro M a1 hn h0 h1 c1 c2 c3 c4
    have e : a1 = 12 := by omega
    subst e
    exact s_75_2 ⟨fun _ => hq M c1 c2 c3, fun z => by omega⟩
  | succ n ih =>
    intro M a1 hn h0 h1 c1 c2 c3 c4
    rcases (by omega : a1 = 12 ∨ a1 < 12) with e | hlt
    · subst e
      exact s_75_2 ⟨fun _ => hq M c1 c2 c3, fun z => by omega⟩
    refine s_75_2 ⟨fun z => by omega, fun _ => ⟨⟨h0, hlt⟩, ⟨⟨h0, hlt⟩, by rw [c4 a1 (Int.le_refl _)]; exact hb a1 h0 hlt⟩, by unfold pm_R; omega, ?_⟩⟩
    have e31 : pm_set (pm_set M 31 a1 (M 30 a1)) 30 a1 0 31 = upf (M 31) a1 (M 30 a1) := by rw [pm_set_off 31 (by decide), pm_cell, if_pos rfl]
    have e30 : pm_set (pm_set M 31 a1 (M 30 a1)) 30 a1 0 30 = upf (M 30) a1 0 := by rw [pm_cell, if_pos rfl, pm_set_off 30 (by decide)]
    refine ih _ (a1 + 1) (by omega) (by omega) (by omega) (fun c c30 c31 => by rw [pm_set_off c c30, pm_set_off c c31]; exact c1 c c30 c31) ?_ ?_ ?_
    · rw [e31]
      intro k k0 k1
      rcases (by omega : k = a1 ∨ k < a1) with w | w
      · rw [w, upf_e]; exact c4 a1 (Int.le_refl _)
      · rw [upf_n _ _ (by omega)]; exact c2 k k0 w
    · rw [e30]
      intro k k0 k1
      rcases (by omega : k = a1 ∨ k < a1) with w | w
      · rw [w, upf_e]
      · rw [upf_n _ _ (by omega)]; exact c3 k k0 w
    · rw [e30]
      intro k k0
      rw [upf_n _ _ (by omega)]
      exact c4 k (by omega)
theorem p_75 {L : Nat} {Q : pm_P} {M : pm_M} (hb : ∀ k, 0 ≤ k → k < 12 → pm_bit (M 30 k)) (hq : ∀ M' : pm_M, (∀ c, c ≠ 30 → c ≠ 31 → M' c = M c) → (∀ k, 0 ≤ k → k < 12 → M' 31 k = M 30 k) → (∀ k, 0 ≤ k → k < 12 → M' 30 k = 0) → Q (.inl none) M') :
    pm_X L (75, 0, [some (.inr (.inl 24)), none], [], M) Q :=
  s_75_0 (p_75l hb hq _ M 0 (Nat.le_refl _) (Int.le_refl _) (by omega) (fun _ _ _ => rfl) (fun k k0 k1 => by omega) (fun k k0 k1 => by omega) (fun _ _ => rfl))
theorem p_76l {L : Nat} {Q : pm_P} {M0 : pm_M} (hb : ∀ k, 0 ≤ k → k < 12 → pm_bit (M0 31 k)) (hq : ∀ M' : pm_M, (∀ c, c ≠ 30 → M' c = M0 c) → (∀ k, 0 ≤ k → k < 12 → M' 30 k = M0 31 k) → Q (.inl none) M') :
    ∀ (n : Nat) (M : pm_M) (a1 : Int), (12 - a1).toNat ≤ n → 0 ≤ a1 → a1 ≤ 12 → (∀ c, c ≠ 30 → M c = M0 c) → (∀ k, 0 ≤ k → k < a1 → M 30 k = M0 31 k) →
    pm_X L (76, 2, [some (.inr (.inl 24)), some (.inl a1)], [], M) Q := by
  intro n
  induction n with
  | zero =>
    intro M a1 hn h0 h1 c1 c2
    have e : a1 = 12 := by omega
    subst e
    exact s_76_2 ⟨fun _ => hq M c1 c2, fun z => by omega⟩
  | succ n ih =>
    intro M a1 hn h0 h1 c1 c2
    rcases (by omega : a1 = 12 ∨ a1 < 12) with e | hlt
    · subst e
      exact s_76_2 ⟨fun _ => hq M c1 c2, fun z => by omega⟩
    have e31 : M 31 = M0 31 := c1 31 (by decide)
    refine s_76_2 ⟨fun z => by omega, fun _ => ⟨⟨h0, hlt⟩, ⟨⟨h0, hlt⟩, by rw [e31]; exact hb a1 h0 hlt⟩, by unfold pm_R; omega, ?_⟩⟩
    refine ih _ (a1 + 1) (by omega) (by omega) (by omega) (fun c c30 => by rw [pm_set_off c c30]; exact c1 c c30) (fun k k0 k1 => ?_)
    rcases (by omega : k = a1 ∨ k < a1) with w | w
    · rw [w, pm_get_e, e31]
    · rw [pm_get_j (by omega) rfl]; exact c2 k k0 w
theorem p_76 {L : Nat} {Q : pm_P} {M : pm_M} (hb : ∀ k, 0 ≤ k → k < 12 → pm_bit (M 31 k)) (hq : ∀ M' : pm_M, (∀ c, c ≠ 30 → M' c = M c) → (∀ k, 0 ≤ k → k < 12 → M' 30 k = M 31 k) → Q (.inl none) M') :
    pm_X L (76, 0, [some (.inr (.inl 24)), none], [], M) Q :=
  s_76_0 (p_76l hb hq _ M 0 (Nat.le_refl _) (Int.le_refl _) (by omega) (fun _ _ => rfl) (fun k k0 k1 => by omega))
/-- advance: the next inputs, or none -/
theorem p_74l {L : Nat} {Q : pm_P} {M0 : pm_M} {N : Int} (hN : 0 ≤ N ∧ N ≤ 12)
    (hq1 : ∀ (M' : pm_M) (k : Int), (∀ c, c ≠ 30 → M' c = M0 c) → 0 ≤ k → k < N → M0 30 k = 0 → M' 30 k = 1 → (∀ i, i < k → M' 30 i = M0 30 i) → (∀ i, k < i → i < N → M0 30 i ≠ 0 ∧ M' 30 i = 0) → (∀ i, N ≤ i → M' 30 i = M0 30 i) → Q (.inl (some (.inl 1))) M')
    (hq0 : ∀ M' : pm_M, (∀ c, c ≠ 30 → M' c = M0 c) → (∀ i, 0 ≤ i → i < N → M0 30 i ≠ 0 ∧ M' 30 i = 0) → (∀ i, N ≤ i → M' 30 i = M0 30 i) → Q (.inl (some (.inl 0))) M') :
    ∀ (n : Nat) (M : pm_M) (a1 : Int), (a1 + 1).toNat ≤ n → -1 ≤ a1 → a1 < N → (∀ c, c ≠ 30 → M c = M0 c) → (∀ i, i ≤ a1 → M 30 i = M0 30 i) → (∀ i, a1 < i → i < N → M0 30 i ≠ 0 ∧ M 30 i = 0) → (∀ i, N ≤ i → M 30 i = M0 30 i) →
    pm_X L (74, 7, [some (.inr (.inl 24)), some (.inl a1)], [], M) Q := by
  intro n
  induction n with
  | zero =>
    intro M a1 hn h0 h1 c1 c2 c3 c4
    exact s_74_7 ⟨fun _ => hq0 M c1 (fun i i0 i1 => c3 i (by omega) i1) c4, fun z => by omega⟩
  | succ n ih =>
    intro M a1 hn h0 h1 c1 c2 c3 c4
    refine s_74_7 ⟨fun _ => hq0 M c1 (fun i i0 i1 => c3 i (by omega) i1) c4, fun z => ⟨⟨by omega, by omega⟩, fun y => ⟨by unfold pm_R; omega, ?_⟩, fun y => ?_⟩⟩
    · refine ih _ (a1 + (-1)) (by omega) (by omega) (by omega) (fun c c30 => by rw [pm_set_off c c30]; exact c1 c c30) (fun i hi => by rw [pm_get_j (by omega) rfl]; exact c2 i (by omega)) (fun i i0 i1 => ?_) (fun i hi => by rw [pm_get_j (by omega) rfl]; exact c4 i hi)
      rcases (by omega : i = a1 ∨ a1 < i) with w | w
      · rw [w, pm_get_e]
        rw [c2 a1 (Int.le_refl _)] at y
        exact ⟨y, rfl⟩
      · rw [pm_get_j (by omega) rfl]; exact c3 i w i1
    · have y0 : M 30 a1 = 0 := Classical.not_not.mp y
      rw [c2 a1 (Int.le_refl _)] at y0
      exact hq1 _ a1 (fun c c30 => by rw [pm_set_off c c30]; exact c1 c c30) (by omega) h1 y0 pm_get_e (fun i hi => by rw [pm_get_j (by omega) rfl]; exact c2 i (by omega)) (fun i i0 i1 => by rw [pm_get_j (by omega) rfl]; exact c3 i i0 i1) (fun i hi => by rw [pm_get_j (by omega) rfl]; exact c4 i hi)
/-- inputs as a number -/
def nIn (w : Int → Int) : Nat → Bool := fun i => w i == 1
theorem p_74 {L : Nat} {Q : pm_P} {M : pm_M} (hN : 0 ≤ M 24 2 ∧ M 24 2 ≤ 12) (hb : ∀ k, 0 ≤ k → k < 12 → pm_bit (M 30 k))
    (hq1 : ∀ M' : pm_M, (∀ c, c ≠ 30 → M' c = M c) → (∀ k, 0 ≤ k → k < 12 → pm_bit (M' 30 k)) → (∀ i, M 24 2 ≤ i → M' 30 i = M 30 i) → mk_n (nIn (M' 30)) (M 24 2).toNat = mk_n (nIn (M 30)) (M 24 2).toNat + 1 → Q (.inl (some (.inl 1))) M')
    (hq0 : ∀ M' : pm_M, (∀ c, c ≠ 30 → M' c = M c) → mk_n (nIn (M 30)) (M 24 2).toNat + 1 = 2 ^ (M 24 2).toNat → Q (.inl (some (.inl 0))) M') :
    pm_X L (74, 0, [some (.inr (.inl 24)), none], [], M) Q := by
  refine s_74_0 ⟨by unfold pm_R; omega, p_74l hN ?_ ?_ _ M _ (Nat.le_refl _) (by omega) (by omega) (fun _ _ => rfl) (fun _ _ => rfl) (fun i i0 i1 => by omega) (fun _ _ => rfl)⟩
  · intro M' k q1 k0 k1 q2 q3 q4 q5 q6
    have bit : ∀ i, 0 ≤ i → i < 12 → pm_bit (M' 30 i) := by
      intro i i0 i1
      rcases (by omega : i < k ∨ i = k ∨ (k < i ∧ i < M 24 2) ∨ M 24 2 ≤ i) with w | w | w | w
      · rw [q4 i w]; exact hb i i0 i1
      · rw [w, q3]; exact Or.inr rfl
      · rw [(q5 i w.1 w.2).2]; exact Or.inl rfl
      · rw [q6 i w]; exact hb i i0 i1
    refine hq1 M' q1 bit q6 ?_
    have e := mk_succ (P := nIn (M 30)) (P' := nIn (M' 30)) (k := k.toNat) (by unfold nIn; rw [show ((k.toNat : Nat) : Int) = k by omega, q2]; rfl) (by unfold nIn; rw [show ((k.toNat : Nat) : Int) = k by omega, q3]; rfl) (fun i hi => by unfold nIn; rw [q4 i (by omega)]) ((M 24 2).toNat - k.toNat - 1) (fun i i0 i1 => by
      obtain ⟨u, v⟩ := q5 i (by omega) (by omega)
      refine ⟨?_, ?_⟩
      · unfold nIn
        rcases hb i (by omega) (by omega) with w | w
        · exact absurd w u
        · rw [w]; rfl
      · unfold nIn; rw [v]; rfl)
    rw [show k.toNat + 1 + ((M 24 2).toNat - k.toNat - 1) = (M 24 2).toNat by omega] at e
    exact e
  · intro M' q1 q2 q3
    refine hq0 M' q1 (mk_full _ (fun i hi => ?_))
    unfold nIn
    rcases hb i (by omega) (by omega) with w | w
    · exact absurd w (q2 i (by omega) (by omega)).1
    · rw [w]; rfl
