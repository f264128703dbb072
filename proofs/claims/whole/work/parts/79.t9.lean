/-! PURE: the reference's shorten: the list without one place is laid -/
theorem p_79c {L : Nat} {Q : pm_P} {M0 : pm_M} {n a1 : Int} (hn : M0 24 3 = n) (h1 : 0 ≤ a1 ∧ a1 < n) (h2 : n ≤ 20)
    (hq : ∀ M' : pm_M, (∀ c, c ≠ 33 → M' c = M0 c) → (∀ i, 0 ≤ i → i < a1 → M' 33 i = M0 29 i) → (∀ i, a1 ≤ i → i < n - 1 → M' 33 i = M0 29 (i + 1)) → pm_X L (77, 0, [some (.inr (.inl 24)), some (.inr (.inl 33)), some (.inl (n - 1)), none, none, none], [], M') (pm_back (pm_X L) 79 80 [some (.inr (.inl 24)), some (.inl a1), some (.inl (n - 1)), some (.inl n)] [] Q)) :
    ∀ (m : Nat) (M : pm_M) (a2 a3 : Int), (n - a3).toNat ≤ m → 0 ≤ a3 → a3 ≤ n → ((a3 ≤ a1 ∧ a2 = a3) ∨ (a1 < a3 ∧ a2 = a3 - 1)) → (∀ c, c ≠ 33 → M c = M0 c) → (∀ i, 0 ≤ i → i < a1 → i < a2 → M 33 i = M0 29 i) → (∀ i, a1 ≤ i → i < a2 → M 33 i = M0 29 (i + 1)) →
    pm_X L (79, 40, [some (.inr (.inl 24)), some (.inl a1), some (.inl a2), some (.inl a3)], [], M) Q := by
  have fin : ∀ (M : pm_M) (a2 a3 : Int), a3 = n → ((a3 ≤ a1 ∧ a2 = a3) ∨ (a1 < a3 ∧ a2 = a3 - 1)) → (∀ c, c ≠ 33 → M c = M0 c) → (∀ i, 0 ≤ i → i < a1 → i < a2 → M 33 i = M0 29 i) → (∀ i, a1 ≤ i → i < a2 → M 33 i = M0 29 (i + 1)) → pm_X L (79, 40, [some (.inr (.inl 24)), some (.inl a1), some (.inl a2), some (.inl a3)], [], M) Q := by
    intro M a2 a3 e hc c1 c2 c3
    have e2 : a2 = n - 1 := by omega
    have e24 : M 24 = M0 24 := c1 24 (by decide)
    rw [e2] at c2 c3 ⊢
    rw [e]
    exact s_79_40 ⟨fun _ => hq M c1 (fun i i0 i1 => c2 i i0 i1 (by omega)) c3, fun z => by rw [e24, hn] at z; omega⟩
  intro m
  induction m with
  | zero => intro M a2 a3 hm h3 h4 hc c1 c2 c3; exact fin M a2 a3 (by omega) hc c1 c2 c3
  | succ m ih =>
    intro M a2 a3 hm h3 h4 hc c1 c2 c3
    rcases (by omega : a3 = n ∨ a3 < n) with e | hlt
    · exact fin M a2 a3 e hc c1 c2 c3
    have e24 : M 24 = M0 24 := c1 24 (by decide)
    have e29 : M 29 = M0 29 := c1 29 (by decide)
    refine s_79_40 ⟨fun z => by rw [e24, hn] at z; omega, fun _ => ⟨fun z => ⟨by unfold pm_R; omega, ih M a2 (a3 + 1) (by omega) (by omega) (by omega) (by omega) c1 c2 c3⟩, fun z => ⟨by unfold pm_R; omega, ⟨h3, by omega⟩, ⟨by omega, by omega⟩, by unfold pm_R; omega, ?_⟩⟩⟩
    rw [e29]
    refine ih _ (a2 + 1) (a3 + 1) (by omega) (by omega) (by omega) (by omega) (fun c hc => by rw [pm_set_off c hc]; exact c1 c hc) (fun i i0 i1 i2 => ?_) (fun i i0 i1 => ?_)
    · rcases (by omega : i = a2 ∨ i < a2) with w | w
      · rw [w, pm_get_e, show a3 = a2 by omega]
      · rw [pm_get_j (by omega) rfl]; exact c2 i i0 i1 w
    · rcases (by omega : i = a2 ∨ i < a2) with w | w
      · rw [w, pm_get_e, show a3 = a2 + 1 by omega]
      · rw [pm_get_j (by omega) rfl]; exact c3 i i0 w
