/-! PURE: the reference looks for some inputs -/
/-- class and reference have the same circuit -/
def RK (M : pm_M) : Prop := CW M ∧ IN M ∧ M 24 1 = M 1 6 ∧ M 24 2 = M 1 7 ∧ (∀ f, 0 ≤ f → f < M 1 6 → KD M f) ∧ ∀ k, 0 ≤ k → k < M 1 7 → M 7 (M 12 k) = -1
theorem RK.of {M M' : pm_M} (h : RK M) (e1 : M' 1 = M 1) (e7 : M' 7 = M 7) (e8 : M' 8 = M 8) (e9 : M' 9 = M 9) (e12 : M' 12 = M 12) (e1' : M' 24 1 = M 24 1) (e2' : M' 24 2 = M 24 2) (e25 : M' 25 = M 25) (e26 : M' 26 = M 26) (e27 : M' 27 = M 27) (e28 : M' 28 = M 28) : RK M' := by
  unfold RK CW IN KD
  rw [e1, e7, e8, e9, e12, e1', e2', e25, e26, e27, e28]
  exact h
theorem GV.of {M M' : pm_M} {V : Int → Bool} (h : GV M V) (e1 : M' 1 = M 1) (e7 : M' 7 = M 7) (e8 : M' 8 = M 8) (e9 : M' 9 = M 9) : GV M' V := by
  unfold GV
  rw [e1, e7, e8, e9]
  exact h
theorem gv_in {M : pm_M} (hR : RK M) (w : Int → Int) (hb : ∀ k, 0 ≤ k → k < 12 → pm_bit (w k)) : ∃ V, GV M V ∧ ∀ k, 0 ≤ k → k < M 1 7 → w k = b01 (V (M 12 k)) := by
  obtain ⟨hW, hI, -, -, hK, h7⟩ := hR
  obtain ⟨V, hV, hi⟩ := gv_ex hW (fun f => w (M 26 f) == 1)
  refine ⟨V, hV, fun k k0 k1 => ?_⟩
  have hr := hI.2.1 k k0 k1
  have h9 := h7 k k0 k1
  have hN := hI.1
  have e26 : M 26 (M 12 k) = k := by
    rcases hK (M 12 k) (by omega) hr.2 with ⟨q, w⟩ | ⟨q, w0, w1, w2, w3⟩ | ⟨q, w0, w1, w2, w3⟩ | ⟨q, w0, w1, w2, w3, w4⟩ | ⟨q, w0, w1, w2, w3, w4⟩ | ⟨q, w0, w1, w2, w3, w4⟩ | ⟨q, w0, w1, w2, w2', w3, w4⟩
    · omega
    · exact hI.2.2 _ _ w2.1 w2.2 k0 k1 w3
    all_goals omega
  have hv := hi (M 12 k) (by omega) hr.2 h9
  rw [hv]
  show w k = b01 (w (M 26 (M 12 k)) == 1)
  rw [e26]
  rcases hb k k0 (by omega) with z | z
  · rw [z]; rfl
  · rw [z]; rfl
/-- the inputs of V, as a number's digits -/
def nV (M : pm_M) (V : Int → Bool) : Nat → Bool := fun i => V (M 12 i)
def ALL (M : pm_M) (q : Nat) (n : Int) (V : Int → Bool) : Prop := ∀ i, 0 ≤ i → i < n → V (M q i) = true
theorem p_77i {L : Nat} {Q : pm_P} {M : pm_M} {q : Nat} (gq : (pm_cells L)[q]? = some (.inl (0, 20))) {n a3 : Int} {V : Int → Bool} (hn : n ≤ 20) (hv : ∀ i, 0 ≤ i → i < n → (0 ≤ M q i ∧ M q i < 2000) ∧ M 32 (M q i) = b01 (V (M q i)))
    (h1 : ALL M q n V → Q (.inl (some (.inl 1))) M) (h0 : ¬ ALL M q n V → ∀ a4 a5 : Int, pm_X L (74, 0, [some (.inr (.inl 24)), none], [], M) (pm_back (pm_X L) 77 64 [some (.inr (.inl 24)), some (.inr (.inl q)), some (.inl n), some (.inl a3), some (.inl a4), some (.inl a5)] [] Q)) :
    ∀ (m : Nat) (a4 a5 : Int), (n - a5).toNat ≤ m → 0 ≤ a5 → ((a4 = 1 ∧ ∀ i, 0 ≤ i → i < a5 → i < n → V (M q i) = true) ∨ (a4 = 0 ∧ ¬ ALL M q n V)) →
    pm_X L (77, 20, [some (.inr (.inl 24)), some (.inr (.inl q)), some (.inl n), some (.inl a3), some (.inl a4), some (.inl a5)], [], M) Q := by
  have fin : ∀ a4 a5 : Int, n ≤ a5 → ((a4 = 1 ∧ ∀ i, 0 ≤ i → i < a5 → i < n → V (M q i) = true) ∨ (a4 = 0 ∧ ¬ ALL M q n V)) → pm_X L (77, 20, [some (.inr (.inl 24)), some (.inr (.inl q)), some (.inl n), some (.inl a3), some (.inl a4), some (.inl a5)], [], M) Q := by
    intro a4 a5 ha hc
    refine s_77_20 gq ⟨fun _ => ⟨fun z => ?_, fun z => ?_⟩, fun z => by omega⟩
    · rcases hc with ⟨w, -⟩ | ⟨-, w⟩
      · omega
      · exact h0 w a4 a5
    · rcases hc with ⟨-, w⟩ | ⟨w, -⟩
      · exact h1 (fun i i0 i1 => w i i0 (by omega) i1)
      · exact absurd w z
  intro m
  induction m with
  | zero => intro a4 a5 hm h5 hc; exact fin a4 a5 (by omega) hc
  | succ m ih =>
    intro a4 a5 hm h5 hc
    rcases (by omega : n ≤ a5 ∨ a5 < n) with w | w
    · exact fin a4 a5 w hc
    obtain ⟨r1, r2⟩ := hv a5 h5 w
    refine s_77_20 gq ⟨fun z => by omega, fun _ => ⟨fun z => ⟨by unfold pm_R; omega, ih 0 (a5 + 1) (by omega) (by omega) (Or.inr ⟨rfl, ?_⟩)⟩, fun z => ⟨⟨h5, by omega⟩, r1, fun y => ⟨by unfold pm_R; omega, ih 0 (a5 + 1) (by omega) (by omega) (Or.inr ⟨rfl, fun hall => ?_⟩)⟩, fun y => ⟨by unfold pm_R; omega, ih 1 (a5 + 1) (by omega) (by omega) (Or.inl ⟨rfl, fun i i0 i1 i2 => ?_⟩)⟩⟩⟩⟩
    · rcases hc with ⟨u, -⟩ | ⟨-, u⟩
      · omega
      · exact u
    · have := hall a5 h5 w
      rw [r2, b01_0, this] at y
      cases y
    · rcases hc with ⟨-, u⟩ | ⟨u, -⟩
      · rcases (by omega : i = a5 ∨ i < a5) with x | x
        · rw [x]; rw [r2] at y; exact b01_n.mp y
        · exact u i i0 x i2
      · exact absurd u z
