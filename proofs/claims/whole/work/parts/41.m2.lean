/-! WATCHES: of a clause of two or more the first two literals are watched; followed literals up to fol -/
def WI (lits st : Int → Int) (tot : Int) (o : Int → Int) (n : Int) (ls : Int → Int) (lv fol : Int) : Prop :=
  ∀ c b p, 0 ≤ c → c < tot → st c + 2 ≤ st (c + 1) → (b = 0 ∨ b = 1) → 0 ≤ p → p < fol → o p = pm_op (lits (st c + b)) →
    ∃ q, 0 ≤ q ∧ q < n ∧ o q = lits (st c + (1 - b)) ∧ ∀ t, 0 ≤ t → t < lv → p < ls t → q < ls t
/-- a clause of one literal holds at level 0 -/
def UI (lits st : Int → Int) (tot : Int) (o : Int → Int) (n : Int) (ls : Int → Int) (lv : Int) : Prop :=
  ∀ c, 0 ≤ c → c < tot → st (c + 1) = st c + 1 → ∃ q, 0 ≤ q ∧ q < n ∧ o q = lits (st c) ∧ ∀ t, 0 ≤ t → t < lv → q < ls t
/-- the clauses: none is empty, no literal twice -/
def NE (st : Int → Int) (tot : Int) : Prop := ∀ c, 0 ≤ c → c < tot → st c < st (c + 1)
def ND (lits st : Int → Int) (tot : Int) : Prop := ∀ c i j, 0 ≤ c → c < tot → st c ≤ i → i < j → j < st (c + 1) → lits i ≠ lits j
section FIX
variable {lits st o fb ls : Int → Int} {tot n lv : Int}
/-- when all is followed: where all others fail, the one that is left holds -/
theorem WI.fix (hT : TR (inC lits st) tot o n fb ls lv) (hW : WI lits st tot o n ls lv n) (hU : UI lits st tot o n ls lv) (hN : NE st tot) (hD : ND lits st tot) {c l0 : Int} (c0 : 0 ≤ c) (c1 : c < tot) (h0 : inC lits st c l0)
    (hf : ∀ l, inC lits st c l → l ≠ l0 → onT o n (pm_op l)) : onT o n l0 := by
  have hs := hN c c0 c1
  rcases (by omega : st (c + 1) = st c + 1 ∨ st c + 2 ≤ st (c + 1)) with h1 | h2
  · obtain ⟨q, q0, q1, q2, -⟩ := hU c c0 c1 h1
    obtain ⟨i, i0, i1, i2⟩ := h0
    have : i = st c := by omega
    subst this
    exact ⟨q, q0, q1, by rw [q2, i2]⟩
  · have a0 : inC lits st c (lits (st c + 0)) := ⟨st c + 0, by omega, by omega, rfl⟩
    have a1 : inC lits st c (lits (st c + 1)) := ⟨st c + 1, by omega, by omega, rfl⟩
    have hne : lits (st c + 0) ≠ lits (st c + 1) := hD c (st c + 0) (st c + 1) c0 c1 (by omega) (by omega) (by omega)
    by_cases e : lits (st c + 0) = l0
    · obtain ⟨p, p0, p1, p2⟩ := hf _ a1 (fun z => hne (e.trans z.symm))
      obtain ⟨q, q0, q1, q2, -⟩ := hW c 1 p c0 c1 h2 (Or.inr rfl) p0 p1 p2
      exact ⟨q, q0, q1, by rw [q2, ← e]; rfl⟩
    · obtain ⟨p, p0, p1, p2⟩ := hf _ a0 e
      obtain ⟨q, q0, q1, q2, -⟩ := hW c 0 p c0 c1 h2 (Or.inl rfl) p0 p1 p2
      have q3 : o q = lits (st c + 1) := q2
      by_cases e1 : lits (st c + 1) = l0
      · exact ⟨q, q0, q1, by rw [q3, e1]⟩
      · exact absurd (hf _ a1 e1) (fun z => hT.two ⟨q, q0, q1, q3⟩ z)
/-- when all is followed and d is free: no clause has only d's opposite and failing ones -/
theorem WI.free0 (hT : TR (inC lits st) tot o n fb ls lv) (hW : WI lits st tot o n ls lv n) (hU : UI lits st tot o n ls lv) (hN : NE st tot) (hD : ND lits st tot) {d : Int} (hd : ∀ i, 0 ≤ i → i < n → o i / 2 ≠ d / 2) :
    ∀ c, 0 ≤ c → c < tot → ∃ l', inC lits st c l' ∧ l' ≠ pm_op d ∧ ¬ ∃ j, 0 ≤ j ∧ j < n ∧ o j = pm_op l' := by
  intro c c0 c1
  apply Classical.byContradiction
  intro hno
  have hall : ∀ l', inC lits st c l' → l' ≠ pm_op d → onT o n (pm_op l') := by
    intro l' h1 h2
    apply Classical.byContradiction
    intro h3
    exact hno ⟨l', h1, h2, h3⟩
  by_cases hin : inC lits st c (pm_op d)
  · obtain ⟨q, q0, q1, q2⟩ := hW.fix hT hU hN hD c0 c1 hin hall
    exact hd q q0 q1 (by rw [q2, op_div])
  · have hs := hN c c0 c1
    have a0 : inC lits st c (lits (st c)) := ⟨st c, by omega, by omega, rfl⟩
    have hne : ∀ l', inC lits st c l' → l' ≠ pm_op d := fun l' h1 h2 => hin (h2 ▸ h1)
    have h4 := hW.fix hT hU hN hD c0 c1 a0 (fun l h1 _ => hall l h1 (hne l h1))
    exact hT.two h4 (hall _ a0 (hne _ a0))
/-- at the end, all assigned: every clause holds -/
theorem WI.all0 (hT : TR (inC lits st) tot o n fb ls lv) (hW : WI lits st tot o n ls lv n) (hU : UI lits st tot o n ls lv) (hN : NE st tot) (hD : ND lits st tot) {c : Int} (c0 : 0 ≤ c) (c1 : c < tot) : ∃ l, inC lits st c l ∧ ¬ onT o n (pm_op l) := by
  apply Classical.byContradiction
  intro hno
  have hall : ∀ l', inC lits st c l' → onT o n (pm_op l') := by
    intro l' h1
    apply Classical.byContradiction
    intro h3
    exact hno ⟨l', h1, h3⟩
  have hs := hN c c0 c1
  have a0 : inC lits st c (lits (st c)) := ⟨st c, by omega, by omega, rfl⟩
  exact hT.two (hW.fix hT hU hN hD c0 c1 a0 (fun l h1 _ => hall l h1)) (hall _ a0)
end FIX
/-! COUNTING: different sets out of twelve -/
theorem ph_le : ∀ (m n : Nat) (f : Nat → Nat), (∀ i, i < n → f i < m) → (∀ i j, i < j → j < n → f i ≠ f j) → n ≤ m := by
  intro m
  induction m with
  | zero =>
    intro n f h1 h2
    rcases Nat.eq_zero_or_pos n with h | h
    · omega
    · have := h1 0 h; omega
  | succ m ih =>
    intro n f h1 h2
    by_cases hx : ∃ i, i < n ∧ f i = m
    · obtain ⟨i0, hi0, e0⟩ := hx
      have hne : ∀ i, i < n → i ≠ i0 → f i ≠ m := by
        intro i hi h e
        rcases (by omega : i < i0 ∨ i0 < i) with q | q
        · exact h2 i i0 q hi0 (by rw [e, e0])
        · exact h2 i0 i q hi (by rw [e, e0])
      have := ih (n - 1) (fun i => if i = i0 then f (n - 1) else f i) (fun i hi => by
        show (if i = i0 then f (n - 1) else f i) < m
        split
        · rename_i h
          have a := h1 (n - 1) (by omega)
          have b := hne (n - 1) (by omega) (by omega)
          omega
        · rename_i h
          have a := h1 i (by omega)
          have b := hne i (by omega) h
          omega) (fun i j hij hj => by
        show (if i = i0 then f (n - 1) else f i) ≠ (if j = i0 then f (n - 1) else f j)
        split
        · rename_i h
          rw [if_neg (by omega)]
          exact fun z => h2 j (n - 1) (by omega) (by omega) z.symm
        · split
          · exact h2 i (n - 1) (by omega) (by omega)
          · exact h2 i j hij (by omega))
      omega
    · have := ih n f (fun i hi => by
        have a := h1 i hi
        have b : f i ≠ m := fun z => hx ⟨i, hi, z⟩
        omega) h2
      omega
/-- a set of the first k numbers, as a number -/
def mk_n (P : Nat → Bool) : Nat → Nat
  | 0 => 0
  | k + 1 => 2 * mk_n P k + (if P k then 1 else 0)
theorem mk_lt (P : Nat → Bool) : ∀ k, mk_n P k < 2 ^ k := by
  intro k
  induction k with
  | zero => exact Nat.one_pos
  | succ k ih =>
    show 2 * mk_n P k + (if P k then 1 else 0) < 2 ^ (k + 1)
    rw [Nat.pow_succ]
    split <;> omega
theorem mk_inj {P Q : Nat → Bool} : ∀ k, mk_n P k = mk_n Q k → ∀ i, i < k → P i = Q i := by
  intro k
  induction k with
  | zero => intro _ i hi; omega
  | succ k ih =>
    intro e i hi
    have e : 2 * mk_n P k + (if P k then 1 else 0) = 2 * mk_n Q k + (if Q k then 1 else 0) := e
    rcases (by omega : i < k ∨ i = k) with h | h
    · refine ih ?_ i h
      revert e
      split <;> split <;> intro e <;> omega
    · subst h
      revert e
      cases P i <;> cases Q i <;> simp <;> omega
theorem mk_zero (k : Nat) : mk_n (fun _ => false) k = 0 := by
  induction k with
  | zero => rfl
  | succ k ih => show 2 * mk_n (fun _ => false) k + 0 = 0; rw [ih]
