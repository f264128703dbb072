/-! LITERALS, CLAUSES, TRAILS: the mathematics, over functions of whole numbers -/
theorem op_mod (l : Int) : pm_op l % 2 = 1 - l % 2 := by unfold pm_op; split <;> omega
theorem op_div (l : Int) : pm_op l / 2 = l / 2 := by unfold pm_op; split <;> omega
theorem op_op (l : Int) : pm_op (pm_op l) = l := by
  have h1 := op_mod l
  have h2 := op_div l
  have h3 := op_mod (pm_op l)
  have h4 := op_div (pm_op l)
  omega
theorem op_ne (l : Int) : pm_op l ≠ l := by have := op_mod l; intro h; rw [h] at this; omega
theorem op_inj {a b : Int} (h : pm_op a = pm_op b) : a = b := by rw [← op_op a, h, op_op]
theorem op_lo {l : Int} (h : 0 ≤ l) : 0 ≤ pm_op l := by have := op_div l; omega
theorem op_hi {l n : Int} (h : l < 2 * n) : pm_op l < 2 * n := by have := op_div l; omega
theorem op_two (f : Int) : pm_op (2 * f) = 2 * f + 1 := by unfold pm_op; rw [if_pos (by omega)]
theorem op_two1 (f : Int) : pm_op (2 * f + 1) = 2 * f := by unfold pm_op; rw [if_neg (by omega)]; omega
/-- same formula: the same literal or the opposite one -/
theorem op_or {a b : Int} (h : a / 2 = b / 2) : a = b ∨ a = pm_op b := by
  have h1 := op_mod b
  have h2 := op_div b
  rcases (by omega : a % 2 = b % 2 ∨ a % 2 = 1 - b % 2) with h3 | h3
  · exact Or.inl (by omega)
  · exact Or.inr (by omega)
/-- does a literal hold, where V says which formulas are true -/
def tv (V : Int → Bool) (l : Int) : Bool := if l % 2 = 0 then V (l / 2) else !(V (l / 2))
theorem tv_op (V : Int → Bool) (l : Int) : tv V (pm_op l) = !(tv V l) := by
  unfold tv
  rw [op_div, op_mod]
  by_cases h : l % 2 = 0
  · rw [if_neg (by omega), if_pos h]
  · rw [if_pos (by omega), if_neg h, Bool.not_not]
theorem tv_two (V : Int → Bool) (f : Int) : tv V (2 * f) = V f := by
  unfold tv
  rw [if_pos (by omega), show 2 * f / 2 = f by omega]
theorem tv_two1 (V : Int → Bool) (f : Int) : tv V (2 * f + 1) = !(V f) := by
  unfold tv
  rw [if_neg (by omega), show (2 * f + 1) / 2 = f by omega]
/-- a function changed at one place -/
def upf (f : Int → Int) (j x : Int) : Int → Int := fun b => if b = j then x else f b
theorem upf_e (f : Int → Int) (j x : Int) : upf f j x j = x := by unfold upf; rw [if_pos rfl]
theorem upf_n (f : Int → Int) {j b : Int} (x : Int) (h : b ≠ j) : upf f j x b = f b := by unfold upf; rw [if_neg h]
theorem pm_cell (M : pm_M) (c : Nat) (j x : Int) (a : Nat) : pm_set M c j x a = if a = c then upf (M a) j x else M a := by
  funext b
  unfold pm_set upf
  by_cases h : a = c
  · rw [if_pos h]
    by_cases hb : b = j
    · rw [if_pos ⟨h, hb⟩, if_pos hb]
    · rw [if_neg (fun z => hb z.2), if_neg hb]
  · rw [if_neg h, if_neg (fun z => h z.1)]
/-- the literals of a clause -/
def inC (lits st : Int → Int) (c l : Int) : Prop := ∃ i, st c ≤ i ∧ i < st (c + 1) ∧ lits i = l
/-- on the trail -/
def onT (o : Int → Int) (n l : Int) : Prop := ∃ i, 0 ≤ i ∧ i < n ∧ o i = l
/-- the trail: formulas apart; levels; tried literals; forced ones and their clauses -/
def TR (K : Int → Int → Prop) (tot : Int) (o : Int → Int) (n : Int) (fb ls : Int → Int) (lv : Int) : Prop :=
  (∀ i j, 0 ≤ i → i < n → 0 ≤ j → j < n → o i / 2 = o j / 2 → i = j) ∧
  (∀ t, 0 ≤ t → t < lv → 0 ≤ ls t ∧ ls t < n) ∧
  (∀ t u, 0 ≤ t → t < u → u < lv → ls t < ls u) ∧
  (∀ t, 0 ≤ t → t < lv → fb (o (ls t)) = -1) ∧
  (∀ i, 0 ≤ i → i < n → fb (o i) = -1 → ∃ t, 0 ≤ t ∧ t < lv ∧ i = ls t) ∧
  (∀ i, 0 ≤ i → i < n → fb (o i) ≠ -1 → (0 ≤ fb (o i) ∧ fb (o i) < tot) ∧ K (fb (o i)) (o i) ∧ ∀ l, K (fb (o i)) l → l ≠ o i → ∃ j, 0 ≤ j ∧ j < i ∧ o j = pm_op l) ∧
  (∀ i t, 0 ≤ i → i < n → 0 ≤ t → t < lv → ls t < i → (t + 1 < lv → i < ls (t + 1)) → ∃ l j, K (fb (o i)) l ∧ l ≠ o i ∧ ls t ≤ j ∧ j < i ∧ o j = pm_op l) ∧
  (∀ t c, 0 ≤ t → t < lv → 0 ≤ c → c < tot → ∃ l, K c l ∧ l ≠ pm_op (o (ls t)) ∧ ¬ ∃ j, 0 ≤ j ∧ j < ls t ∧ o j = pm_op l)
section TRL
variable {K : Int → Int → Prop} {tot n lv : Int} {o fb ls : Int → Int}
theorem TR.inj (h : TR K tot o n fb ls lv) {i j : Int} (h1 : 0 ≤ i) (h2 : i < n) (h3 : 0 ≤ j) (h4 : j < n) (e : o i / 2 = o j / 2) : i = j := h.1 i j h1 h2 h3 h4 e
/-- never a literal and its opposite -/
theorem TR.two (h : TR K tot o n fb ls lv) {l : Int} (h1 : onT o n l) (h2 : onT o n (pm_op l)) : False := by
  obtain ⟨i, a1, a2, a3⟩ := h1
  obtain ⟨j, b1, b2, b3⟩ := h2
  have e := h.inj a1 a2 b1 b2 (by rw [a3, b3, op_div])
  subst e
  exact op_ne l (b3.symm.trans a3)
/-- what holds on the trail follows from the tried ones: V makes all clauses true, and all that were tried up to m -/
theorem TR.imp (h : TR K tot o n fb ls lv) {V : Int → Bool} (hV : ∀ c, 0 ≤ c → c < tot → ∃ l, K c l ∧ tv V l = true) {m : Int} (hm : m ≤ n) (hd : ∀ t, 0 ≤ t → t < lv → ls t < m → tv V (o (ls t)) = true) :
    ∀ (k : Nat) (i : Int), i.toNat = k → 0 ≤ i → i < m → tv V (o i) = true := by
  intro k
  induction k using Nat.strongRecOn with
  | _ k ih =>
    intro i hk h0 hi
    by_cases hf : fb (o i) = -1
    · obtain ⟨t, t0, t1, rfl⟩ := h.2.2.2.2.1 i h0 (by omega) hf
      exact hd t t0 t1 hi
    · obtain ⟨⟨c0, c1⟩, -, hc⟩ := h.2.2.2.2.2.1 i h0 (by omega) hf
      obtain ⟨l, hl, hv⟩ := hV _ c0 c1
      by_cases e : l = o i
      · rw [← e]; exact hv
      · obtain ⟨j, j0, j1, j2⟩ := hc l hl e
        have := ih j.toNat (by omega) j rfl j0 (by omega)
        rw [j2, tv_op, hv] at this
        cases this
/-- involved formulas: closed under reasons; then if V makes all involved tried ones true it makes all involved ones true -/
theorem TR.inv (h : TR K tot o n fb ls lv) {V : Int → Bool} (hV : ∀ c, 0 ≤ c → c < tot → ∃ l, K c l ∧ tv V l = true) {I : Int → Prop}
    (hI : ∀ i, 0 ≤ i → i < n → I (o i / 2) → fb (o i) ≠ -1 → ∀ l, K (fb (o i)) l → I (l / 2))
    (hd : ∀ i, 0 ≤ i → i < n → I (o i / 2) → fb (o i) = -1 → tv V (o i) = true) :
    ∀ (k : Nat) (i : Int), i.toNat = k → 0 ≤ i → i < n → I (o i / 2) → tv V (o i) = true := by
  intro k
  induction k using Nat.strongRecOn with
  | _ k ih =>
    intro i hk h0 hi hin
    by_cases hf : fb (o i) = -1
    · exact hd i h0 hi hin hf
    · obtain ⟨⟨c0, c1⟩, -, hc⟩ := h.2.2.2.2.2.1 i h0 hi hf
      obtain ⟨l, hl, hv⟩ := hV _ c0 c1
      by_cases e : l = o i
      · rw [← e]; exact hv
      · obtain ⟨j, j0, j1, j2⟩ := hc l hl e
        have := ih j.toNat (by omega) j rfl j0 (by omega) (by rw [j2, op_div]; exact hI i h0 hi hin hf l hl)
        rw [j2, tv_op, hv] at this
        cases this
/-- the last tried one is involved, if anything from it on is -/
theorem TR.top (h : TR K tot o n fb ls lv) {I : Int → Prop} (hI : ∀ i, 0 ≤ i → i < n → I (o i / 2) → fb (o i) ≠ -1 → ∀ l, K (fb (o i)) l → I (l / 2)) (hlv : 0 < lv) :
    ∀ (k : Nat) (i : Int), i.toNat = k → ls (lv - 1) ≤ i → i < n → I (o i / 2) → I (o (ls (lv - 1)) / 2) := by
  intro k
  induction k using Nat.strongRecOn with
  | _ k ih =>
    intro i hk h0 hi hin
    have hp := h.2.1 (lv - 1) (by omega) (by omega)
    by_cases e : i = ls (lv - 1)
    · rw [← e]; exact hin
    · have hf : fb (o i) ≠ -1 := by
        intro z
        obtain ⟨t, t0, t1, rfl⟩ := h.2.2.2.2.1 i (by omega) hi z
        rcases (by omega : t = lv - 1 ∨ t < lv - 1) with q | q
        · subst q; exact e rfl
        · have := h.2.2.1 t (lv - 1) t0 q (by omega); omega
      obtain ⟨l, j, hl, hne, j0, j1, j2⟩ := h.2.2.2.2.2.2.1 i (lv - 1) (by omega) hi (by omega) (by omega) (by omega) (fun z => by omega)
      exact ih j.toNat (by omega) j rfl j0 (by omega) (by rw [j2, op_div]; exact hI i (by omega) hi hin hf l hl)
end TRL
section TRM
variable {K : Int → Int → Prop} {tot n lv : Int} {o fb ls : Int → Int}
/-- a literal is forced -/
theorem TR.hold (h : TR K tot o n fb ls lv) {l c : Int} (hl : ∀ i, 0 ≤ i → i < n → o i / 2 ≠ l / 2) (hc : 0 ≤ c ∧ c < tot) (hk : K c l)
    (hf : ∀ l', K c l' → l' ≠ l → ∃ j, 0 ≤ j ∧ j < n ∧ o j = pm_op l') (h6 : 0 < lv → ∃ l' j, K c l' ∧ l' ≠ l ∧ ls (lv - 1) ≤ j ∧ j < n ∧ o j = pm_op l') :
    TR K tot (upf o n l) (n + 1) (upf fb l c) ls lv := by
  have ho : ∀ i, i < n → upf o n l i = o i := fun i hi => upf_n _ _ (by omega)
  have hfb : ∀ i, 0 ≤ i → i < n → upf fb l c (o i) = fb (o i) := fun i h0 hi => upf_n _ _ (fun z => hl i h0 hi (by rw [z]))
  have on : upf o n l n = l := upf_e _ _ _
  have fl : upf fb l c l = c := upf_e _ _ _
  obtain ⟨a1, a2, a3, a4, a5, a6, a7, a8⟩ := h
  refine ⟨?_, ?_, a3, ?_, ?_, ?_, ?_, ?_⟩
  · intro i j i0 i1 j0 j1 e
    rcases (by omega : i < n ∨ i = n) with hi | hi <;> rcases (by omega : j < n ∨ j = n) with hj | hj
    · rw [ho i hi, ho j hj] at e; exact a1 i j i0 hi j0 hj e
    · subst hj; rw [ho i hi, on] at e; exact absurd e (hl i i0 hi)
    · subst hi; rw [ho j hj, on] at e; exact absurd e.symm (hl j j0 hj)
    · omega
  · intro t t0 t1; have := a2 t t0 t1; omega
  · intro t t0 t1
    have := a2 t t0 t1
    rw [ho _ this.2, hfb _ this.1 this.2]
    exact a4 t t0 t1
  · intro i i0 i1 e
    rcases (by omega : i < n ∨ i = n) with hi | hi
    · rw [ho i hi, hfb i i0 hi] at e; exact a5 i i0 hi e
    · subst hi; rw [on, fl] at e; omega
  · intro i i0 i1 e
    rcases (by omega : i < n ∨ i = n) with hi | hi
    · rw [ho i hi, hfb i i0 hi] at e ⊢
      obtain ⟨b1, b2, b3⟩ := a6 i i0 hi e
      refine ⟨b1, b2, fun l' k1 k2 => ?_⟩
      obtain ⟨j, j0, j1, j2⟩ := b3 l' k1 k2
      exact ⟨j, j0, j1, by rw [ho j (by omega)]; exact j2⟩
    · subst hi
      rw [on, fl]
      refine ⟨hc, hk, fun l' k1 k2 => ?_⟩
      obtain ⟨j, j0, j1, j2⟩ := hf l' k1 k2
      exact ⟨j, j0, j1, by rw [ho j (by omega)]; exact j2⟩
  · intro i t i0 i1 t0 t1 e1 e2
    rcases (by omega : i < n ∨ i = n) with hi | hi
    · rw [ho i hi, hfb i i0 hi]
      obtain ⟨l', j, b1, b2, b3, b4, b5⟩ := a7 i t i0 hi t0 t1 e1 e2
      exact ⟨l', j, b1, b2, b3, b4, by rw [ho j (by omega)]; exact b5⟩
    · subst hi
      rw [on, fl]
      have ht : t = lv - 1 := by
        rcases (by omega : t = lv - 1 ∨ t + 1 < lv) with q | q
        · exact q
        · have := e2 q; have := a2 (t + 1) (by omega) q; omega
      subst ht
      obtain ⟨l', j, b1, b2, b3, b4, b5⟩ := h6 (by omega)
      exact ⟨l', j, b1, b2, b3, b4, by rw [ho j (by omega)]; exact b5⟩
  · intro t c' t0 t1 c0 c1
    have := a2 t t0 t1
    rw [ho _ this.2]
    obtain ⟨l', b1, b2, b3⟩ := a8 t c' t0 t1 c0 c1
    refine ⟨l', b1, b2, fun ⟨j, j0, j1, j2⟩ => b3 ⟨j, j0, j1, ?_⟩⟩
    rw [ho j (by omega)] at j2
    exact j2
/-- a literal is tried -/
theorem TR.attempt (h : TR K tot o n fb ls lv) (hn : 0 ≤ n) (hlv : 0 ≤ lv) {l : Int} (hl : ∀ i, 0 ≤ i → i < n → o i / 2 ≠ l / 2)
    (hD : ∀ c, 0 ≤ c → c < tot → ∃ l', K c l' ∧ l' ≠ pm_op l ∧ ¬ ∃ j, 0 ≤ j ∧ j < n ∧ o j = pm_op l') :
    TR K tot (upf o n l) (n + 1) (upf fb l (-1)) (upf ls lv n) (lv + 1) := by
  have ho : ∀ i, i < n → upf o n l i = o i := fun i hi => upf_n _ _ (by omega)
  have hfb : ∀ i, 0 ≤ i → i < n → upf fb l (-1) (o i) = fb (o i) := fun i h0 hi => upf_n _ _ (fun z => hl i h0 hi (by rw [z]))
  have on : upf o n l n = l := upf_e _ _ _
  have fl : upf fb l (-1) l = -1 := upf_e _ _ _
  have hls : ∀ t, t < lv → upf ls lv n t = ls t := fun t ht => upf_n _ _ (by omega)
  have ll : upf ls lv n lv = n := upf_e _ _ _
  obtain ⟨a1, a2, a3, a4, a5, a6, a7, a8⟩ := h
  refine ⟨?_, ?_, ?_, ?_, ?_, ?_, ?_, ?_⟩
  · intro i j i0 i1 j0 j1 e
    rcases (by omega : i < n ∨ i = n) with hi | hi <;> rcases (by omega : j < n ∨ j = n) with hj | hj
    · rw [ho i hi, ho j hj] at e; exact a1 i j i0 hi j0 hj e
    · subst hj; rw [ho i hi, on] at e; exact absurd e (hl i i0 hi)
    · subst hi; rw [ho j hj, on] at e; exact absurd e.symm (hl j j0 hj)
    · omega
  · intro t t0 t1
    rcases (by omega : t < lv ∨ t = lv) with ht | ht
    · rw [hls t ht]; have := a2 t t0 ht; omega
    · subst ht; rw [ll]; omega
  · intro t u t0 h1 u1
    rcases (by omega : u < lv ∨ u = lv) with hu | hu
    · rw [hls t (by omega), hls u hu]; exact a3 t u t0 h1 hu
    · subst hu; rw [hls t (by omega), ll]; exact (a2 t t0 (by omega)).2
  · intro t t0 t1
    rcases (by omega : t < lv ∨ t = lv) with ht | ht
    · have := a2 t t0 ht
      rw [hls t ht, ho _ this.2, hfb _ this.1 this.2]
      exact a4 t t0 ht
    · subst ht; rw [ll, on, fl]
  · intro i i0 i1 e
    rcases (by omega : i < n ∨ i = n) with hi | hi
    · rw [ho i hi, hfb i i0 hi] at e
      obtain ⟨t, t0, t1, t2⟩ := a5 i i0 hi e
      exact ⟨t, t0, by omega, by rw [hls t t1]; exact t2⟩
    · exact ⟨lv, hlv, by omega, by rw [ll]; exact hi⟩
  · intro i i0 i1 e
    rcases (by omega : i < n ∨ i = n) with hi | hi
    · rw [ho i hi, hfb i i0 hi] at e ⊢
      obtain ⟨b1, b2, b3⟩ := a6 i i0 hi e
      refine ⟨b1, b2, fun l' k1 k2 => ?_⟩
      obtain ⟨j, j0, j1, j2⟩ := b3 l' k1 k2
      exact ⟨j, j0, j1, by rw [ho j (by omega)]; exact j2⟩
    · subst hi; rw [on, fl] at e; exact absurd rfl e
  · intro i t i0 i1 t0 t1 e1 e2
    rcases (by omega : t < lv ∨ t = lv) with ht | ht
    · rw [hls t ht] at e1
      have hi : i < n := by
        rcases (by omega : t + 1 < lv ∨ t + 1 = lv) with q | q
        · have h9 := e2 (by omega); rw [hls _ q] at h9; have := a2 (t + 1) (by omega) q; omega
        · have h9 := e2 (by omega); rw [q, ll] at h9; exact h9
      rw [ho i hi, hfb i i0 hi]
      obtain ⟨l', j, b1, b2, b3, b4, b5⟩ := a7 i t i0 hi t0 ht e1 (fun q => by have h9 := e2 (by omega); rw [hls _ q] at h9; exact h9)
      exact ⟨l', j, b1, b2, by rw [hls t ht]; exact b3, b4, by rw [ho j (by omega)]; exact b5⟩
    · subst ht; rw [ll] at e1; omega
  · intro t c' t0 t1 c0 c1
    rcases (by omega : t < lv ∨ t = lv) with ht | ht
    · have := a2 t t0 ht
      rw [hls t ht, ho _ this.2]
      obtain ⟨l', b1, b2, b3⟩ := a8 t c' t0 ht c0 c1
      refine ⟨l', b1, b2, fun ⟨j, j0, j1, j2⟩ => b3 ⟨j, j0, j1, ?_⟩⟩
      rw [ho j (by omega)] at j2
      exact j2
    · subst ht
      rw [ll, on]
      obtain ⟨l', b1, b2, b3⟩ := hD c' c0 c1
      refine ⟨l', b1, b2, fun ⟨j, j0, j1, j2⟩ => b3 ⟨j, j0, j1, ?_⟩⟩
      rw [ho j (by omega)] at j2
      exact j2
/-- levels are taken back -/
theorem TR.cut (h : TR K tot o n fb ls lv) {n' lv' : Int} (h1 : n' ≤ n) (h2 : lv' ≤ lv) (h3 : ∀ t, 0 ≤ t → t < lv' → ls t < n') (h4 : ∀ t, 0 ≤ t → lv' ≤ t → t < lv → n' ≤ ls t) : TR K tot o n' fb ls lv' := by
  obtain ⟨a1, a2, a3, a4, a5, a6, a7, a8⟩ := h
  refine ⟨fun i j i0 i1 j0 j1 e => a1 i j i0 (by omega) j0 (by omega) e, fun t t0 t1 => ⟨(a2 t t0 (by omega)).1, h3 t t0 t1⟩, fun t u t0 q u1 => a3 t u t0 q (by omega), fun t t0 t1 => a4 t t0 (by omega), ?_, fun i i0 i1 e => a6 i i0 (by omega) e, ?_, fun t c t0 t1 c0 c1 => a8 t c t0 (by omega) c0 c1⟩
  · intro i i0 i1 e
    obtain ⟨t, t0, t1, t2⟩ := a5 i i0 (by omega) e
    refine ⟨t, t0, ?_, t2⟩
    rcases (by omega : t < lv' ∨ lv' ≤ t) with q | q
    · exact q
    · have := h4 t t0 q t1; omega
  · intro i t i0 i1 t0 t1 e1 e2
    refine a7 i t i0 (by omega) t0 (by omega) e1 (fun q => ?_)
    rcases (by omega : t + 1 < lv' ∨ lv' ≤ t + 1) with r | r
    · exact e2 r
    · have := h4 (t + 1) (by omega) r q; omega
/-- a clause more -/
theorem TR.more (h : TR K tot o n fb ls lv) {K' : Int → Int → Prop} (hK : ∀ c l, 0 ≤ c → c < tot → (K' c l ↔ K c l)) (hD : ∀ t, 0 ≤ t → t < lv → ∃ l, K' tot l ∧ l ≠ pm_op (o (ls t)) ∧ ¬ ∃ j, 0 ≤ j ∧ j < ls t ∧ o j = pm_op l) : TR K' (tot + 1) o n fb ls lv := by
  obtain ⟨a1, a2, a3, a4, a5, a6, a7, a8⟩ := h
  refine ⟨a1, a2, a3, a4, a5, ?_, ?_, ?_⟩
  · intro i i0 i1 e
    obtain ⟨b1, b2, b3⟩ := a6 i i0 i1 e
    exact ⟨⟨b1.1, by omega⟩, (hK _ _ b1.1 b1.2).mpr b2, fun l k1 k2 => b3 l ((hK _ _ b1.1 b1.2).mp k1) k2⟩
  · intro i t i0 i1 t0 t1 e1 e2
    obtain ⟨l, j, b1, b2⟩ := a7 i t i0 i1 t0 t1 e1 e2
    have hf : fb (o i) ≠ -1 := by
      intro z
      obtain ⟨u, u0, u1, u2⟩ := a5 i i0 i1 z
      rcases (by omega : u ≤ t ∨ t + 1 = u ∨ t + 1 < u) with q | q | q
      · rcases (by omega : u = t ∨ u < t) with r | r
        · subst r; omega
        · have := a3 u t u0 r t1; omega
      · subst q; have := e2 u1; omega
      · have := e2 (by omega); have := a3 (t + 1) u (by omega) q u1; omega
    obtain ⟨c1, -, -⟩ := a6 i i0 i1 hf
    exact ⟨l, j, (hK _ _ c1.1 c1.2).mpr b1, b2⟩
  · intro t c t0 t1 c0 c1
    rcases (by omega : c < tot ∨ c = tot) with q | q
    · obtain ⟨l, b1, b2⟩ := a8 t c t0 t1 c0 q
      exact ⟨l, (hK _ _ c0 q).mpr b1, b2⟩
    · subst q; exact hD t t0 t1
/-- the same clauses, otherwise laid -/
theorem TR.same (h : TR K tot o n fb ls lv) {K' : Int → Int → Prop} (hK : ∀ c l, 0 ≤ c → c < tot → (K' c l ↔ K c l)) : TR K' tot o n fb ls lv := by
  obtain ⟨a1, a2, a3, a4, a5, a6, a7, a8⟩ := h
  refine ⟨a1, a2, a3, a4, a5, ?_, ?_, ?_⟩
  · intro i i0 i1 e
    obtain ⟨b1, b2, b3⟩ := a6 i i0 i1 e
    exact ⟨b1, (hK _ _ b1.1 b1.2).mpr b2, fun l k1 k2 => b3 l ((hK _ _ b1.1 b1.2).mp k1) k2⟩
  · intro i t i0 i1 t0 t1 e1 e2
    obtain ⟨l, j, b1, b2⟩ := a7 i t i0 i1 t0 t1 e1 e2
    have hf : fb (o i) ≠ -1 := by
      intro z
      obtain ⟨u, u0, u1, u2⟩ := a5 i i0 i1 z
      rcases (by omega : u ≤ t ∨ t + 1 = u ∨ t + 1 < u) with q | q | q
      · rcases (by omega : u = t ∨ u < t) with r | r
        · subst r; omega
        · have := a3 u t u0 r t1; omega
      · subst q; have := e2 u1; omega
      · have := e2 (by omega); have := a3 (t + 1) u (by omega) q u1; omega
    obtain ⟨c1, -, -⟩ := a6 i i0 i1 hf
    exact ⟨l, j, (hK _ _ c1.1 c1.2).mpr b1, b2⟩
  · intro t c t0 t1 c0 c1
    obtain ⟨l, b1, b2⟩ := a8 t c t0 t1 c0 c1
    exact ⟨l, (hK _ _ c0 c1).mpr b1, b2⟩
end TRM
