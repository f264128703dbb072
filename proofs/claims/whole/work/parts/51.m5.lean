/-! CHAINS of watches -/
def Ch (nw : Int → Int) : Int → List Int → Prop
  | w, [] => w = -1
  | w, x :: xs => w = x ∧ 0 ≤ x ∧ Ch nw (nw x) xs
theorem Ch.upd {nw : Int → Int} {j v : Int} : ∀ (l : List Int) (w : Int), Ch nw w l → j ∉ l → Ch (upf nw j v) w l := by
  intro l
  induction l with
  | nil => intro w h _; exact h
  | cons x xs ih =>
    intro w h hj
    obtain ⟨h1, h2, h3⟩ := h
    refine ⟨h1, h2, ?_⟩
    rw [upf_n _ _ (fun z => hj (by rw [z]; exact List.mem_cons_self))]
    exact ih _ h3 (fun z => hj (List.mem_cons_of_mem _ z))
theorem Ch.neg {nw : Int → Int} {w : Int} {l : List Int} (h : Ch nw w l) (hw : w = -1) : l = [] := by
  cases l with
  | nil => rfl
  | cons x xs => obtain ⟨h1, h2, -⟩ := h; omega
theorem Ch.pos {nw : Int → Int} {w : Int} {l : List Int} (h : Ch nw w l) (hw : w ≠ -1) : ∃ xs, l = w :: xs ∧ 0 ≤ w ∧ Ch nw (nw w) xs := by
  cases l with
  | nil => exact absurd h hw
  | cons x xs => obtain ⟨h1, h2, h3⟩ := h; subst h1; exact ⟨xs, rfl, h2, h3⟩
/-- the place behind a first part -/
theorem Ch.mid {nw : Int → Int} : ∀ (pre : List Int) (w : Int) (post : List Int), Ch nw w (pre ++ post) → ∃ v, Ch nw v post ∧ ((pre = [] ∧ v = w) ∨ ∃ q b, pre = q ++ [b] ∧ v = nw b) := by
  intro pre
  induction pre with
  | nil => intro w post h; exact ⟨w, h, Or.inl ⟨rfl, rfl⟩⟩
  | cons x xs ih =>
    intro w post h
    obtain ⟨h1, h2, h3⟩ := h
    obtain ⟨v, a, b⟩ := ih _ _ h3
    refine ⟨v, a, Or.inr ?_⟩
    rcases b with ⟨b1, b2⟩ | ⟨q, b, b1, b2⟩
    · exact ⟨[], x, by rw [b1]; rfl, b2⟩
    · exact ⟨x :: q, b, by rw [b1]; rfl, b2⟩
/-- a last link turned elsewhere -/
theorem Ch.turn {nw : Int → Int} {b v : Int} : ∀ (q : List Int) (w : Int) (post post' : List Int), Ch nw w (q ++ [b] ++ post) → (q ++ [b]).Nodup → b ∉ post' → Ch nw v post' → Ch (upf nw b v) w (q ++ [b] ++ post') := by
  intro q
  induction q with
  | nil =>
    intro w post post' h hn hb hp
    obtain ⟨h1, h2, h3⟩ := h
    refine ⟨h1, h2, ?_⟩
    rw [upf_e]
    exact Ch.upd _ _ hp hb
  | cons x xs ih =>
    intro w post post' h hn hb hp
    obtain ⟨h1, h2, h3⟩ := h
    have hn2 := List.nodup_cons.mp hn
    refine ⟨h1, h2, ?_⟩
    rw [upf_n _ _ (fun z => hn2.1 (by rw [z]; exact List.mem_append_right _ List.mem_cons_self))]
    exact ih _ _ _ h3 hn2.2 hb hp
/-- two places of a row changed with one another -/
def swp (f : Int → Int) (a b : Int) : Int → Int := upf (upf f b (f a)) a (f b)
theorem swp_a (f : Int → Int) (a b : Int) : swp f a b a = f b := upf_e _ _ _
theorem swp_b {f : Int → Int} {a b : Int} (h : b ≠ a) : swp f a b b = f a := by unfold swp; rw [upf_n _ _ h, upf_e]
theorem swp_o {f : Int → Int} {a b x : Int} (h1 : x ≠ a) (h2 : x ≠ b) : swp f a b x = f x := by unfold swp; rw [upf_n _ _ h1, upf_n _ _ h2]
theorem swp_in {lits st : Int → Int} {c a b : Int} (h1 : st c ≤ a) (h2 : a < st (c + 1)) (h3 : st c ≤ b) (h4 : b < st (c + 1)) (hab : b ≠ a) {l : Int} : inC (swp lits a b) st c l ↔ inC lits st c l := by
  constructor
  · rintro ⟨i, i1, i2, i3⟩
    by_cases e1 : i = a
    · subst e1; rw [swp_a] at i3; exact ⟨b, h3, h4, i3⟩
    · by_cases e2 : i = b
      · subst e2; rw [swp_b hab] at i3; exact ⟨a, h1, h2, i3⟩
      · rw [swp_o e1 e2] at i3; exact ⟨i, i1, i2, i3⟩
  · rintro ⟨i, i1, i2, i3⟩
    by_cases e1 : i = a
    · subst e1; exact ⟨b, h3, h4, by rw [swp_b hab]; exact i3⟩
    · by_cases e2 : i = b
      · subst e2; exact ⟨a, h1, h2, by rw [swp_a]; exact i3⟩
      · exact ⟨i, i1, i2, by rw [swp_o e1 e2]; exact i3⟩
/-- the rows of literals -/
def CD (lits st : Int → Int) (tot used F : Int) : Prop :=
  0 ≤ tot ∧ tot ≤ 16116 ∧ st 0 = 0 ∧ st tot = used ∧ used ≤ 85212 ∧ (∀ c, 0 ≤ c → c < tot → st c ≤ st (c + 1)) ∧ ∀ i, 0 ≤ i → i < used → 2 ≤ lits i ∧ lits i < 2 * F
theorem CD.le {lits st : Int → Int} {tot used F : Int} (h : CD lits st tot used F) : ∀ (k : Nat) (a : Int), 0 ≤ a → a + k ≤ tot → st a ≤ st (a + k) := by
  intro k
  induction k with
  | zero => intro a _ _; rw [show a + ((0 : Nat) : Int) = a by omega]; exact Int.le_refl _
  | succ k ih =>
    intro a h0 h1
    have h2 := ih a h0 (by omega)
    have h3 := h.2.2.2.2.2.1 (a + k) (by omega) (by omega)
    rw [show a + ((k + 1 : Nat) : Int) = a + k + 1 by omega]
    omega
theorem CD.mon {lits st : Int → Int} {tot used F : Int} (h : CD lits st tot used F) {a b : Int} (h0 : 0 ≤ a) (h1 : a ≤ b) (h2 : b ≤ tot) : st a ≤ st b := by
  have := h.le (b - a).toNat a h0 (by omega)
  rw [show a + ((b - a).toNat : Int) = b by omega] at this
  exact this
theorem CD.at {lits st : Int → Int} {tot used F : Int} (h : CD lits st tot used F) {c : Int} (c0 : 0 ≤ c) (c1 : c < tot) : 0 ≤ st c ∧ st c ≤ st (c + 1) ∧ st (c + 1) ≤ used := by
  have h1 := h.mon (a := 0) (b := c) (by omega) c0 (by omega)
  have h2 := h.mon (a := c + 1) (b := tot) (by omega) (by omega) (Int.le_refl _)
  have h3 := h.2.2.2.2.2.1 c c0 c1
  have h4 := h.2.2.1
  have h5 := h.2.2.2.1
  omega
/-- two clauses' rows are apart -/
theorem CD.apart {lits st : Int → Int} {tot used F : Int} (h : CD lits st tot used F) {c d i : Int} (c0 : 0 ≤ c) (c1 : c < tot) (d0 : 0 ≤ d) (d1 : d < tot) (h1 : st c ≤ i) (h2 : i < st (c + 1)) (h3 : st d ≤ i) (h4 : i < st (d + 1)) : c = d := by
  rcases (by omega : c = d ∨ c < d ∨ d < c) with z | z | z
  · exact z
  · have := h.mon (a := c + 1) (b := d) (by omega) (by omega) (by omega); omega
  · have := h.mon (a := d + 1) (b := c) (by omega) (by omega) (by omega); omega
/-- the chains: which watches hang on which literal -/
def CH (fw nw lits st : Int → Int) (tot F : Int) (C : Int → List Int) : Prop :=
  (∀ l, 0 ≤ l → l < 2 * F → Ch nw (fw l) (C l) ∧ (C l).Nodup) ∧
  (∀ l w, 0 ≤ l → l < 2 * F → w ∈ C l → 0 ≤ w ∧ w / 2 < tot ∧ st (w / 2) + 2 ≤ st (w / 2 + 1) ∧ lits (st (w / 2) + w % 2) = l) ∧
  (∀ w, 0 ≤ w → w / 2 < tot → st (w / 2) + 2 ≤ st (w / 2 + 1) → w ∈ C (lits (st (w / 2) + w % 2)))
/-- a list of different numbers under a bound isn't long -/
theorem nd_len : ∀ (l : List Int) (m : Nat), l.Nodup → (∀ w ∈ l, 0 ≤ w ∧ w < m) → l.length ≤ m := by
  intro l m hn hb
  refine ph_le m l.length (fun i => (l.getD i 0).toNat) (fun i hi => ?_) (fun i j hij hj => ?_)
  · have h1 : l.getD i 0 = l[i] := by rw [List.getD_eq_getElem?_getD, List.getElem?_eq_getElem hi]; rfl
    have h2 := hb _ (List.getElem_mem hi)
    show (l.getD i 0).toNat < m
    rw [h1]
    omega
  · have hi : i < l.length := by omega
    have h1 : l.getD i 0 = l[i] := by rw [List.getD_eq_getElem?_getD, List.getElem?_eq_getElem hi]; rfl
    have h2 : l.getD j 0 = l[j] := by rw [List.getD_eq_getElem?_getD, List.getElem?_eq_getElem hj]; rfl
    have h3 := hb _ (List.getElem_mem hi)
    have h4 := hb _ (List.getElem_mem hj)
    show (l.getD i 0).toNat ≠ (l.getD j 0).toNat
    rw [h1, h2]
    intro z
    have h5 : l[i] = l[j] := by omega
    exact (List.pairwise_iff_getElem.mp hn) i j hi hj hij h5
