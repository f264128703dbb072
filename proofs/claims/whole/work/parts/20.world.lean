/-! FROM THE PURE MACHINE TO THE MACHINE: values, worlds, locals -/
def pz_v (ad : Nat → Nat) (v : pm_V) : Value := match v with
  | .inl x => .int (Int32.ofInt x)
  | .inr (.inl c) => .ref (ad c)
  | .inr (.inr x) => .long (Int64.ofInt x)
def pz_f (ad : Nat → Nat) (M : pm_M) (c : Nat) (j : Nat) (f : Nat ⊕ Bool) : Value := match f with
  | .inl q => .ref (ad q)
  | .inr _ => .int (Int32.ofInt (M c j))
def pz_a (kd : Nat) (M : pm_M) (c : Nat) : (Nat → Int32) ⊕ (Nat → Int64) ⊕ (Nat → UInt32) ⊕ (Nat → UInt64) ⊕ (Nat → Option Nat) :=
  if kd = 2 then .inr (.inl (fun j => Int64.ofInt (M c j))) else .inl (fun j => Int32.ofInt (M c j))
def pz_e (ad : Nat → Nat) (cA : Nat → ClassId) (M : pm_M) (c : Nat) (d : pm_D) : va_E := match d with
  | .inl a => .inl (cA a.1, a.2, pz_a a.1 M c)
  | .inr o => .inr (o.1, o.2.mapIdx (pz_f ad M c))
def pz_ws (L : Nat) (ad : Nat → Nat) (cA : Nat → ClassId) (M : pm_M) : va_W := ((pm_cells L).take 35).mapIdx (fun c d => (ad c, pz_e ad cA M c d))
def pz_tys (cA : Nat → ClassId) : List (ClassId × FieldType) := [(cA 0, .int), (cA 1, .boolean), (cA 2, .long)]
theorem pz_tk {L c : Nat} {d : pm_D} (h : (pm_cells L)[c]? = some d) (hc : c ≠ 35) : ((pm_cells L).take 35)[c]? = some d := by
  have h1 : c < 36 := (List.getElem?_eq_some_iff.mp h).1
  rw [List.getElem?_take, if_pos (by omega)]
  exact h
theorem pz_no {L c : Nat} {o : Nat × List (Nat ⊕ Bool)} (h : (pm_cells L)[c]? = some (.inr o)) : c ≠ 35 := by
  rintro rfl
  cases (g_35 (L := L)).symm.trans h
theorem pz_nk {L c kd n : Nat} (h : (pm_cells L)[c]? = some (.inl (kd, n))) (hk : kd ≠ 0) : c ≠ 35 := by
  rintro rfl
  cases (g_35 (L := L)).symm.trans h
  exact hk rfl
theorem pz_at {L : Nat} {ad : Nat → Nat} {cA : Nat → ClassId} {M : pm_M} {c : Nat} {d : pm_D} (h : (pm_cells L)[c]? = some d) (hc : c ≠ 35) : (pz_ws L ad cA M)[c]? = some (ad c, pz_e ad cA M c d) := by
  unfold pz_ws
  rw [List.getElem?_mapIdx, pz_tk h hc]
  rfl
theorem pz_to {L : Nat} {ad : Nat → Nat} {cA : Nat → ClassId} {M : pm_M} {c : Nat} {q : Nat × va_E} (h : (pz_ws L ad cA M)[c]? = some q) : ∃ d, (pm_cells L)[c]? = some d ∧ c < 35 ∧ q = (ad c, pz_e ad cA M c d) := by
  unfold pz_ws at h
  rw [List.getElem?_mapIdx, List.getElem?_take] at h
  by_cases hc : c < 35
  · rw [if_pos hc] at h
    cases hd : (pm_cells L)[c]? with
    | none => rw [hd] at h; cases h
    | some d => rw [hd] at h; exact ⟨d, rfl, hc, (Option.some.inj h).symm⟩
  · rw [if_neg hc] at h
    cases h
theorem pz_lt {L c : Nat} {d : pm_D} (h : (pm_cells L)[c]? = some d) : c < 36 := (List.getElem?_eq_some_iff.mp h).1
theorem pz_f_eq {ad : Nat → Nat} {M M' : pm_M} {c : Nat} (h : M' c = M c) : pz_f ad M' c = pz_f ad M c := by
  funext j f
  cases f with
  | inl q => rfl
  | inr b => show Value.int _ = Value.int _; rw [h]
theorem pz_e_eq {ad : Nat → Nat} {cA : Nat → ClassId} {M M' : pm_M} {c : Nat} {d : pm_D} (h : M' c = M c) : pz_e ad cA M' c d = pz_e ad cA M c d := by
  cases d with
  | inl a => unfold pz_e pz_a; rw [h]
  | inr o => unfold pz_e; rw [pz_f_eq h]
theorem pz_set {L : Nat} {ad : Nat → Nat} {cA : Nat → ClassId} {M M' : pm_M} {c : Nat} {d : pm_D} (h : ∀ a, a ≠ c → M' a = M a) (hd : (pm_cells L)[c]? = some d) (h35 : c ≠ 35) : (pz_ws L ad cA M).set c (ad c, pz_e ad cA M' c d) = pz_ws L ad cA M' := by
  apply List.ext_getElem?
  intro i
  rw [List.getElem?_set]
  by_cases hi : c = i
  · subst hi
    have h1 : c < (pz_ws L ad cA M).length := (List.getElem?_eq_some_iff.mp (pz_at (ad := ad) (cA := cA) (M := M) hd h35)).1
    rw [if_pos rfl, if_pos h1, pz_at hd h35]
  · rw [if_neg hi]
    unfold pz_ws
    rw [List.getElem?_mapIdx, List.getElem?_mapIdx]
    cases ((pm_cells L).take 35)[i]? with
    | none => rfl
    | some d' =>
      show some (ad i, pz_e ad cA M i d') = some (ad i, pz_e ad cA M' i d')
      rw [pz_e_eq (h i (fun z => hi z.symm))]
theorem pm_set_off {M : pm_M} {c : Nat} {j x : Int} (a : Nat) (h : a ≠ c) : pm_set M c j x a = M a := by
  funext b
  unfold pm_set
  rw [if_neg (fun z => h z.1)]
/-- the cells that a method may change: the world's, and those that come from sz on -/
def pz_A (ad : Nat → Nat) (sz : Nat) : Nat → Prop := fun q => (∃ c, c < 35 ∧ q = ad c) ∨ sz ≤ q
def pz_W (ad : Nat → Nat) : Nat → Prop := fun q => ∃ c, c < 35 ∧ q = ad c
def pz_inj (ad : Nat → Nat) : Prop := ∀ i j, i < 36 → j < 36 → ad i = ad j → i = j
theorem pz_D {L : Nat} {ad : Nat → Nat} {cA : Nat → ClassId} {M : pm_M} (h : pz_inj ad) (sz : Nat) : va_D (pz_A ad sz) (pz_ws L ad cA M) := by
  refine ⟨fun i j p q hp hq e => ?_, fun k q hq => ?_⟩
  · obtain ⟨d, h1, -, rfl⟩ := pz_to hp
    obtain ⟨d', h2, -, rfl⟩ := pz_to hq
    exact h i j (pz_lt h1) (pz_lt h2) e
  · obtain ⟨d, h1, h2, rfl⟩ := pz_to hq
    exact Or.inl ⟨k, h2, rfl⟩
/-- the script's cell isn't among those that change -/
theorem pz_b35 {ad : Nat → Nat} {sz : Nat} (h : pz_inj ad) (hb : ad 35 < sz) : ¬ pz_A ad sz (ad 35) := by
  rintro (⟨c, hc, e⟩ | h2)
  · have := h 35 c (by omega) (by omega) e
    omega
  · omega
theorem pz_w35 {ad : Nat → Nat} (h : pz_inj ad) : ¬ pz_W ad (ad 35) := by
  rintro ⟨c, hc, e⟩
  have := h 35 c (by omega) (by omega) e
  omega
/-- what values may be -/
def pz_rv (v : pm_V) : Prop := match v with
  | .inl x => pm_R x
  | .inr (.inl _) => True
  | .inr (.inr x) => pm_R x
theorem pm_R_set {M : pm_M} {c : Nat} {j x : Int} (h : ∀ a b, pm_R (M a b)) (hx : pm_R x) : ∀ a b, pm_R (pm_set M c j x a b) := by
  intro a b
  unfold pm_set
  split
  · exact hx
  · exact h a b
/-- locals -/
def pz_lv (ad : Nat → Nat) (ls : pm_L) : List (Nat × Value) := ls.zipIdx.filterMap (fun q => q.1.map (fun v => (q.2, pz_v ad v)))
theorem pz_lv_mem {ad : Nat → Nat} {ls : pm_L} {q : Nat × Value} : q ∈ pz_lv ad ls ↔ ∃ v, ls[q.1]? = some (some v) ∧ q.2 = pz_v ad v := by
  unfold pz_lv
  rw [List.mem_filterMap]
  constructor
  · rintro ⟨⟨o, i⟩, h1, h2⟩
    have h3 := List.mem_zipIdx_iff_getElem?.mp h1
    cases o with
    | none => cases h2
    | some v =>
      have h4 : (i, pz_v ad v) = q := Option.some.inj h2
      subst h4
      exact ⟨v, h3, rfl⟩
  · rintro ⟨v, h1, h2⟩
    refine ⟨(some v, q.1), List.mem_zipIdx_iff_getElem?.mpr h1, ?_⟩
    show some (q.1, pz_v ad v) = some q
    rw [← h2]
theorem pz_cat {ad : Nat → Nat} {v : pm_V} (h : pm_is1 v = true) : (pz_v ad v).category = 1 := by
  rcases v with x | c | x
  · rfl
  · rfl
  · cases h
theorem pz_read {ad : Nat → Nat} {LS : Array Slot} {nL : Nat} {ls : pm_L} (h : lv_has LS nL (pz_lv ad ls)) {i : Nat} {v : pm_V} (hi : ls[i]? = some (some v)) : LS[i]? = some (.val (pz_v ad v)) :=
  h.2.2 (i, pz_v ad v) (pz_lv_mem.mpr ⟨v, hi, rfl⟩)
theorem pz_store {ad : Nat → Nat} {LS : Array Slot} {nL i : Nat} {ls : pm_L} {o : Option pm_V} {w : Value} (hok : ∀ v, some v ∈ ls → pz_rv v ∧ pm_is1 v = true) (ho : ∀ v, o = some v → w = pz_v ad v)
    (h : lv_has LS nL ((i, w) :: (pz_lv ad ls).filter (fun q => !(q.1 == i) && !(q.1 + 1 == i && q.2.category == 2)))) : lv_has LS nL (pz_lv ad (ls.set i o)) := by
  refine ⟨h.1, h.2.1, fun q hq => ?_⟩
  obtain ⟨v, h1, h2⟩ := pz_lv_mem.mp hq
  rw [List.getElem?_set] at h1
  by_cases hi : i = q.1
  · rw [if_pos hi] at h1
    have h3 : o = some v := by
      by_cases hl : q.1 < ls.length
      · rw [if_pos (by rw [hi]; exact hl)] at h1; exact Option.some.inj h1
      · rw [if_neg (by rw [hi]; exact hl)] at h1; cases h1
    have h4 : q = (i, w) := by
      obtain ⟨q1, q2⟩ := q
      dsimp only at hi h2 ⊢
      rw [hi, h2, ho v h3]
    rw [h4]
    exact h.2.2 (i, w) List.mem_cons_self
  · rw [if_neg hi] at h1
    refine h.2.2 q (List.mem_cons_of_mem _ (List.mem_filter.mpr ⟨pz_lv_mem.mpr ⟨v, h1, h2⟩, ?_⟩))
    have h5 : q.2.category = 1 := by rw [h2]; exact pz_cat (hok v (List.mem_of_getElem? h1)).2
    have h6 : (q.1 == i) = false := by rw [beq_eq_false_iff_ne]; exact fun z => hi z.symm
    rw [h6, h5]
    simp
theorem pz_okset {ls : pm_L} {i : Nat} {o : Option pm_V} (hok : ∀ v, some v ∈ ls → pz_rv v ∧ pm_is1 v = true) (ho : ∀ v, o = some v → pz_rv v ∧ pm_is1 v = true) : ∀ v, some v ∈ ls.set i o → pz_rv v ∧ pm_is1 v = true := by
  intro v hv
  rcases List.mem_or_eq_of_mem_set hv with h | h
  · exact hok v h
  · exact ho v h.symm
/-- numbers -/
theorem pz_int {x : Int} (h : pm_R x) : (Int32.ofInt x).toInt = x := by
  unfold pm_R at h
  rw [Int32.toInt_ofInt]
  show x.bmod 4294967296 = x
  rw [Int.bmod_eq_of_le (by omega) (by omega)]
theorem pz_i0 : (0 : Int32) = Int32.ofInt 0 := rfl
theorem pz_eq {x y : Int} (hx : pm_R x) (hy : pm_R y) : Int32.ofInt x = Int32.ofInt y ↔ x = y := by
  rw [← Int32.toInt_inj, pz_int hx, pz_int hy]
theorem pz_ltI {x y : Int} (hx : pm_R x) (hy : pm_R y) : Int32.ofInt x < Int32.ofInt y ↔ x < y := by
  rw [Int32.lt_iff_toInt_lt, pz_int hx, pz_int hy]
theorem pz_leI {x y : Int} (hx : pm_R x) (hy : pm_R y) : Int32.ofInt x ≤ Int32.ofInt y ↔ x ≤ y := by
  rw [Int32.le_iff_toInt_le, pz_int hx, pz_int hy]
theorem pz_in {i : Int} {n : Nat} (hi : 0 ≤ i ∧ i < n) (hn : n ≤ 100000) : vp_in (Int32.ofInt i) n := by
  rw [vp_in_iff, pz_int (by unfold pm_R; omega)]
  exact hi
theorem pz_clamp {i : Int} (h : pm_R i) (h0 : 0 ≤ i) : (Int32.ofInt i).toNatClampNeg = i.toNat := by
  show (Int32.ofInt i).toInt.toNat = i.toNat
  rw [pz_int h]
