/-! CALLS -/
theorem pz_kchk : ∀ q ∈ pm_call, q.2.2.1 < 95 ∧ q.2.2.2.1 ≤ pm_mL q.2.2.1 ∧ (parseMethodDescriptor (pz_y q.2.2.1).desc).map (fun d => d.parameters.length) = some (q.2.2.2.1 - (if q.2.2.2.2.isSome then 1 else 0)) ∧ ((pz_y q.2.2.1).cls ≠ "java/lang/invoke/MethodHandle" ∧ (pz_y q.2.2.1).cls ≠ "java/lang/invoke/VarHandle") := by decide +kernel
/-- the rows of a handler table, at the calls that they cover -/
def pz_hchk (q : (Nat × Nat × Nat) × (Nat × Nat × Nat)) : Bool :=
  decide (pm_own q.1.1 = 7) && decide (q.1.2.2 < 3) && (pz_hs q.1.1).all (fun h => decide (h.1 ≤ q.1.2.1) && decide (q.1.2.1 < h.2.1) && (decide (h.2.2.2 = pz_ct 0) || decide (h.2.2.2 = pz_ct 1) || decide (h.2.2.2 = pz_ct 2))) &&
  decide (pz_fnd ((pz_hs q.1.1).map (fun h => (h.2.2.1, h.2.2.2))) (pz_ct q.1.2.2) = some q.2.1) && decide (q.2.2.2 < pm_mL q.1.1)
theorem pz_hchk0 : ∀ q ∈ pm_hnd, pz_hchk q = true := by decide +kernel
theorem pz_hdec : ∀ q ∈ pm_hnd, (∃ n : Fin 4, n.val = q.2.2.2 ∧ decode (pm_bytes q.1.1) q.2.1 = .ok (.astore_n n, 1) ∧ q.2.2.1 = q.2.1 + 1) ∨ (decode (pm_bytes q.1.1) q.2.1 = .ok (.astore q.2.2.2, 2) ∧ q.2.2.1 = q.2.1 + 2) := by decide +kernel
theorem pz_hs0 : ∀ k, k < 86 → pz_hs k = [] := by decide +kernel
theorem pz_wtc {ad : Nat → Nat} : ∀ st : List pm_V, ((st.map (pz_v ad)).map fun v => v.category).sum = pm_wt st := by
  intro st
  induction st with
  | nil => rfl
  | cons v st ih =>
    show (pz_v ad v).category + ((st.map (pz_v ad)).map fun v => v.category).sum = (if pm_is1 v then 1 else 2) + pm_wt st
    rw [ih]
    rcases v with x | x | x <;> rfl
theorem pz_look {q : Nat × Nat × Nat} {h : Nat × Nat × Nat} : ∀ (l : List ((Nat × Nat × Nat) × (Nat × Nat × Nat))), l.lookup q = some h → (q, h) ∈ l := by
  intro l
  induction l with
  | nil => intro z; cases z
  | cons x l ih =>
    obtain ⟨x1, x2⟩ := x
    intro z
    rw [List.lookup_cons] at z
    split at z
    · rename_i hb
      have e1 : q = x1 := by simpa using hb
      have e2 := Option.some.inj z
      subst e1; subst e2
      exact List.mem_cons_self
    · exact List.mem_cons_of_mem _ (ih z)
