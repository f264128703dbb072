section PZ2
variable {G : pz_G} {k pc len : Nat} {ls : pm_L} {st : List pm_V} {M : pm_M} {Q : pm_P}
theorem z_istore {x : Int} {r : List pm_V} {n : Nat} (hs : st = .inl x :: r) (hn : n < ls.length) (hd : decode (pm_bytes k) pc = .ok (.istore n, 2)) (h : pz_Z G (k, pc + 2, ls.set n (some (.inl x)), r, M) Q) : pz_Z G (k, pc, ls, st, M) Q := by
  subst hs
  intro k1 k2 k3 k4 p e R s m args below meth cd H locs cells slots LS tc ts h1 h2 h3 h4 h5 h6 h7 h8 h9
  dsimp only at k1 k2 k3 k4 h1 h2 h3 h4 h5 h6 h7 h8 h9 ⊢
  have hx : pz_rv (.inl x) := k2 _ List.mem_cons_self
  refine lv_istore h1.1 h1.2.1 hd h8 (by rw [← k4]; exact hn) rfl (fun LS' h90 => ?_)
  exact h (pz_okset k1 (fun v hv => by cases hv; exact ⟨hx, rfl⟩)) (fun v hv => k2 v (List.mem_cons_of_mem _ hv)) k3 (by dsimp only; rw [List.length_set]; exact k4) p e R s m args below meth cd H locs cells slots LS' tc ts h1 h2 h3 h4 h5 h6 h7
    (pz_store k1 (fun v hv => by cases hv; rfl) h90) h9
theorem z_istore_n {x : Int} {r : List pm_V} {n : Fin 4} (hs : st = .inl x :: r) (hn : n.val < ls.length) (hd : decode (pm_bytes k) pc = .ok (.istore_n n, 1)) (h : pz_Z G (k, pc + 1, ls.set n.val (some (.inl x)), r, M) Q) : pz_Z G (k, pc, ls, st, M) Q := by
  subst hs
  intro k1 k2 k3 k4 p e R s m args below meth cd H locs cells slots LS tc ts h1 h2 h3 h4 h5 h6 h7 h8 h9
  dsimp only at k1 k2 k3 k4 h1 h2 h3 h4 h5 h6 h7 h8 h9 ⊢
  have hx : pz_rv (.inl x) := k2 _ List.mem_cons_self
  refine lv_istore_n h1.1 h1.2.1 hd rfl h8 (by rw [← k4]; exact hn) rfl (fun LS' h90 => ?_)
  exact h (pz_okset k1 (fun v hv => by cases hv; exact ⟨hx, rfl⟩)) (fun v hv => k2 v (List.mem_cons_of_mem _ hv)) k3 (by dsimp only; rw [List.length_set]; exact k4) p e R s m args below meth cd H locs cells slots LS' tc ts h1 h2 h3 h4 h5 h6 h7
    (pz_store k1 (fun v hv => by cases hv; rfl) h90) h9
theorem z_iinc {x d : Int} {n : Nat} (hl : ls[n]? = some (some (.inl x))) (hd0 : -128 ≤ d) (hd1 : d ≤ 127) (hq : pm_R (x + d)) (hd : decode (pm_bytes k) pc = .ok (.iinc n d, 3)) (h : pz_Z G (k, pc + 3, ls.set n (some (.inl (x + d))), st, M) Q) : pz_Z G (k, pc, ls, st, M) Q := by
  intro k1 k2 k3 k4 p e R s m args below meth cd H locs cells slots LS tc ts h1 h2 h3 h4 h5 h6 h7 h8 h9
  dsimp only at k1 k2 k3 k4 h1 h2 h3 h4 h5 h6 h7 h8 h9 ⊢
  obtain ⟨i, hi⟩ := List.getElem?_of_mem (pz_lv_mem (ad := G.2.2.1) (q := (n, pz_v G.2.2.1 (.inl x))) |>.mpr ⟨.inl x, hl, rfl⟩)
  refine lv_iinc (k := i) (x := Int32.ofInt x) (v := Int32.ofInt (x + d)) h1.1 h1.2.1 hd h8 hi (Int32.ofInt_add ..).symm (by rw [← k4]; exact (List.getElem?_eq_some_iff.mp hl).1) rfl (fun LS' h90 => ?_)
  exact h (pz_okset k1 (fun v hv => by cases hv; exact ⟨hq, rfl⟩)) k2 k3 (by dsimp only; rw [List.length_set]; exact k4) p e R s m args below meth cd H locs cells slots LS' tc ts h1 h2 h3 h4 h5 h6 h7
    (pz_store k1 (fun v hv => by cases hv; rfl) h90) h9
theorem z_dup {v : pm_V} {r : List pm_V} (hs : st = v :: r) (hv : pm_is1 v = true) (hd : decode (pm_bytes k) pc = .ok (.dup, 1)) (h : pz_Z G (k, pc + 1, ls, v :: v :: r, M) Q) : pz_Z G (k, pc, ls, st, M) Q := by
  subst hs
  intro k1 k2 k3 k4 p e R s m args below meth cd H locs cells slots LS tc ts h1 h2 h3 h4 h5 h6 h7 h8 h9
  exact lv_dup h1.1 h1.2.1 hd (pz_cat hv) (h k1 (fun w hw => by rcases List.mem_cons.mp hw with rfl | hw; exact k2 _ List.mem_cons_self; exact k2 w hw) k3 k4 p e R s m args below meth cd H locs cells slots LS tc ts h1 h2 h3 h4 h5 h6 h7 h8 h9)
theorem z_dup_x1 {v w : pm_V} {r : List pm_V} (hs : st = v :: w :: r) (hv : pm_is1 v = true) (hw : pm_is1 w = true) (hd : decode (pm_bytes k) pc = .ok (.dup_x1, 1)) (h : pz_Z G (k, pc + 1, ls, v :: w :: v :: r, M) Q) : pz_Z G (k, pc, ls, st, M) Q := by
  subst hs
  intro k1 k2 k3 k4 p e R s m args below meth cd H locs cells slots LS tc ts h1 h2 h3 h4 h5 h6 h7 h8 h9
  exact lv_dup_x1 h1.1 h1.2.1 hd (pz_cat hv) (pz_cat hw) (h k1 (fun u hu => by
    rcases List.mem_cons.mp hu with rfl | hu
    · exact k2 _ List.mem_cons_self
    · rcases List.mem_cons.mp hu with rfl | hu
      · exact k2 _ (List.mem_cons_of_mem _ List.mem_cons_self)
      · rcases List.mem_cons.mp hu with rfl | hu
        · exact k2 _ List.mem_cons_self
        · exact k2 _ (List.mem_cons_of_mem _ (List.mem_cons_of_mem _ hu))) k3 k4 p e R s m args below meth cd H locs cells slots LS tc ts h1 h2 h3 h4 h5 h6 h7 h8 h9)
theorem z_pop {v : pm_V} {r : List pm_V} (hs : st = v :: r) (hv : pm_is1 v = true) (hd : decode (pm_bytes k) pc = .ok (.pop, 1)) (h : pz_Z G (k, pc + 1, ls, r, M) Q) : pz_Z G (k, pc, ls, st, M) Q := by
  subst hs
  intro k1 k2 k3 k4 p e R s m args below meth cd H locs cells slots LS tc ts h1 h2 h3 h4 h5 h6 h7 h8 h9
  exact lv_pop h1.1 h1.2.1 hd (pz_cat hv) (h k1 (fun w hw => k2 w (List.mem_cons_of_mem _ hw)) k3 k4 p e R s m args below meth cd H locs cells slots LS tc ts h1 h2 h3 h4 h5 h6 h7 h8 h9)
theorem z_goto {off : Int} {t : Nat} (ht : (pc : Int) + off = t) (hd : decode (pm_bytes k) pc = .ok (.goto off, 3)) (h : pz_Z G (k, t, ls, st, M) Q) : pz_Z G (k, pc, ls, st, M) Q := by
  intro k1 k2 k3 k4 p e R s m args below meth cd H locs cells slots LS tc ts h1 h2 h3 h4 h5 h6 h7 h8 h9
  exact lv_goto h1.1 h1.2.1 hd ht (h k1 k2 k3 k4 p e R s m args below meth cd H locs cells slots LS tc ts h1 h2 h3 h4 h5 h6 h7 h8 h9)
theorem z_if {c : Jvm.ClassFile.Cond} {off x : Int} {r : List pm_V} {t : Nat} (hs : st = .inl x :: r) (ht : (pc : Int) + off = t) (hd : decode (pm_bytes k) pc = .ok (.ifCond c off, 3)) (ha : pm_cmp c x 0 → pz_Z G (k, t, ls, r, M) Q) (hb : ¬ pm_cmp c x 0 → pz_Z G (k, pc + 3, ls, r, M) Q) : pz_Z G (k, pc, ls, st, M) Q := by
  subst hs
  intro k1 k2 k3 k4 p e R s m args below meth cd H locs cells slots LS tc ts h1 h2 h3 h4 h5 h6 h7 h8 h9
  dsimp only at k1 k2 k3 k4 h1 h2 h3 h4 h5 h6 h7 h8 h9 ⊢
  have hx : pm_R x := k2 (.inl x) List.mem_cons_self
  have k5 : ∀ w ∈ r, pz_rv w := fun w hw => k2 w (List.mem_cons_of_mem _ hw)
  have h0 : pm_R 0 := by unfold pm_R; omega
  have a1 : pm_cmp c x 0 → W p G.1 e R s m args below meth cd H locs cells slots (pz_MQ G below s tc ts Q) (F0 m t LS (r.map (pz_v G.2.2.1))) := fun z => ha z k1 k5 k3 k4 p e R s m args below meth cd H locs cells slots LS tc ts h1 h2 h3 h4 h5 h6 h7 h8 h9
  have a2 : ¬ pm_cmp c x 0 → W p G.1 e R s m args below meth cd H locs cells slots (pz_MQ G below s tc ts Q) (F0 m (pc + 3) LS (r.map (pz_v G.2.2.1))) := fun z => hb z k1 k5 k3 k4 p e R s m args below meth cd H locs cells slots LS tc ts h1 h2 h3 h4 h5 h6 h7 h8 h9
  cases c with
  | eq => exact lv_if_eq h1.1 h1.2.1 hd ht (fun z => a1 ((pz_eq hx h0).mp z)) (fun z => a2 (fun y => z ((pz_eq hx h0).mpr y)))
  | ne => exact lv_if_ne h1.1 h1.2.1 hd ht (fun z => a1 (fun y => z ((pz_eq hx h0).mpr y))) (fun z => a2 (fun y => y ((pz_eq hx h0).mp z)))
  | lt => exact lv_if_lt h1.1 h1.2.1 hd ht (fun z => a1 ((pz_ltI hx h0).mp z)) (fun z => a2 (fun y => z ((pz_ltI hx h0).mpr y)))
  | ge => exact lv_if_ge h1.1 h1.2.1 hd ht (fun z => a1 ((pz_leI h0 hx).mp z)) (fun z => a2 (fun y => z ((pz_leI h0 hx).mpr y)))
  | gt => exact lv_if_gt h1.1 h1.2.1 hd ht (fun z => a1 ((pz_ltI h0 hx).mp z)) (fun z => a2 (fun y => z ((pz_ltI h0 hx).mpr y)))
  | le => exact lv_if_le h1.1 h1.2.1 hd ht (fun z => a1 ((pz_leI hx h0).mp z)) (fun z => a2 (fun y => z ((pz_leI hx h0).mpr y)))
theorem z_icmp {c : Jvm.ClassFile.Cond} {off x y : Int} {r : List pm_V} {t : Nat} (hs : st = .inl y :: .inl x :: r) (ht : (pc : Int) + off = t) (hd : decode (pm_bytes k) pc = .ok (.if_icmp c off, 3)) (ha : pm_cmp c x y → pz_Z G (k, t, ls, r, M) Q) (hb : ¬ pm_cmp c x y → pz_Z G (k, pc + 3, ls, r, M) Q) : pz_Z G (k, pc, ls, st, M) Q := by
  subst hs
  intro k1 k2 k3 k4 p e R s m args below meth cd H locs cells slots LS tc ts h1 h2 h3 h4 h5 h6 h7 h8 h9
  dsimp only at k1 k2 k3 k4 h1 h2 h3 h4 h5 h6 h7 h8 h9 ⊢
  have hy : pm_R y := k2 (.inl y) List.mem_cons_self
  have hx : pm_R x := k2 (.inl x) (List.mem_cons_of_mem _ List.mem_cons_self)
  have k5 : ∀ w ∈ r, pz_rv w := fun w hw => k2 w (List.mem_cons_of_mem _ (List.mem_cons_of_mem _ hw))
  have a1 : pm_cmp c x y → W p G.1 e R s m args below meth cd H locs cells slots (pz_MQ G below s tc ts Q) (F0 m t LS (r.map (pz_v G.2.2.1))) := fun z => ha z k1 k5 k3 k4 p e R s m args below meth cd H locs cells slots LS tc ts h1 h2 h3 h4 h5 h6 h7 h8 h9
  have a2 : ¬ pm_cmp c x y → W p G.1 e R s m args below meth cd H locs cells slots (pz_MQ G below s tc ts Q) (F0 m (pc + 3) LS (r.map (pz_v G.2.2.1))) := fun z => hb z k1 k5 k3 k4 p e R s m args below meth cd H locs cells slots LS tc ts h1 h2 h3 h4 h5 h6 h7 h8 h9
  cases c with
  | eq => exact lv_icmp_eq h1.1 h1.2.1 hd ht (fun z => a1 ((pz_eq hx hy).mp z)) (fun z => a2 (fun y => z ((pz_eq hx hy).mpr y)))
  | ne => exact lv_icmp_ne h1.1 h1.2.1 hd ht (fun z => a1 (fun y => z ((pz_eq hx hy).mpr y))) (fun z => a2 (fun y => y ((pz_eq hx hy).mp z)))
  | lt => exact lv_icmp_lt h1.1 h1.2.1 hd ht (fun z => a1 ((pz_ltI hx hy).mp z)) (fun z => a2 (fun y => z ((pz_ltI hx hy).mpr y)))
  | ge => exact lv_icmp_ge h1.1 h1.2.1 hd ht (fun z => a1 ((pz_leI hy hx).mp z)) (fun z => a2 (fun y => z ((pz_leI hy hx).mpr y)))
  | gt => exact lv_icmp_gt h1.1 h1.2.1 hd ht (fun z => a1 ((pz_ltI hy hx).mp z)) (fun z => a2 (fun y => z ((pz_ltI hy hx).mpr y)))
  | le => exact lv_icmp_le h1.1 h1.2.1 hd ht (fun z => a1 ((pz_leI hx hy).mp z)) (fun z => a2 (fun y => z ((pz_leI hx hy).mpr y)))
theorem z_switch {d lo hi x : Int} {offs : Array Int} {r : List pm_V} (hs : st = .inl x :: r) (hd : decode (pm_bytes k) pc = .ok (.tableswitch d lo hi offs, len)) (ha : (x < lo ∨ hi < x) → ∃ t : Nat, (pc : Int) + d = t ∧ pz_Z G (k, t, ls, r, M) Q)
    (hb : ¬ x < lo → ¬ hi < x → ∃ (off : Int) (t : Nat), offs[(x - lo).toNat]? = some off ∧ (pc : Int) + off = t ∧ pz_Z G (k, t, ls, r, M) Q) : pz_Z G (k, pc, ls, st, M) Q := by
  subst hs
  intro k1 k2 k3 k4 p e R s m args below meth cd H locs cells slots LS tc ts h1 h2 h3 h4 h5 h6 h7 h8 h9
  dsimp only at k1 k2 k3 k4 h1 h2 h3 h4 h5 h6 h7 h8 h9 ⊢
  have hx : pm_R x := k2 (.inl x) List.mem_cons_self
  have k5 : ∀ w ∈ r, pz_rv w := fun w hw => k2 w (List.mem_cons_of_mem _ hw)
  by_cases hc : x < lo ∨ hi < x
  · obtain ⟨t, ht, hz⟩ := ha hc
    exact lv_tableOut h1.1 h1.2.1 hd (by rw [pz_int hx]; exact hc) ht (hz k1 k5 k3 k4 p e R s m args below meth cd H locs cells slots LS tc ts h1 h2 h3 h4 h5 h6 h7 h8 h9)
  · have c1 : ¬ x < lo := fun z => hc (Or.inl z)
    have c2 : ¬ hi < x := fun z => hc (Or.inr z)
    obtain ⟨off, t, ho, ht, hz⟩ := hb c1 c2
    exact lv_tableIn h1.1 h1.2.1 hd (by rw [pz_int hx]; exact c1) (by rw [pz_int hx]; exact c2) (by rw [pz_int hx]; exact ho) ht (hz k1 k5 k3 k4 p e R s m args below meth cd H locs cells slots LS tc ts h1 h2 h3 h4 h5 h6 h7 h8 h9)
/-- arrays -/
theorem pz_arr32 {M : pm_M} {c : Nat} {i x : Int} (hi : pm_R i) (h0 : 0 ≤ i) : upd (fun j => Int32.ofInt (M c j)) (Int32.ofInt i).toNatClampNeg (Int32.ofInt x) = fun j : Nat => Int32.ofInt (pm_set M c i x c j) := by
  funext j
  rw [pz_clamp hi h0]
  unfold upd pm_set
  by_cases hj : j = i.toNat
  · rw [if_pos hj, if_pos ⟨rfl, by omega⟩]
  · rw [if_neg hj, if_neg (fun z => hj (by have := z.2; omega))]
theorem pz_arr64 {M : pm_M} {c : Nat} {i x : Int} (hi : pm_R i) (h0 : 0 ≤ i) : vp_updL (fun j => Int64.ofInt (M c j)) (Int32.ofInt i).toNatClampNeg (Int64.ofInt x) = fun j : Nat => Int64.ofInt (pm_set M c i x c j) := by
  funext j
  rw [pz_clamp hi h0]
  unfold vp_updL pm_set
  by_cases hj : j = i.toNat
  · rw [if_pos hj, if_pos ⟨rfl, by omega⟩]
  · rw [if_neg hj, if_neg (fun z => hj (by have := z.2; omega))]
end PZ2
