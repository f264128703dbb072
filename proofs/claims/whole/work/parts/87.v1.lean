/-! THE START: memory when both objects are new, what the tables say there -/
def zs_M (xs : Nat → Int32) : pm_M := fun c j => if c = 35 then (xs j.toNat).toInt else if c = 1 ∧ j = 6 then 1 else if c = 7 ∧ j = 0 then -1 else if c = 24 ∧ j = 1 then 1 else if c = 99 ∧ j = 0 then 512 else 0
theorem zs_new (xs : Nat → Int32) : NewM (zs_M xs) := by
  refine ⟨fun c j h1 h7 h24 h35 h99 => ?_, fun j hj => ?_, rfl, fun j hj => ?_, rfl, fun j hj => ?_, rfl, rfl⟩
  · unfold zs_M
    rw [if_neg h35, if_neg (fun z => h1 z.1), if_neg (fun z => h7 z.1), if_neg (fun z => h24 z.1), if_neg (fun z => h99 z.1)]
  · unfold zs_M
    rw [if_neg (by decide), if_neg (fun z => hj z.2), if_neg (fun z => absurd z.1 (by decide)), if_neg (fun z => absurd z.1 (by decide)), if_neg (fun z => absurd z.1 (by decide))]
  · unfold zs_M
    rw [if_neg (by decide), if_neg (fun z => absurd z.1 (by decide)), if_neg (fun z => hj z.2), if_neg (fun z => absurd z.1 (by decide)), if_neg (fun z => absurd z.1 (by decide))]
  · unfold zs_M
    rw [if_neg (by decide), if_neg (fun z => absurd z.1 (by decide)), if_neg (fun z => absurd z.1 (by decide)), if_neg (fun z => hj z.2), if_neg (fun z => absurd z.1 (by decide))]
theorem zs_R (xs : Nat → Int32) : ∀ a b, pm_R (zs_M xs a b) := by
  intro a b
  unfold zs_M pm_R
  have h1 := Int32.toInt_lt (xs b.toNat)
  have h2 := Int32.le_toInt (xs b.toNat)
  split
  · omega
  · split
    · omega
    · split
      · omega
      · split
        · omega
        · split <;> omega
theorem zs_0 {xs : Nat → Int32} {c : Nat} (h : c ≠ 1 ∧ c ≠ 7 ∧ c ≠ 24 ∧ c ≠ 35 ∧ c ≠ 99) : (fun j : Nat => Int32.ofInt (zs_M xs c (j : Int))) = fun _ => 0 := by
  funext j
  rw [(zs_new xs).1 c j h.1 h.2.1 h.2.2.1 h.2.2.2.1 h.2.2.2.2]
  rfl
theorem zs_0l {xs : Nat → Int32} {c : Nat} (h : c ≠ 1 ∧ c ≠ 7 ∧ c ≠ 24 ∧ c ≠ 35 ∧ c ≠ 99) : (fun j : Nat => Int64.ofInt (zs_M xs c (j : Int))) = fun _ => 0 := by
  funext j
  rw [(zs_new xs).1 c j h.1 h.2.1 h.2.2.1 h.2.2.2.1 h.2.2.2.2]
  rfl
theorem zs_7 {xs : Nat → Int32} : (fun j : Nat => Int32.ofInt (zs_M xs 7 (j : Int))) = upd (fun _ => 0) 0 (-1) := by
  funext j
  unfold upd
  by_cases hj : j = 0
  · subst hj
    rfl
  · rw [(zs_new xs).2.2.2.1 j (by omega), if_neg hj]
    rfl
theorem zs_35 {xs : Nat → Int32} : (fun j : Nat => Int32.ofInt (zs_M xs 35 (j : Int))) = xs := by
  funext j
  show Int32.ofInt ((xs ((j : Int).toNat)).toInt) = xs j
  rw [Int32.ofInt_toInt, Int.toNat_natCast]
/-- addresses: of the world's cells, and of the script's -/
def zs_ad (ws : va_W) (b : Nat) : Nat → Nat := fun c => ((ws.map Prod.fst) ++ [b]).getD c 0
theorem zs_at {ws : va_W} {b i : Nat} (hi : i < ws.length) : ∃ p, ws[i]? = some p ∧ zs_ad ws b i = p.1 := by
  refine ⟨ws[i], List.getElem?_eq_getElem hi, ?_⟩
  unfold zs_ad
  rw [List.getD_eq_getElem?_getD, List.getElem?_append_left (by rw [List.length_map]; exact hi), List.getElem?_map, List.getElem?_eq_getElem hi]
  rfl
theorem zs_last {ws : va_W} {b : Nat} (hl : ws.length = 35) : zs_ad ws b 35 = b := by
  unfold zs_ad
  rw [List.getD_eq_getElem?_getD, List.getElem?_append_right (by rw [List.length_map, hl]; exact Nat.le_refl _), List.length_map, hl]
  rfl
theorem zs_in {A : Nat → Prop} {ws : va_W} {b : Nat} (hl : ws.length = 35) (hD : va_D A ws) : ∀ c, c < 35 → A (zs_ad ws b c) := by
  intro c hc
  obtain ⟨p, h1, h2⟩ := zs_at (b := b) (ws := ws) (i := c) (by omega)
  rw [h2]
  exact hD.2 c p h1
theorem zs_inj {A : Nat → Prop} {ws : va_W} {b : Nat} (hl : ws.length = 35) (hD : va_D A ws) (hb : ¬ A b) : pz_inj (zs_ad ws b) := by
  intro i j hi hj e
  rcases (by omega : (i < 35 ∧ j < 35) ∨ (i < 35 ∧ j = 35) ∨ (i = 35 ∧ j < 35) ∨ (i = 35 ∧ j = 35)) with ⟨h1, h2⟩ | ⟨h1, h2⟩ | ⟨h1, h2⟩ | ⟨h1, h2⟩
  · obtain ⟨p, p1, p2⟩ := zs_at (b := b) (ws := ws) (i := i) (by omega)
    obtain ⟨q, q1, q2⟩ := zs_at (b := b) (ws := ws) (i := j) (by omega)
    rw [p2, q2] at e
    exact hD.1 i j p q p1 q1 e
  · have h3 := zs_in (b := b) hl hD i h1
    rw [e, h2, zs_last hl] at h3
    exact absurd h3 hb
  · have h3 := zs_in (b := b) hl hD j h2
    rw [← e, h1, zs_last hl] at h3
    exact absurd h3 hb
  · omega
theorem zs_T {b : Nat} {s : State} (hts : ∀ w ∈ lw_tbl, w.before #[Value.ref b] s = true) : pz_T s := by
  intro w hw hk
  have h1 := hts w hw
  cases w with
  | fieldLinkNest a i b n d hh => exact va_tabs rfl rfl h1
  | methodLinkNest a i x hh => exact va_tabs rfl rfl h1
  | stringRef a i t => exact h1
  | castable a b => exact va_tabs rfl rfl h1
  | declares x => exact va_tabs rfl rfl h1
  | _ => exact word_at (State.WarmedH.refl s) (good_of_word hk) h1
theorem zs_Z {C n d : String} {A : Nat → Prop} {args : Array Value} {s : State} (h1 : (Cond.laysStatic C n d).before args s = true) (h2 : (Cond.isRef (.static C n d)).before args s = true) (hA : ∀ a, a < s.heap.size → ¬ A a) : pz_Zs C n d A s s.heap := by
  obtain ⟨c, k, i, f, a, cell, hc, hi, hst, hsa, hcell, hss, hcls, hlt, hty⟩ := Cond.laysStatic_spec h1
  obtain ⟨v, hs⟩ : ∃ v, cell.slots[f.slot]? = some v := ⟨_, Array.getElem?_eq_getElem hlt⟩
  have h13 : (Term.static C n d).eval args s none [] s = some v := Term.static_eval hi hst hsa hcell hss hs
  have hv : v.isRef = true := by
    simp only [Cond.before, Cond.holds, Cond.value, h13] at h2
    cases v <;> first | rfl | (simp at h2)
  exact ⟨c, k, i, f, a, cell, v, hc, hi, hst, hsa, hcell, hss, hcls, hlt, hty, hs, hv, hA a (Array.getElem?_eq_some_iff.mp hcell).1⟩
theorem zs_Th {ad : Nat → Nat} {b : Nat} {s : State} (hts : ∀ w ∈ lw_tbl, w.before #[Value.ref b] s = true) (hgv : (Jvm.Cond.and given_1 narrow_1).before #[Value.ref b] s = true) (hA : ∀ c, c < 35 → s.heap.size ≤ ad c) : pz_Th ad s s.heap := by
  have hs := flat_of_before _ hgv
  have hW : ∀ a, a < s.heap.size → ¬ pz_W ad a := by
    rintro a ha ⟨c, hc, rfl⟩
    have := hA c hc
    omega
  exact ⟨zs_Z (args := #[Value.ref b]) (hts _ (List.mem_append_right _ (List.mem_of_getElem? (i := 431) (by decide +kernel)))) (hs _ (by decide +kernel)) hW, zs_Z (args := #[Value.ref b]) (hts _ (List.mem_append_right _ (List.mem_of_getElem? (i := 433) (by decide +kernel)))) (hs _ (by decide +kernel)) hW⟩
theorem zs_Nx {b : Nat} {s : State} (hgv : (Jvm.Cond.and given_1 narrow_1).before #[Value.ref b] s = true) : pz_Nx s := by
  have hs := flat_of_before _ hgv
  intro i j hi hj hij
  rcases (by omega : (i = 0 ∧ j = 1) ∨ (i = 0 ∧ j = 2) ∨ (i = 1 ∧ j = 0) ∨ (i = 1 ∧ j = 2) ∨ (i = 2 ∧ j = 0) ∨ (i = 2 ∧ j = 1)) with ⟨rfl, rfl⟩ | ⟨rfl, rfl⟩ | ⟨rfl, rfl⟩ | ⟨rfl, rfl⟩ | ⟨rfl, rfl⟩ | ⟨rfl, rfl⟩
  · exact va_Nc.of (hs (.not (.castable "java/util/NoSuchElementException" "java/lang/IllegalStateException")) (by decide +kernel))
  · exact va_Nc.of (hs (.not (.castable "java/util/NoSuchElementException" "java/lang/IllegalArgumentException")) (by decide +kernel))
  · exact va_Nc.of (hs (.not (.castable "java/lang/IllegalStateException" "java/util/NoSuchElementException")) (by decide +kernel))
  · exact va_Nc.of (hs (.not (.castable "java/lang/IllegalStateException" "java/lang/IllegalArgumentException")) (by decide +kernel))
  · exact va_Nc.of (hs (.not (.castable "java/lang/IllegalArgumentException" "java/util/NoSuchElementException")) (by decide +kernel))
  · exact va_Nc.of (hs (.not (.castable "java/lang/IllegalArgumentException" "java/lang/IllegalStateException")) (by decide +kernel))
theorem zs_ar {s : State} {ty : FieldType} (h : (Cond.arrayClass ty).before #[] s = true) : ∃ cA : ClassId, ArrOfT s cA ty ∧ s.vm.findClass ("[" ++ ty.toString) = some cA := by
  obtain ⟨cA, kA, comp, h1, h2, h3⟩ := Cond.arrayClass_spec h
  exact ⟨cA, fun n z => ⟨fun k h => (by cases h), kA, h2, comp, h3⟩, h1⟩
theorem zs_K {s : State} (hT : pz_T s) : ∃ (D : va_G) (cA : Nat → ClassId), va_K D pz_cl (pz_tys cA) s := by
  have kn : ∀ ci, ci < 7 → (Cond.instantiable (pz_cn ci) (pz_nf ci)).before #[] s = true → ∃ (cC : ClassId) (iS : Nat → Nat), u_Kn s (pz_cn ci) (pz_u ci) (pz_nf ci) cC iS := fun ci hc hi => u_known (ws := u_ws (pz_cn ci) (pz_u ci) (pz_nf ci)) (pz_lays hT ci (pz_clq ci hc) #[]) (fun w h => h) hi
  obtain ⟨c0, i0, k0⟩ := kn 0 (by decide) (zk_w hT (List.mem_of_getElem? (i := 15) (by decide +kernel)) (by decide +kernel) (by decide +kernel))
  obtain ⟨c1, i1, k1⟩ := kn 1 (by decide) (zk_w hT (List.mem_of_getElem? (i := 23) (by decide +kernel)) (by decide +kernel) (by decide +kernel))
  obtain ⟨c2, i2, k2⟩ := kn 2 (by decide) (zk_w hT (List.mem_of_getElem? (i := 63) (by decide +kernel)) (by decide +kernel) (by decide +kernel))
  obtain ⟨c3, i3, k3⟩ := kn 3 (by decide) (zk_w hT (List.mem_of_getElem? (i := 89) (by decide +kernel)) (by decide +kernel) (by decide +kernel))
  obtain ⟨c4, i4, k4⟩ := kn 4 (by decide) (zk_w hT (List.mem_of_getElem? (i := 111) (by decide +kernel)) (by decide +kernel) (by decide +kernel))
  obtain ⟨c5, i5, k5⟩ := kn 5 (by decide) (zk_w hT (List.mem_of_getElem? (i := 117) (by decide +kernel)) (by decide +kernel) (by decide +kernel))
  obtain ⟨c6, i6, k6⟩ := kn 6 (by decide) (zk_w hT (List.mem_of_getElem? (i := 597) (by decide +kernel)) (by decide +kernel) (by decide +kernel))
  obtain ⟨a0, p0, q0⟩ := zs_ar (s := s) (ty := .int) (zk_w hT (List.mem_of_getElem? (i := 60) (by decide +kernel)) (by decide +kernel) (by decide +kernel))
  obtain ⟨a1, p1, q1⟩ := zs_ar (s := s) (ty := .boolean) (zk_w hT (List.mem_of_getElem? (i := 61) (by decide +kernel)) (by decide +kernel) (by decide +kernel))
  obtain ⟨a2, p2, q2⟩ := zs_ar (s := s) (ty := .long) (zk_w hT (List.mem_of_getElem? (i := 734) (by decide +kernel)) (by decide +kernel) (by decide +kernel))
  refine ⟨(fun k => match k with | 0 => c0 | 1 => c1 | 2 => c2 | 3 => c3 | 4 => c4 | 5 => c5 | _ => c6, fun k => match k with | 0 => i0 | 1 => i1 | 2 => i2 | 3 => i3 | 4 => i4 | 5 => i5 | _ => i6), fun k => match k with | 0 => a0 | 1 => a1 | _ => a2, fun k q hq => ?_, fun k q hq => ?_⟩
  · match k, hq with
    | 0, hq => cases hq; exact k0
    | 1, hq => cases hq; exact k1
    | 2, hq => cases hq; exact k2
    | 3, hq => cases hq; exact k3
    | 4, hq => cases hq; exact k4
    | 5, hq => cases hq; exact k5
    | 6, hq => cases hq; exact k6
    | k + 7, hq => cases hq
  · match k, hq with
    | 0, hq => cases hq; exact ⟨p0, q0⟩
    | 1, hq => cases hq; exact ⟨p1, q1⟩
    | 2, hq => cases hq; exact ⟨p2, q2⟩
    | k + 3, hq => cases hq
/-- the world in the order of the cells -/
theorem zs_world {L : Nat} {ad : Nat → Nat} {cA : Nat → ClassId} {D : va_G} {M : pm_M} {H : Heap} (h : ∀ c, c < 35 → ∀ d, (pm_cells L)[c]? = some d → va_at D pz_cl (ad c, pz_e ad cA M c d) H) : va_P D pz_cl (pz_ws L ad cA M) H := by
  intro k q hk
  obtain ⟨d, h1, h2, rfl⟩ := pz_to hk
  exact h k h2 d h1
