/-! PURE: takeUpClauses -/
theorem tr_room {o : Int → Int} {n F l : Int} (hn : 0 ≤ n) (hO : ∀ i, 0 ≤ i → i < n → 2 ≤ o i ∧ o i < 2 * F) (hI : ∀ i j, 0 ≤ i → i < n → 0 ≤ j → j < n → o i / 2 = o j / 2 → i = j) (h0 : 2 ≤ l) (h1 : l < 2 * F) (hl : ∀ i, 0 ≤ i → i < n → o i / 2 ≠ l / 2) : n + 1 ≤ F - 1 := by
  have := ph_le (F - 1).toNat (n.toNat + 1) (fun i => if i = n.toNat then (l / 2 - 1).toNat else (o i / 2 - 1).toNat) (fun i hi => by
    show (if i = n.toNat then (l / 2 - 1).toNat else (o i / 2 - 1).toNat) < _
    split
    · omega
    · have := hO i (by omega) (by omega); omega) (fun i j hij hj => by
    show (if i = n.toNat then (l / 2 - 1).toNat else (o i / 2 - 1).toNat) ≠ (if j = n.toNat then (l / 2 - 1).toNat else (o j / 2 - 1).toNat)
    rw [if_neg (by omega)]
    have b1 := hO i (by omega) (by omega)
    split
    · have b2 := hl i (by omega) (by omega); omega
    · have b2 := hO j (by omega) (by omega)
      intro z
      have := hI i j (by omega) (by omega) (by omega) (by omega) (by omega)
      omega)
  omega
/-- clauses taken up before a; k: one that clashes, if any -/
def TU (M0 M : pm_M) (C : Int → List Int) (k a : Int) : Prop :=
  (∀ c, c ≠ 4 → c ≠ 5 → c ≠ 16 → c ≠ 17 → c ≠ 20 → c ≠ 21 → c ≠ 22 → M c = M0 c) ∧ M 4 9 = 0 ∧ M 5 5 = 0 ∧ 0 ≤ M 5 4 ∧ (∀ l, M 20 l = 0 ∨ M 20 l = 1) ∧ (∀ l, M 20 l ≠ 0 ↔ onT (M 22) (M 5 4) l) ∧ (∀ i, 0 ≤ i → i < M 5 4 → 2 ≤ M 22 i ∧ M 22 i < 2 * M0 1 6) ∧
  TR (inC (M0 13) (M0 14)) a (M 22) (M 5 4) (M 21) (M0 23) 0 ∧ CH (M 16) (M 17) (M0 13) (M0 14) a (M0 1 6) C ∧ ((k = -1 ∧ UI (M0 13) (M0 14) a (M 22) (M 5 4) (M0 23) 0 ∧ NE (M0 14) a) ∨ ((0 ≤ k ∧ k < a) ∧ ∀ l, inC (M0 13) (M0 14) k l → onT (M 22) (M 5 4) (pm_op l)))
theorem UI.one {lits st o ls : Int → Int} {tot n : Int} (h : UI lits st tot o n ls 0) (hs : st (tot + 1) = st tot + 1 → onT o n (lits (st tot))) : UI lits st (tot + 1) o n ls 0 := by
  intro c c0 c1 e
  rcases (by omega : c < tot ∨ c = tot) with z | z
  · exact h c c0 z e
  · rw [z] at e
    obtain ⟨q, q0, q1, q2⟩ := hs e
    exact ⟨q, q0, q1, by rw [z]; exact q2, fun t t0 t1 => by omega⟩
theorem NE.one {st : Int → Int} {tot : Int} (h : NE st tot) (hs : st tot < st (tot + 1)) : NE st (tot + 1) := by
  intro c c0 c1
  rcases (by omega : c < tot ∨ c = tot) with z | z
  · exact h c c0 z
  · rw [z]; exact hs
theorem TR.up0 {K : Int → Int → Prop} {tot n : Int} {o fb ls : Int → Int} (h : TR K tot o n fb ls 0) : TR K (tot + 1) o n fb ls 0 := h.more (fun _ _ _ _ => Iff.rfl) (fun t t0 t1 => by omega)
theorem p_45l {L : Nat} {Q : pm_P} {M0 : pm_M} (hcd : CD (M0 13) (M0 14) (M0 2 2) (M0 2 3) (M0 1 6)) (hF : 1 ≤ M0 1 6 ∧ M0 1 6 ≤ 2000) (hN : ND (M0 13) (M0 14) (M0 2 2))
    (hq : ∀ (M' : pm_M) (C' : Int → List Int) (k : Int), TU M0 M' C' k (M0 2 2) → Q (.inl (some (.inl k))) M') : ∀ (n : Nat) (M : pm_M) (C : Int → List Int) (a1 a2 : Int) (o3 o4 : Option pm_V), (M0 2 2 - a2).toNat ≤ n → 0 ≤ a2 → a2 ≤ M0 2 2 → TU M0 M C a1 a2 →
    pm_X L (45, 8, [some (.inr (.inl 4)), some (.inl a1), some (.inl a2), o3, o4], [], M) Q := by
  have htot := hcd.2.1
  have hused := hcd.2.2.2.2.1
  intro n
  induction n with
  | zero =>
    intro M C a1 a2 o3 o4 hn h0 h1 hT
    have e2 : M 2 = M0 2 := hT.1 2 (by decide) (by decide) (by decide) (by decide) (by decide) (by decide) (by decide)
    have e : a2 = M0 2 2 := by omega
    rw [e] at hT ⊢
    exact s_45_8 ⟨fun _ => hq M C a1 hT, fun z => by rw [e2] at z; omega⟩
  | succ n ih =>
    intro M C a1 a2 o3 o4 hn h0 h1 hT
    have e2 : M 2 = M0 2 := hT.1 2 (by decide) (by decide) (by decide) (by decide) (by decide) (by decide) (by decide)
    by_cases hlast : a2 = M0 2 2
    · rw [hlast] at hT ⊢
      exact s_45_8 ⟨fun _ => hq M C a1 hT, fun z => by rw [e2] at z; omega⟩
    have next : ∀ (M' : pm_M) (C' : Int → List Int) (k : Int) (o3 o4 : Option pm_V), TU M0 M' C' k (a2 + 1) → pm_X L (45, 8, [some (.inr (.inl 4)), some (.inl k), some (.inl (a2 + 1)), o3, o4], [], M') Q := fun M' C' k o3 o4 h => ih M' C' k (a2 + 1) o3 o4 (by omega) (by omega) (by omega) h
    have hT0 := hT
    obtain ⟨t1, t2, t3, t4, t5, t6, t7, t8, t9, t10⟩ := hT
    have e13 : M 13 = M0 13 := t1 13 (by decide) (by decide) (by decide) (by decide) (by decide) (by decide) (by decide)
    have e14 : M 14 = M0 14 := t1 14 (by decide) (by decide) (by decide) (by decide) (by decide) (by decide) (by decide)
    have e1 : M 1 = M0 1 := t1 1 (by decide) (by decide) (by decide) (by decide) (by decide) (by decide) (by decide)
    have hat := hcd.at h0 (by omega : a2 < M0 2 2)
    have hrow : ∀ i, M0 14 a2 ≤ i → i < M0 14 (a2 + 1) → 2 ≤ M0 13 i ∧ M0 13 i < 2 * M0 1 6 := fun i i0 i1 => hcd.2.2.2.2.2.2 i (by omega) (by omega)
    refine s_45_8 ⟨fun z => by rw [e2] at z; omega, fun _ => ?_⟩
    rw [e13, e14]
    refine ⟨by unfold pm_R; omega, ⟨by omega, by omega⟩, ⟨by omega, by omega⟩, by unfold pm_R; omega, fun hs => ?_, fun hs => ⟨fun _ => ⟨fun hz => ?_, fun z => absurd z hs⟩, fun z => by omega⟩⟩
    · have hr := hrow (M0 14 a2) (by omega) (by omega)
      refine ⟨⟨by omega, by omega⟩, fun h1' => ?_, fun h2' => ?_⟩
      · have hone : M0 14 (a2 + 1) = M0 14 a2 + 1 := by omega
        have hopb := op_div (M0 13 (M0 14 a2))
        have inone : ∀ l, inC (M0 13) (M0 14) a2 l → l = M0 13 (M0 14 a2) := by
          rintro l ⟨i, i0, i1, i2⟩
          rw [← i2, show i = M0 14 a2 by omega]
        refine ⟨⟨by omega, by omega⟩, fun hopn => ⟨⟨by omega, by omega⟩, fun hon => ?_, fun hno => ⟨fun z => absurd hopn z, fun _ => ?_⟩⟩, fun hopy => ?_⟩
        · -- holds already
          refine next _ C a1 _ _ ⟨t1, t2, t3, t4, t5, t6, t7, t8.up0, t9.skip (by omega), ?_⟩
          rcases t10 with ⟨w1, w2, w3⟩ | ⟨w1, w2⟩
          · exact Or.inl ⟨w1, w2.one (fun _ => (t6 _).mp hon), w3.one (by omega)⟩
          · exact Or.inr ⟨⟨w1.1, by omega⟩, w2⟩
        · -- held now
          have hno' : ¬ onT (M 22) (M 5 4) (M0 13 (M0 14 a2)) := fun z => hno ((t6 _).mpr z)
          have hno2 : ¬ onT (M 22) (M 5 4) (pm_op (M0 13 (M0 14 a2))) := fun z => (t6 _).mpr z hopn
          have hoff := off_T hno' hno2
          have hroom := tr_room t4 t7 t8.1 hr.1 hr.2 hoff
          refine ⟨⟨t4, by omega⟩, by unfold pm_R; omega, ?_⟩
          have fin : TU M0 (hld M (M0 13 (M0 14 a2)) a2) C a1 (a2 + 1) := by
            unfold TU
            rw [hld_c 4 (by decide) (by decide) (by decide) (by decide), hld_c 16 (by decide) (by decide) (by decide) (by decide), hld_c 17 (by decide) (by decide) (by decide) (by decide), hld_54, hld_55, hld_20, hld_21, hld_22]
            refine ⟨fun c c4 c5 c16 c17 c20 c21 c22 => (hld_c c c5 c20 c21 c22).trans (t1 c c4 c5 c16 c17 c20 c21 c22), t2, t3, by omega, fun x => ?_, fun x => ?_, fun i i0 i1 => ?_, ?_, t9.skip (by omega), ?_⟩
            · unfold upf; split
              · exact Or.inr rfl
              · exact t5 x
            · rw [onT_up t4]
              by_cases e : x = M0 13 (M0 14 a2)
              · rw [e, upf_e]; exact ⟨fun _ => Or.inr rfl, fun _ => by decide⟩
              · rw [upf_n _ _ e, t6 x]; exact ⟨Or.inl, fun z => z.elim id (fun z => absurd z e)⟩
            · rcases (by omega : i < M 5 4 ∨ i = M 5 4) with z | z
              · rw [upf_n _ _ (by omega)]; exact t7 i i0 z
              · rw [z, upf_e]; exact hr
            · exact t8.up0.hold hoff ⟨h0, by omega⟩ ⟨M0 14 a2, Int.le_refl _, by omega, rfl⟩ (fun l' hl hne => absurd (inone l' hl) hne) (fun z => absurd z (by decide))
            · rcases t10 with ⟨w1, w2, w3⟩ | ⟨w1, w2⟩
              · exact Or.inl ⟨w1, w2.hold.one (fun _ => (onT_up t4).mpr (Or.inr rfl)), w3.one (by omega)⟩
              · exact Or.inr ⟨⟨w1.1, by omega⟩, fun l hl => (onT_up t4).mpr (Or.inl (w2 l hl))⟩
          exact next _ C a1 _ _ fin
        · -- clashes
          exact next _ C a2 _ _ ⟨t1, t2, t3, t4, t5, t6, t7, t8.up0, t9.skip (by omega), Or.inr ⟨⟨h0, by omega⟩, fun l hl => by rw [inone l hl]; exact (t6 _).mp hopy⟩⟩
      · -- watched
        refine p_52 (C := C) (by rw [e13, e14, e1]; exact t9) h0 (by omega) (by rw [e14]; omega) (by rw [e14]; omega) (by rw [e14]; omega) (by rw [e1]; omega) (by rw [e13, e14, e1]; exact fun i i0 i1 => by have := hrow i i0 i1; omega) (by rw [e13, e14]; exact fun z => hN a2 (M0 14 a2) (M0 14 a2 + 1) h0 (by omega) (Int.le_refl _) (by omega) (by omega) z.symm) (fun M2 C' s1 s2 => x_bkv rfl (s_45_65 ⟨by unfold pm_R; omega, ?_⟩))
        rw [e13, e14, e1] at s2
        have fin : TU M0 M2 C' a1 (a2 + 1) := by
          unfold TU
          rw [s1 4 (by decide) (by decide), s1 5 (by decide) (by decide), s1 20 (by decide) (by decide), s1 21 (by decide) (by decide), s1 22 (by decide) (by decide)]
          refine ⟨fun c c4 c5 c16 c17 c20 c21 c22 => (s1 c c16 c17).trans (t1 c c4 c5 c16 c17 c20 c21 c22), t2, t3, t4, t5, t6, t7, t8.up0, s2, ?_⟩
          rcases t10 with ⟨w1, w2, w3⟩ | ⟨w1, w2⟩
          · exact Or.inl ⟨w1, w2.one (fun z => by omega), w3.one (by omega)⟩
          · exact Or.inr ⟨⟨w1.1, by omega⟩, w2⟩
        exact next _ C' a1 _ _ fin
    · -- empty
      exact next _ C a2 _ _ ⟨t1, t2, t3, t4, t5, t6, t7, t8.up0, t9.skip (by omega), Or.inr ⟨⟨h0, by omega⟩, fun l ⟨i, i0, i1, _⟩ => by omega⟩⟩
theorem p_45 {L : Nat} {Q : pm_P} {M : pm_M} (hcd : CD (M 13) (M 14) (M 2 2) (M 2 3) (M 1 6)) (hF : 1 ≤ M 1 6 ∧ M 1 6 ≤ 2000) (hN : ND (M 13) (M 14) (M 2 2)) (h1 : M 5 4 ≤ 2000) (h2 : ∀ i, 0 ≤ i → i < M 5 4 → 0 ≤ M 22 i ∧ M 22 i < 4000) (h3 : ∀ l, M 20 l ≠ 0 → onT (M 22) (M 5 4) l)
    (hq : ∀ (M' : pm_M) (C' : Int → List Int) (k : Int), TU M M' C' k (M 2 2) → Q (.inl (some (.inl k))) M') :
    pm_X L (45, 0, [some (.inr (.inl 4)), none, none, none, none], [], M) Q := by
  refine s_45_0 (p_44 (by omega) hF.2 h1 h2 h3 (fun M1 q1 q2 q3 q4 q5 q6 => x_bkv rfl (s_45_4 ?_)))
  refine p_45l hcd hF hN hq _ M1 (fun _ => []) _ _ none none (Nat.le_refl _) (Int.le_refl _) hcd.1 ?_
  refine ⟨fun c c4 c5 c16 _ c20 _ _ => q1 c c4 c5 c16 c20, q2, q4, by omega, fun l => Or.inl (q5 l), fun l => ?_, fun i i0 i1 => by omega, ?_, ?_, Or.inl ⟨rfl, fun c c0 c1 => by omega, fun c c0 c1 => by omega⟩⟩
  · rw [q5 l, q3]
    exact ⟨fun z => absurd rfl z, fun ⟨i, i0, i1, _⟩ => by omega⟩
  · rw [q3]
    exact ⟨fun i j i0 i1 => by omega, fun t t0 t1 => by omega, fun t u t0 t1 t2 => by omega, fun t t0 t1 => by omega, fun i i0 i1 => by omega, fun i i0 i1 => by omega, fun i t i0 i1 => by omega, fun t c t0 t1 => by omega⟩
  · exact ⟨fun l l0 l1 => ⟨q6 l l0 l1, List.nodup_nil⟩, fun l w l0 l1 hw => absurd hw (List.not_mem_nil), fun w w0 w1 => by omega⟩
