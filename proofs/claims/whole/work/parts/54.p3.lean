/-! PURE: leaveFailing -/
theorem SI.move {M M' : pm_M} {C : Int → List Int} {p : Int} (h : SI M C p) (hp : p ≤ M 5 4) {l w r : Int} {pre post : List Int} (hl0 : 0 ≤ l) (hl1 : l < 2 * M 1 6) (hC : C l = pre ++ w :: post) (hfail : onT (M 22) (M 5 4) (pm_op l)) (hr : M 14 (w / 2) + 2 ≤ r) (hr2 : r < M 14 (w / 2 + 1)) (hfree : ¬ onT (M 22) (M 5 4) (pm_op (M 13 r)))
    (e0 : ∀ c, c ≠ 13 → c ≠ 16 → c ≠ 17 → M' c = M c) (e13 : M' 13 = swp (M 13) (M 14 (w / 2) + w % 2) r)
    (hcase : (pre = [] ∧ M' 17 = upf (M 17) w (M 16 (M 13 r)) ∧ M' 16 = upf (upf (M 16) (M 13 r) w) l (M 17 w)) ∨ ∃ q b, pre = q ++ [b] ∧ M' 17 = upf (upf (M 17) w (M 16 (M 13 r))) b (M 17 w) ∧ M' 16 = upf (M 16) (M 13 r) w) :
    SI M' (fun x => if x = l then pre ++ post else if x = M 13 r then w :: C (M 13 r) else C x) p ∧ (∀ c x, 0 ≤ c → c < M 2 2 → (inC (M' 13) (M' 14) c x ↔ inC (M 13) (M 14) c x)) := by
  obtain ⟨a1, a2, a3, a4, a5, a6, a7, a8, a9, a10, a11, a12⟩ := h
  have hwin : w ∈ C l := by rw [hC]; exact List.mem_append_right _ List.mem_cons_self
  obtain ⟨w0, w1, w2, w3⟩ := a12.2.1 l w hl0 hl1 hwin
  have hat := a1.at (c := w / 2) (by omega) w1
  have hlr := a1.2.2.2.2.2.2 r (by omega) (by omega)
  have hab : r ≠ M 14 (w / 2) + w % 2 := by omega
  have hK := swp_K a1 (c := w / 2) (a := M 14 (w / 2) + w % 2) (b := r) (by omega) w1 (by omega) (by omega) (by omega) hr2 hab
  have hne : M 13 r ≠ l := fun z => hfree (by rw [z]; exact hfail)
  have hch := a12.move a1 hl0 hl1 hC hr hr2 hne (by omega) hlr.2 hcase
  have f1 : M' 1 = M 1 := e0 1 (by decide) (by decide) (by decide)
  have f2 : M' 2 = M 2 := e0 2 (by decide) (by decide) (by decide)
  have f5 : M' 5 = M 5 := e0 5 (by decide) (by decide) (by decide)
  have f14 : M' 14 = M 14 := e0 14 (by decide) (by decide) (by decide)
  have f20 : M' 20 = M 20 := e0 20 (by decide) (by decide) (by decide)
  have f21 : M' 21 = M 21 := e0 21 (by decide) (by decide) (by decide)
  have f22 : M' 22 = M 22 := e0 22 (by decide) (by decide) (by decide)
  have f23 : M' 23 = M 23 := e0 23 (by decide) (by decide) (by decide)
  unfold SI
  rw [f1, f2, f5, f14, f20, f21, f22, f23, e13]
  refine ⟨⟨a1.swap (by omega) w1 (by omega) (by omega) (by omega) hr2, a2, a3, a4, a5, a6, a7.same hK, ?_, ?_, a10, a11.swap a1 (by omega) w1 (by omega) (by omega) (by omega) hr2 hab, hch⟩, hK⟩
  · intro c b q c0 c1 hs hb q0 q1 hq
    by_cases ec : c = w / 2
    · subst ec
      by_cases eb : b = w % 2
      · subst eb
        rw [swp_a] at hq
        exact absurd ⟨q, q0, by omega, hq⟩ hfree
      · have hbb : b = 1 - w % 2 := by omega
        rw [swp_o (by omega) (by omega)] at hq
        obtain ⟨v, v0, v1, v2, -⟩ := a8 (w / 2) b q c0 c1 hs hb q0 q1 hq
        rw [show M 14 (w / 2) + (1 - b) = M 14 (w / 2) + w % 2 by omega, w3] at v2
        exact absurd hfail (fun z => a7.two ⟨v, v0, v1, v2⟩ z)
    · have k1 : ∀ j, j = 0 ∨ j = 1 → swp (M 13) (M 14 (w / 2) + w % 2) r (M 14 c + j) = M 13 (M 14 c + j) := by
        intro j hj
        refine swp_o (fun z => ec ?_) (fun z => ec ?_)
        · exact a1.apart c0 c1 (by omega) w1 (i := M 14 c + j) (by omega) (by omega) (by omega) (by omega)
        · exact a1.apart c0 c1 (by omega) w1 (i := M 14 c + j) (by omega) (by omega) (by omega) (by omega)
      rw [k1 b hb] at hq
      obtain ⟨v, v0, v1, v2, v3⟩ := a8 c b q c0 c1 hs hb q0 q1 hq
      exact ⟨v, v0, v1, by rw [k1 (1 - b) (by omega)]; exact v2, v3⟩
  · intro c c0 c1 hs
    have ec : c ≠ w / 2 := fun z => by subst z; omega
    have k1 : swp (M 13) (M 14 (w / 2) + w % 2) r (M 14 c) = M 13 (M 14 c) := by
      refine swp_o (fun z => ec ?_) (fun z => ec ?_)
      · exact a1.apart c0 c1 (by omega) w1 (i := M 14 c) (by omega) (by omega) (by omega) (by omega)
      · exact a1.apart c0 c1 (by omega) w1 (i := M 14 c) (by omega) (by omega) (by omega) (by omega)
    rw [k1]
    exact a9 c c0 c1 hs
/-- what following leaves as it was -/
def FR (M M' : pm_M) : Prop := (∀ c, c ≠ 5 → c ≠ 13 → c ≠ 16 → c ≠ 17 → c ≠ 20 → c ≠ 21 → c ≠ 22 → M' c = M c) ∧ M' 5 5 = M 5 5 ∧ M 5 4 ≤ M' 5 4 ∧ (∀ i, 0 ≤ i → i < M 5 4 → M' 22 i = M 22 i) ∧ ∀ c x, 0 ≤ c → c < M 2 2 → (inC (M' 13) (M' 14) c x ↔ inC (M 13) (M 14) c x)
theorem FR.rf (M : pm_M) : FR M M := ⟨fun _ _ _ _ _ _ _ _ => rfl, rfl, Int.le_refl _, fun _ _ _ => rfl, fun _ _ _ _ => Iff.rfl⟩
theorem FR.tr {M M1 M2 : pm_M} (h : FR M M1) (g : FR M1 M2) : FR M M2 := by
  obtain ⟨h1, h2, h3, h4, h5⟩ := h
  obtain ⟨g1, g2, g3, g4, g5⟩ := g
  have e2 : M1 2 = M 2 := h1 2 (by decide) (by decide) (by decide) (by decide) (by decide) (by decide) (by decide)
  exact ⟨fun c a b c' d e f g => (g1 c a b c' d e f g).trans (h1 c a b c' d e f g), g2.trans h2, Int.le_trans h3 g3, fun i i0 i1 => (g4 i i0 (by omega)).trans (h4 i i0 i1), fun c x c0 c1 => (g5 c x c0 (by rw [e2]; exact c1)).trans (h5 c x c0 c1)⟩
theorem FR.hold {M : pm_M} {l c : Int} (hn : 0 ≤ M 5 4) : FR M (hld M l c) := by
  refine ⟨fun a h1 _ _ _ h5 h6 h7 => hld_c a h1 h5 h6 h7, hld_55, by rw [hld_54]; omega, fun i i0 i1 => by rw [hld_22, upf_n _ _ (by omega)], fun c x _ _ => ?_⟩
  rw [hld_c 13 (by decide) (by decide) (by decide) (by decide), hld_c 14 (by decide) (by decide) (by decide) (by decide)]
theorem p_48l {L : Nat} {Q : pm_P} {l p : Int} : ∀ (post : List Int) (M : pm_M) (C : Int → List Int) (pre : List Int) (a2 a3 a4 : Int) (o5 o6 o7 o8 : Option pm_V), SI M C p → p < M 5 4 → 0 ≤ p → M 22 p = pm_op l → 2 ≤ l → l < 2 * M 1 6 → (∀ t, 0 ≤ t → t < M 5 5 → M 23 t ≤ p) → C l = pre ++ post → Ch (M 17) a3 post →
    ((pre = [] ∧ a2 = -1) ∨ ∃ q, pre = q ++ [a2]) → (∀ w ∈ pre, onT (M 22) (M 5 4) (M 13 (M 14 (w / 2) + (1 - w % 2)))) → 0 ≤ a4 → a4 + post.length ≤ 32232 →
    (∀ (M' : pm_M) (C' : Int → List Int), SI M' C' (p + 1) → FR M M' → Q (.inl (some (.inl (-1)))) M') →
    (∀ (M' : pm_M) (C' : Int → List Int) (c : Int), SI M' C' p → FR M M' → 0 ≤ c → c < M' 2 2 → (∀ l', inC (M' 13) (M' 14) c l' → onT (M' 22) (M' 5 4) (pm_op l')) → inC (M' 13) (M' 14) c l → Q (.inl (some (.inl c))) M') →
    pm_X L (48, 12, [some (.inr (.inl 4)), some (.inl l), some (.inl a2), some (.inl a3), some (.inl a4), o5, o6, o7, o8], [], M) Q := by
  intro post
  induction post with
  | nil =>
    intro M C pre a2 a3 a4 o5 o6 o7 o8 hS hpn hp0 hpl hl0 hl1 htop hC hch hst hpre ha4 hlen hq1 hq2
    have h3 : a3 = -1 := hch
    have fin : SI M C (p + 1) := by
      obtain ⟨b1, b2, b3, b4, b5, b6, b7, b8, b9, b10, b11, b12⟩ := hS
      refine ⟨b1, b2, b3, b4, b5, b6, b7, ?_, b9, b10, b11, b12⟩
      intro c b q c0 c1 hs hb q0 q1 hq
      rcases (by omega : q < p ∨ q = p) with z | z
      · exact b8 c b q c0 c1 hs hb q0 z hq
      · subst z
        have hb2 : M 13 (M 14 c + b) = l := op_inj (hq.symm.trans hpl)
        have e1 : (2 * c + b) / 2 = c := by omega
        have e2 : (2 * c + b) % 2 = b := by omega
        have hin := b12.2.2 (2 * c + b) (by omega) (by rw [e1]; exact c1) (by rw [e1]; exact hs)
        rw [e1, e2, hb2, hC, List.append_nil] at hin
        obtain ⟨v, v0, v1, v2⟩ := hpre _ hin
        rw [e1, e2] at v2
        exact ⟨v, v0, v1, v2, fun t t0 t1 ht => by have := htop t t0 t1; omega⟩
    exact s_48_12 ⟨fun _ => hq1 M C fin (FR.rf M), fun _ => ⟨fun _ => hq1 M C fin (FR.rf M), fun z => absurd h3 z⟩⟩
  | cons w0 xs ih =>
    intro M C pre a2 a3 a4 o5 o6 o7 o8 hS hpn hp0 hpl hl0 hl1 htop hC hch hst hpre ha4 hlen hq1 hq2
    obtain ⟨ew, hw0, hnext⟩ := hch
    subst ew
    have hS0 := hS
    obtain ⟨b1, b2, b3, b4, b5, b6, b7, b8, b9, b10, b11, b12⟩ := hS
    have hlen2 : a4 + ((xs.length + 1 : Nat) : Int) ≤ 32232 := hlen
    have hwin : a3 ∈ C l := by rw [hC]; exact List.mem_append_right _ List.mem_cons_self
    obtain ⟨-, w1, w2, w3⟩ := b12.2.1 l a3 (by omega) hl1 hwin
    have hat := b1.at (c := a3 / 2) (by omega) w1
    have hm := op_mod a3
    have htot := b1.2.1
    have hused := b1.2.2.2.2.1
    have hoi := b1.2.2.2.2.2.2 (M 14 (a3 / 2) + (pm_op a3) % 2) (by omega) (by omega)
    have hfail : onT (M 22) (M 5 4) (pm_op l) := ⟨p, hp0, hpn, hpl⟩
    have hoe : M 14 (a3 / 2) + (pm_op a3) % 2 = M 14 (a3 / 2) + (1 - a3 % 2) := by omega
    have hnol : M 13 (M 14 (a3 / 2) + (pm_op a3) % 2) ≠ l := by
      intro z
      rw [hoe] at z
      rcases (by omega : a3 % 2 = 0 ∨ a3 % 2 = 1) with q | q
      · exact b11 (a3 / 2) (M 14 (a3 / 2) + a3 % 2) (M 14 (a3 / 2) + (1 - a3 % 2)) (by omega) w1 (by omega) (by omega) (by omega) (w3.trans z.symm)
      · exact b11 (a3 / 2) (M 14 (a3 / 2) + (1 - a3 % 2)) (M 14 (a3 / 2) + a3 % 2) (by omega) w1 (by omega) (by omega) (by omega) (z.trans w3.symm)
    have hin_l : inC (M 13) (M 14) (a3 / 2) l := ⟨M 14 (a3 / 2) + a3 % 2, by omega, by omega, w3⟩
    have hin_o : inC (M 13) (M 14) (a3 / 2) (M 13 (M 14 (a3 / 2) + (pm_op a3) % 2)) := ⟨_, by omega, by omega, rfl⟩
    have hnd := (b12.1 l (by omega) hl1).2
    rw [hC] at hnd
    have hnd2 := List.nodup_append.mp hnd
    have hnd3 := List.nodup_cons.mp hnd2.2.1
    have hst' : ((pre ++ [a3]) = [] ∧ a3 = -1) ∨ ∃ q, pre ++ [a3] = q ++ [a3] := Or.inr ⟨pre, rfl⟩
    have hC' : C l = (pre ++ [a3]) ++ xs := by rw [hC, List.append_assoc]; rfl
    have hnmem : ∀ x, M 20 x = 0 → ¬ onT (M 22) (M 5 4) x := fun x z y => ((b5 x).mpr y) z
    -- the watch stays, the other holds
    have stay : ∀ (o8' : Option pm_V), onT (M 22) (M 5 4) (M 13 (M 14 (a3 / 2) + (pm_op a3) % 2)) → pm_X L (48, 12, [some (.inr (.inl 4)), some (.inl l), some (.inl a3), some (.inl (M 17 a3)), some (.inl (a4 + 1)), some (.inl (M 17 a3)), some (.inl (a3 / 2)), some (.inl (M 13 (M 14 (a3 / 2) + (pm_op a3) % 2))), o8'], [], M) Q := by
      intro o8' hon
      refine ih M C (pre ++ [a3]) _ _ _ _ _ _ _ hS0 hpn hp0 hpl hl0 hl1 htop hC' hnext hst' (fun w hw => ?_) (by omega) (by omega) hq1 hq2
      rcases List.mem_append.mp hw with z | z
      · exact hpre w z
      · rw [List.mem_singleton.mp z, ← hoe]; exact hon
    refine s_48_12 ⟨fun z => by omega, fun _ => ⟨fun z => by omega, fun _ => ⟨⟨hw0, by omega⟩, ⟨by omega, by omega⟩, by unfold pm_R; omega, ⟨by omega, by omega⟩, ⟨by omega, by omega⟩, fun hz => ?_, fun hz => ?_⟩⟩⟩
    · -- the other doesn't hold: is there a place?
      refine p_49 (by omega) (by omega) (by omega) (by omega) (by omega) (fun i i1 i2 => by have := b1.2.2.2.2.2.2 i (by omega) (by omega); omega) (fun hno => x_bki rfl ?_) (fun r r1 r2 r3 => x_bki rfl ?_)
      · -- none: it forces or clashes
        have hall : ∀ l', inC (M 13) (M 14) (a3 / 2) l' → l' ≠ M 13 (M 14 (a3 / 2) + (pm_op a3) % 2) → onT (M 22) (M 5 4) (pm_op l') := by
          rintro l' ⟨i, i1, i2, i3⟩ hne
          rcases (by omega : i = M 14 (a3 / 2) + a3 % 2 ∨ i = M 14 (a3 / 2) + (1 - a3 % 2) ∨ M 14 (a3 / 2) + 2 ≤ i) with z | z | z
          · rw [← i3, z, w3]; exact hfail
          · rw [z, ← hoe] at i3; exact absurd i3.symm hne
          · rw [← i3]; exact (b5 _).mp (hno i z i2)
        refine s_48_90 ⟨fun _ => ⟨⟨op_lo (by omega), op_hi (n := 2000) (by omega)⟩, fun d => ⟨⟨by omega, by omega⟩, fun e => absurd hz e, fun _ => ?_⟩, fun d => ?_⟩, fun z => absurd rfl z⟩
        · have hoff := off_T (hnmem _ hz) (hnmem _ d)
          have hroom := hS0.room (l := M 13 (M 14 (a3 / 2) + (pm_op a3) % 2)) (by omega) (by omega) hoff
          have hS1 := hS0.hold (by omega) (l := M 13 (M 14 (a3 / 2) + (pm_op a3) % 2)) (c := a3 / 2) (by omega) (by omega) hoff ⟨by omega, w1⟩ hin_o hall (fun hlv => ⟨l, p, hin_l, fun z => hnol z.symm, htop _ (by omega) (by omega), hpn, hpl⟩)
          refine ⟨⟨by omega, by omega⟩, by unfold pm_R; omega, by unfold pm_R; omega, ?_⟩
          have g1 : hld M (M 13 (M 14 (a3 / 2) + (pm_op a3) % 2)) (a3 / 2) 1 = M 1 := hld_c 1 (by decide) (by decide) (by decide) (by decide)
          have g13 : hld M (M 13 (M 14 (a3 / 2) + (pm_op a3) % 2)) (a3 / 2) 13 = M 13 := hld_c 13 (by decide) (by decide) (by decide) (by decide)
          have g14 : hld M (M 13 (M 14 (a3 / 2) + (pm_op a3) % 2)) (a3 / 2) 14 = M 14 := hld_c 14 (by decide) (by decide) (by decide) (by decide)
          have g17 : hld M (M 13 (M 14 (a3 / 2) + (pm_op a3) % 2)) (a3 / 2) 17 = M 17 := hld_c 17 (by decide) (by decide) (by decide) (by decide)
          have g23 : hld M (M 13 (M 14 (a3 / 2) + (pm_op a3) % 2)) (a3 / 2) 23 = M 23 := hld_c 23 (by decide) (by decide) (by decide) (by decide)
          have hF := FR.hold (M := M) (l := M 13 (M 14 (a3 / 2) + (pm_op a3) % 2)) (c := a3 / 2) b3.1
          refine ih (hld M (M 13 (M 14 (a3 / 2) + (pm_op a3) % 2)) (a3 / 2)) C (pre ++ [a3]) _ _ _ _ _ _ _ hS1 (by rw [hld_54]; omega) hp0 ?_ hl0 (by rw [g1]; exact hl1) (by rw [hld_55, g23]; exact htop) hC' (by rw [g17]; exact hnext) hst' (fun w hw => ?_) (by omega) (by omega) (fun M' C' q1 q2 => hq1 M' C' q1 (hF.tr q2)) (fun M' C' c q1 q2 => hq2 M' C' c q1 (hF.tr q2))
          · rw [hld_22, upf_n _ _ (by omega)]; exact hpl
          · rw [hld_22, hld_54, g13, g14, onT_up b3.1]
            rcases List.mem_append.mp hw with z | z
            · exact Or.inl (hpre w z)
            · rw [List.mem_singleton.mp z, ← hoe]; exact Or.inr rfl
        · refine hq2 M C (a3 / 2) hS0 (FR.rf M) (by omega) w1 (fun l' hl' => ?_) hin_l
          by_cases e : l' = M 13 (M 14 (a3 / 2) + (pm_op a3) % 2)
          · rw [e]; exact (b5 _).mp d
          · exact hall l' hl' e
      · -- a place: the watch moves
        have hri := b1.2.2.2.2.2.2 r (by omega) (by omega)
        have hnl : M 13 r ≠ l := fun z => hnmem _ r3 (by rw [z]; exact hfail)
        have cont : ∀ M' : pm_M, (∀ c, c ≠ 13 → c ≠ 16 → c ≠ 17 → M' c = M c) → M' 13 = swp (M 13) (M 14 (a3 / 2) + a3 % 2) r →
            ((pre = [] ∧ M' 17 = upf (M 17) a3 (M 16 (M 13 r)) ∧ M' 16 = upf (upf (M 16) (M 13 r) a3) l (M 17 a3)) ∨ ∃ q b, pre = q ++ [b] ∧ M' 17 = upf (upf (M 17) a3 (M 16 (M 13 r))) b (M 17 a3) ∧ M' 16 = upf (M 16) (M 13 r) a3) →
            pm_X L (48, 12, [some (.inr (.inl 4)), some (.inl l), some (.inl a2), some (.inl (M 17 a3)), some (.inl (a4 + 1)), some (.inl (M 17 a3)), some (.inl (a3 / 2)), some (.inl (M 13 (M 14 (a3 / 2) + (pm_op a3) % 2))), some (.inl r)], [], M') Q := by
          intro M' e0 e13 hcase
          obtain ⟨hS1, hK⟩ := hS0.move (by omega) (by omega) hl1 hC hfail r1 r2 (hnmem _ r3) e0 e13 hcase
          have f1 : M' 1 = M 1 := e0 1 (by decide) (by decide) (by decide)
          have f2 : M' 2 = M 2 := e0 2 (by decide) (by decide) (by decide)
          have f5 : M' 5 = M 5 := e0 5 (by decide) (by decide) (by decide)
          have f14 : M' 14 = M 14 := e0 14 (by decide) (by decide) (by decide)
          have f22 : M' 22 = M 22 := e0 22 (by decide) (by decide) (by decide)
          have f23 : M' 23 = M 23 := e0 23 (by decide) (by decide) (by decide)
          have hF : FR M M' := ⟨fun c _ c13 c16 c17 _ _ _ => e0 c c13 c16 c17, by rw [f5], by rw [f5]; exact Int.le_refl _, fun i _ _ => by rw [f22], hK⟩
          refine ih M' _ pre _ _ _ _ _ _ _ hS1 (by rw [f5]; exact hpn) hp0 (by rw [f22]; exact hpl) hl0 (by rw [f1]; exact hl1) (by rw [f5, f23]; exact htop) (if_pos rfl) ?_ hst (fun w hw => ?_) (by omega) (by omega) (fun M2 C2 q1 q2 => hq1 M2 C2 q1 (hF.tr q2)) (fun M2 C2 c q1 q2 => hq2 M2 C2 c q1 (hF.tr q2))
          · rcases hcase with ⟨-, e2, -⟩ | ⟨q, b, e1, e2, -⟩
            · rw [e2]; exact Ch.upd _ _ hnext hnd3.1
            · rw [e2]
              exact Ch.upd _ _ (Ch.upd _ _ hnext hnd3.1) (fun z => hnd2.2.2 b (by rw [e1]; exact List.mem_append_right _ List.mem_cons_self) b (List.mem_cons_of_mem _ z) rfl)
          · rw [f22, f5, f14, e13]
            have hwC : w ∈ C l := by rw [hC]; exact List.mem_append_left _ hw
            obtain ⟨y0, y1, y2, y3⟩ := b12.2.1 l w (by omega) hl1 hwC
            have hww : w ≠ a3 := fun z => hnd2.2.2 w hw a3 List.mem_cons_self z
            -- the sibling isn't the moved watch
            have hsib : 2 * (w / 2) + (1 - w % 2) ≠ a3 := by
              intro z
              have q1 : a3 / 2 = w / 2 := by omega
              have q2 : a3 % 2 = 1 - w % 2 := by omega
              rw [q1, q2] at w3
              rcases (by omega : w % 2 = 0 ∨ w % 2 = 1) with q | q
              · exact b11 (w / 2) (M 14 (w / 2) + w % 2) (M 14 (w / 2) + (1 - w % 2)) (by omega) y1 (by omega) (by omega) (by omega) (y3.trans w3.symm)
              · exact b11 (w / 2) (M 14 (w / 2) + (1 - w % 2)) (M 14 (w / 2) + w % 2) (by omega) y1 (by omega) (by omega) (by omega) (w3.trans y3.symm)
            have e1 : (2 * (w / 2) + (1 - w % 2)) / 2 = w / 2 := by omega
            have e2 : (2 * (w / 2) + (1 - w % 2)) % 2 = 1 - w % 2 := by omega
            have hmv := mv_pos b1 (w := a3) (y := 2 * (w / 2) + (1 - w % 2)) (r := r) hw0 w1 w2 (by omega) (by rw [e1]; exact y1) (by rw [e1]; exact y2) r1 r2 hsib
            rw [e1, e2] at hmv
            rw [hmv]
            exact hpre w hw
        have sw : pm_set (pm_set M 13 r (M 13 (M 14 (a3 / 2) + a3 % 2))) 13 (M 14 (a3 / 2) + a3 % 2) (M 13 r) 13 = swp (M 13) (M 14 (a3 / 2) + a3 % 2) r := by
          rw [pm_cell, if_pos rfl, pm_cell, if_pos rfl]; rfl
        refine s_48_90 ⟨fun z => by omega, fun _ => ⟨⟨by omega, by omega⟩, by unfold pm_R; omega, ⟨by omega, by omega⟩, ⟨by omega, by omega⟩, ⟨by omega, by omega⟩, ⟨hw0, by omega⟩, fun hs => ?_, fun hs => ?_⟩⟩
        · rcases hst with ⟨-, z⟩ | ⟨q, hq⟩
          · exact absurd z hs
          · have ha2 : a2 ∈ C l := by rw [hC, hq]; exact List.mem_append_left _ (List.mem_append_right _ List.mem_cons_self)
            obtain ⟨y0, y1, -, -⟩ := b12.2.1 l a2 (by omega) hl1 ha2
            refine ⟨⟨y0, by omega⟩, by unfold pm_R; omega, cont _ (fun c c13 c16 c17 => ?_) ?_ (Or.inr ⟨q, a2, hq, ?_, ?_⟩)⟩
            · rw [pm_set_off c c17, pm_set_off c c16, pm_set_off c c17, pm_set_off c c13, pm_set_off c c13]
            · rw [pm_set_off 13 (by decide), pm_set_off 13 (by decide), pm_set_off 13 (by decide)]; exact sw
            · rw [pm_cell, if_pos rfl, pm_set_off 17 (by decide), pm_cell, if_pos rfl, pm_set_off 17 (by decide), pm_set_off 17 (by decide)]
            · rw [pm_set_off 16 (by decide), pm_cell, if_pos rfl, pm_set_off 16 (by decide), pm_set_off 16 (by decide), pm_set_off 16 (by decide)]
        · rcases hst with ⟨z, za⟩ | ⟨q, hq⟩
          · refine ⟨⟨by omega, by omega⟩, by unfold pm_R; omega, cont _ (fun c c13 c16 c17 => ?_) ?_ (Or.inl ⟨z, ?_, ?_⟩)⟩
            · rw [pm_set_off c c16, pm_set_off c c16, pm_set_off c c17, pm_set_off c c13, pm_set_off c c13]
            · rw [pm_set_off 13 (by decide), pm_set_off 13 (by decide), pm_set_off 13 (by decide)]; exact sw
            · rw [pm_set_off 17 (by decide), pm_set_off 17 (by decide), pm_cell, if_pos rfl, pm_set_off 17 (by decide), pm_set_off 17 (by decide)]
            · rw [pm_cell, if_pos rfl, pm_cell, if_pos rfl, pm_set_off 16 (by decide), pm_set_off 16 (by decide), pm_set_off 16 (by decide)]
          · exfalso
            have ha2 : a2 ∈ C l := by rw [hC, hq]; exact List.mem_append_left _ (List.mem_append_right _ List.mem_cons_self)
            have := (b12.2.1 l a2 (by omega) hl1 ha2).1
            exact hs (by omega)
    · have hon := (b5 _).mp hz
      refine s_48_90 ⟨fun _ => ⟨⟨op_lo (by omega), op_hi (n := 2000) (by omega)⟩, fun d => ⟨⟨by omega, by omega⟩, fun _ => ⟨by unfold pm_R; omega, stay _ hon⟩, fun e => absurd hz e⟩, fun d => absurd ((b5 _).mp d) (fun z => b7.two hon z)⟩, fun z => absurd rfl z⟩
