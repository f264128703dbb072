/-! A WATCH MOVES -/
section MV
variable {fw nw lits st : Int → Int} {tot used F : Int} {C : Int → List Int}
/-- another watch's place isn't touched -/
theorem mv_pos (hcd : CD lits st tot used F) {w y r : Int} (w0 : 0 ≤ w) (w1 : w / 2 < tot) (w2 : st (w / 2) + 2 ≤ st (w / 2 + 1)) (y0 : 0 ≤ y) (y1 : y / 2 < tot) (y2 : st (y / 2) + 2 ≤ st (y / 2 + 1)) (hr : st (w / 2) + 2 ≤ r) (hr2 : r < st (w / 2 + 1)) (hy : y ≠ w) :
    swp lits (st (w / 2) + w % 2) r (st (y / 2) + y % 2) = lits (st (y / 2) + y % 2) := by
  by_cases e : y / 2 = w / 2
  · rw [e]
    exact swp_o (by omega) (by omega)
  · refine swp_o (fun z => e ?_) (fun z => e ?_)
    · exact hcd.apart (by omega) y1 (by omega) w1 (i := st (y / 2) + y % 2) (by omega) (by omega) (by omega) (by omega)
    · exact hcd.apart (by omega) y1 (by omega) w1 (i := st (y / 2) + y % 2) (by omega) (by omega) (by omega) (by omega)
theorem CH.move (h : CH fw nw lits st tot F C) (hcd : CD lits st tot used F) {l w r : Int} {pre post : List Int} (hl0 : 0 ≤ l) (hl1 : l < 2 * F) (hC : C l = pre ++ w :: post) (hr : st (w / 2) + 2 ≤ r) (hr2 : r < st (w / 2 + 1)) (hne : lits r ≠ l) (hl2 : 0 ≤ lits r) (hl3 : lits r < 2 * F) {fw' nw' : Int → Int}
    (hcase : (pre = [] ∧ nw' = upf nw w (fw (lits r)) ∧ fw' = upf (upf fw (lits r) w) l (nw w)) ∨ ∃ q b, pre = q ++ [b] ∧ nw' = upf (upf nw w (fw (lits r))) b (nw w) ∧ fw' = upf fw (lits r) w) :
    CH fw' nw' (swp lits (st (w / 2) + w % 2) r) st tot F (fun x => if x = l then pre ++ post else if x = lits r then w :: C (lits r) else C x) := by
  obtain ⟨g1, g2, g3⟩ := h
  have hwin : w ∈ C l := by rw [hC]; exact List.mem_append_right _ List.mem_cons_self
  obtain ⟨w0, w1, w2, w3⟩ := g2 l w hl0 hl1 hwin
  obtain ⟨cl, nl⟩ := g1 l hl0 hl1
  rw [hC] at cl nl
  have nl2 := List.nodup_append.mp nl
  have nl3 := List.nodup_cons.mp nl2.2.1
  have wpre : w ∉ pre := fun z => nl2.2.2 w z w List.mem_cons_self rfl
  have hpp : ∀ b, b ∈ pre → b ∉ post := fun b hb z => nl2.2.2 b hb b (List.mem_cons_of_mem _ z) rfl
  have npp : (pre ++ post).Nodup := List.nodup_append.mpr ⟨nl2.1, nl3.2, fun a ha b hb => nl2.2.2 a ha b (List.mem_cons_of_mem _ hb)⟩
  have hdis : ∀ x y, 0 ≤ x → x < 2 * F → x ≠ l → y ∈ C x → y ∉ C l := fun x y x0 x1 hx hy z => hx (((g2 x y x0 x1 hy).2.2.2).symm.trans (g2 l y hl0 hl1 z).2.2.2)
  have hpost : Ch nw (nw w) post := by
    obtain ⟨v, a, -⟩ := Ch.mid pre (fw l) (w :: post) cl
    obtain ⟨e1, -, e3⟩ := a
    exact e3
  have hbl : ∀ q b, pre = q ++ [b] → b ∈ C l ∧ b ≠ w ∧ b ∈ pre := by
    intro q b hq
    have h1 : b ∈ pre := by rw [hq]; exact List.mem_append_right _ List.mem_cons_self
    exact ⟨by rw [hC]; exact List.mem_append_left _ h1, fun z => wpre (z ▸ h1), h1⟩
  -- a chain of another literal stays
  have hoth : ∀ (x v : Int), 0 ≤ x → x < 2 * F → x ≠ l → Ch nw v (C x) → Ch nw' v (C x) := by
    intro x v x0 x1 hx hc
    have hw : w ∉ C x := fun z => hdis x w x0 x1 hx z hwin
    rcases hcase with ⟨-, e2, -⟩ | ⟨q, b, e1, e2, -⟩
    · rw [e2]; exact Ch.upd _ _ hc hw
    · rw [e2]; exact Ch.upd _ _ (Ch.upd _ _ hc hw) (fun z => hdis x b x0 x1 hx z (hbl q b e1).1)
  refine ⟨fun x x0 x1 => ?_, fun x y x0 x1 hy => ?_, fun y y0 y1 y2 => ?_⟩
  · by_cases hx : x = l
    · subst hx
      dsimp only
      rw [if_pos rfl]
      refine ⟨?_, npp⟩
      rcases hcase with ⟨e1, e2, e3⟩ | ⟨q, b, e1, e2, e3⟩
      · rw [e3, upf_e, e2, e1]
        exact Ch.upd _ _ hpost nl3.1
      · rw [e3, upf_n _ _ (fun z => hne z.symm)]
        obtain ⟨b1, b2, b3⟩ := hbl q b e1
        have h5 : nw' = upf (upf nw b (nw w)) w (fw (lits r)) := by
          rw [e2]
          funext z
          unfold upf
          by_cases z1 : z = b
          · rw [if_pos z1, if_neg (by rw [z1]; exact b2), if_pos z1]
          · rw [if_neg z1]
            by_cases z2 : z = w
            · rw [if_pos z2, if_pos z2]
            · rw [if_neg z2, if_neg z2, if_neg z1]
        rw [h5]
        refine Ch.upd _ _ ?_ (fun z => (List.mem_append.mp z).elim wpre nl3.1)
        rw [e1] at cl nl2 ⊢
        exact Ch.turn q _ (w :: post) post cl nl2.1 (hpp b b3) hpost
    · dsimp only
      rw [if_neg hx]
      by_cases hx2 : x = lits r
      · rw [if_pos hx2]
        obtain ⟨c1, c2⟩ := g1 (lits r) hl2 hl3
        have hw : w ∉ C (lits r) := fun z => hdis _ w hl2 hl3 hne z hwin
        have hfw : fw' x = w := by
          rcases hcase with ⟨-, -, e3⟩ | ⟨q, b, -, -, e3⟩
          · rw [e3, upf_n _ _ hx, hx2, upf_e]
          · rw [e3, hx2, upf_e]
        have hnw : nw' w = fw (lits r) := by
          rcases hcase with ⟨-, e2, -⟩ | ⟨q, b, e1, e2, -⟩
          · rw [e2, upf_e]
          · rw [e2, upf_n _ _ (fun z => (hbl q b e1).2.1 z.symm), upf_e]
        refine ⟨⟨hfw, w0, ?_⟩, List.nodup_cons.mpr ⟨hw, c2⟩⟩
        rw [hnw]
        exact hoth _ _ hl2 hl3 hne c1
      · rw [if_neg hx2]
        obtain ⟨c1, c2⟩ := g1 x x0 x1
        have hfw : fw' x = fw x := by
          rcases hcase with ⟨-, -, e3⟩ | ⟨q, b, -, -, e3⟩
          · rw [e3, upf_n _ _ hx, upf_n _ _ hx2]
          · rw [e3, upf_n _ _ hx2]
        refine ⟨?_, c2⟩
        rw [hfw]
        exact hoth x _ x0 x1 hx c1
  · dsimp only at hy
    by_cases hyw : y = w
    · subst hyw
      by_cases hx : x = l
      · rw [if_pos hx] at hy
        exact absurd hy (fun z => (List.mem_append.mp z).elim wpre nl3.1)
      · rw [if_neg hx] at hy
        by_cases hx2 : x = lits r
        · exact ⟨w0, w1, w2, by rw [swp_a]; exact hx2.symm⟩
        · rw [if_neg hx2] at hy
          exact absurd hwin (hdis x y x0 x1 hx hy)
    · have hin : y ∈ C x := by
        by_cases hx : x = l
        · rw [if_pos hx] at hy
          rw [hx, hC]
          rcases List.mem_append.mp hy with z | z
          · exact List.mem_append_left _ z
          · exact List.mem_append_right _ (List.mem_cons_of_mem _ z)
        · rw [if_neg hx] at hy
          by_cases hx2 : x = lits r
          · rw [if_pos hx2] at hy
            rw [hx2]
            rcases List.mem_cons.mp hy with z | z
            · exact absurd z hyw
            · exact z
          · rw [if_neg hx2] at hy; exact hy
      obtain ⟨y0, y1, y2, y3⟩ := g2 x y x0 x1 hin
      exact ⟨y0, y1, y2, by rw [mv_pos hcd w0 w1 w2 y0 y1 y2 hr hr2 hyw]; exact y3⟩
  · dsimp only
    by_cases hyw : y = w
    · subst hyw
      rw [swp_a, if_neg hne, if_pos rfl]
      exact List.mem_cons_self
    · rw [mv_pos hcd w0 w1 w2 y0 y1 y2 hr hr2 hyw]
      have hin := g3 y y0 y1 y2
      by_cases hx : lits (st (y / 2) + y % 2) = l
      · rw [if_pos hx]
        rw [hx, hC] at hin
        rcases List.mem_append.mp hin with z | z
        · exact List.mem_append_left _ z
        · rcases List.mem_cons.mp z with z | z
          · exact absurd z hyw
          · exact List.mem_append_right _ z
      · rw [if_neg hx]
        by_cases hx2 : lits (st (y / 2) + y % 2) = lits r
        · rw [if_pos hx2]
          rw [hx2] at hin
          exact List.mem_cons_of_mem _ hin
        · rw [if_neg hx2]; exact hin
/-- the rows after a change of two places of one clause -/
theorem CD.swap (hcd : CD lits st tot used F) {c a b : Int} (c0 : 0 ≤ c) (c1 : c < tot) (h1 : st c ≤ a) (h2 : a < st (c + 1)) (h3 : st c ≤ b) (h4 : b < st (c + 1)) : CD (swp lits a b) st tot used F := by
  have hb := hcd.at c0 c1
  obtain ⟨g1, g2, g3, g4, g5, g6, g7⟩ := hcd
  refine ⟨g1, g2, g3, g4, g5, g6, fun i i0 i1 => ?_⟩
  unfold swp upf
  split
  · exact g7 b (by omega) (by omega)
  · split
    · exact g7 a (by omega) (by omega)
    · exact g7 i i0 i1
theorem swp_K (hcd : CD lits st tot used F) {c a b : Int} (c0 : 0 ≤ c) (c1 : c < tot) (h1 : st c ≤ a) (h2 : a < st (c + 1)) (h3 : st c ≤ b) (h4 : b < st (c + 1)) (hab : b ≠ a) : ∀ d l, 0 ≤ d → d < tot → (inC (swp lits a b) st d l ↔ inC lits st d l) := by
  intro d l d0 d1
  by_cases e : d = c
  · subst e; exact swp_in h1 h2 h3 h4 hab
  · have key : ∀ i, st d ≤ i → i < st (d + 1) → swp lits a b i = lits i := by
      intro i i1 i2
      refine swp_o (fun z => e ?_) (fun z => e ?_)
      · exact hcd.apart d0 d1 c0 c1 i1 i2 (by omega) (by omega)
      · exact hcd.apart d0 d1 c0 c1 i1 i2 (by omega) (by omega)
    constructor
    · rintro ⟨i, i1, i2, i3⟩; exact ⟨i, i1, i2, by rw [← key i i1 i2]; exact i3⟩
    · rintro ⟨i, i1, i2, i3⟩; exact ⟨i, i1, i2, by rw [key i i1 i2]; exact i3⟩
theorem ND.swap (hN : ND lits st tot) (hcd : CD lits st tot used F) {c a b : Int} (c0 : 0 ≤ c) (c1 : c < tot) (h1 : st c ≤ a) (h2 : a < st (c + 1)) (h3 : st c ≤ b) (h4 : b < st (c + 1)) (hab : b ≠ a) : ND (swp lits a b) st tot := by
  have inj : ∀ i j, st c ≤ i → i < st (c + 1) → st c ≤ j → j < st (c + 1) → i ≠ j → lits i ≠ lits j := by
    intro i j i1 i2 j1 j2 hij
    rcases (by omega : i < j ∨ j < i) with z | z
    · exact hN c i j c0 c1 i1 z j2
    · exact fun q => hN c j i c0 c1 j1 z i2 q.symm
  intro d i j d0 d1 i1 hij j1
  by_cases e : d = c
  · subst e
    by_cases ia : i = a
    · subst ia
      rw [swp_a]
      by_cases jb : j = b
      · subst jb; rw [swp_b hab]; exact inj _ _ h3 h4 h1 h2 hab
      · rw [swp_o (by omega) jb]; exact inj _ _ h3 h4 (by omega) j1 (fun z => jb z.symm)
    · by_cases ib : i = b
      · subst ib
        rw [swp_b hab]
        by_cases ja : j = a
        · subst ja; rw [swp_a]; exact inj _ _ h1 h2 h3 h4 (fun z => hab z.symm)
        · rw [swp_o ja (by omega)]; exact inj _ _ h1 h2 (by omega) j1 (fun z => ja z.symm)
      · rw [swp_o ia ib]
        by_cases ja : j = a
        · subst ja; rw [swp_a]; exact inj _ _ i1 (by omega) h3 h4 ib
        · by_cases jb : j = b
          · subst jb; rw [swp_b hab]; exact inj _ _ i1 (by omega) h1 h2 ia
          · rw [swp_o ja jb]; exact inj _ _ i1 (by omega) (by omega) j1 (by omega)
  · have key : ∀ i, st d ≤ i → i < st (d + 1) → swp lits a b i = lits i := by
      intro i i1 i2
      refine swp_o (fun z => e ?_) (fun z => e ?_)
      · exact hcd.apart d0 d1 c0 c1 i1 i2 (by omega) (by omega)
      · exact hcd.apart d0 d1 c0 c1 i1 i2 (by omega) (by omega)
    rw [key i i1 (by omega), key j (by omega) j1]
    exact hN d i j d0 d1 i1 hij j1
end MV
