/-! parts: what is kept when a part comes -/
theorem newC_row (M : oM) (l c : Nat) (s n b e : Int32) (a : Nat) : (newC M l c s n b e).1 a = if a = oLy l then upd (M.1 (oLy l)) 7 (nI (c + 1)) else if a = oLy l + 4 then upd (M.1 (oLy l + 4)) c e else if a = oLy l + 3 then upd (M.1 (oLy l + 3)) c (if s = 1 then b else -1) else if a = oLy l + 2 then upd (M.1 (oLy l + 2)) c (if s = 2 then -1 else n) else if a = oLy l + 1 then upd (M.1 (oLy l + 1)) c s else if a = 14 ∧ s = 0 then upd (M.1 14) n.toNatClampNeg 1 else M.1 a := by
  have hb : ∀ a', 100 < a' → (if s = 0 then oUp M 14 n.toNatClampNeg 1 else M).1 a' = M.1 a' := by
    intro a' ha
    by_cases q : s = 0
    · rw [if_pos q, oUp_ro _ _ _ _ (by omega)]
    · rw [if_neg q]
  unfold newC
  by_cases c0 : a = oLy l
  · subst c0
    rw [if_pos rfl, oUp_row, oUp_ro _ _ _ _ (by omega), oUp_ro _ _ _ _ (by omega), oUp_ro _ _ _ _ (by omega), oUp_ro _ _ _ _ (by omega), hb _ (by unfold oLy; omega)]
  · rw [if_neg c0, oUp_ro _ _ _ _ c0]
    by_cases c4 : a = oLy l + 4
    · subst c4
      rw [if_pos rfl, oUp_row, oUp_ro _ _ _ _ (by omega), oUp_ro _ _ _ _ (by omega), oUp_ro _ _ _ _ (by omega), hb _ (by unfold oLy; omega)]
    · rw [if_neg c4, oUp_ro _ _ _ _ c4]
      by_cases c3 : a = oLy l + 3
      · subst c3
        rw [if_pos rfl, oUp_row, oUp_ro _ _ _ _ (by omega), oUp_ro _ _ _ _ (by omega), hb _ (by unfold oLy; omega)]
      · rw [if_neg c3, oUp_ro _ _ _ _ c3]
        by_cases c2 : a = oLy l + 2
        · subst c2
          rw [if_pos rfl, oUp_row, oUp_ro _ _ _ _ (by omega), hb _ (by unfold oLy; omega)]
        · rw [if_neg c2, oUp_ro _ _ _ _ c2]
          by_cases c1 : a = oLy l + 1
          · subst c1
            rw [if_pos rfl, oUp_row, hb _ (by unfold oLy; omega)]
          · rw [if_neg c1, oUp_ro _ _ _ _ c1]
            by_cases q : s = 0
            · rw [if_pos q]
              by_cases d : a = 14
              · subst d
                rw [if_pos ⟨rfl, q⟩, oUp_row]
              · rw [if_neg (fun z => d z.1), oUp_ro _ _ _ _ d]
            · rw [if_neg q, if_neg (fun z => q z.2)]
theorem newC_2 (M : oM) (l c : Nat) (s n b e : Int32) : (newC M l c s n b e).2 = M.2 := by
  unfold newC
  by_cases q : s = 0
  · rw [if_pos q]; rfl
  · rw [if_neg q]; rfl
theorem newM_row (M : oM) (l c : Nat) (s n b e : Int32) (a : Nat) : (newM M l c s n b e).1 a = if a = 77 then upd (M.1 77) (24 * l + c) s else if a = 78 then upd (M.1 78) (24 * l + c) (if s = 2 then -1 else n) else if a = 79 then upd (M.1 79) (24 * l + c) (if s = 1 then b else -1) else if a = 76 then upd (M.1 76) l (nI (c + 1)) else if a = 75 ∧ s = 1 then upd (M.1 75) l e else if a = 80 ∧ s = 0 then upd (M.1 80) n.toNatClampNeg 1 else M.1 a := by
  have four : (oUp (oUp (oUp (oUp M 77 (24 * l + c) s) 78 (24 * l + c) (if s = 2 then -1 else n)) 79 (24 * l + c) (if s = 1 then b else -1)) 76 l (nI (c + 1))).1 a = if a = 77 then upd (M.1 77) (24 * l + c) s else if a = 78 then upd (M.1 78) (24 * l + c) (if s = 2 then -1 else n) else if a = 79 then upd (M.1 79) (24 * l + c) (if s = 1 then b else -1) else if a = 76 then upd (M.1 76) l (nI (c + 1)) else M.1 a := by
    by_cases c77 : a = 77
    · subst c77
      rw [if_pos rfl, oUp_ro _ _ _ _ (by decide), oUp_ro _ _ _ _ (by decide), oUp_ro _ _ _ _ (by decide), oUp_row]
    · rw [if_neg c77]
      by_cases c78 : a = 78
      · subst c78
        rw [if_pos rfl, oUp_ro _ _ _ _ (by decide), oUp_ro _ _ _ _ (by decide), oUp_row, oUp_ro _ _ _ _ (by decide)]
      · rw [if_neg c78]
        by_cases c79 : a = 79
        · subst c79
          rw [if_pos rfl, oUp_ro _ _ _ _ (by decide), oUp_row, oUp_ro _ _ _ _ (by decide), oUp_ro _ _ _ _ (by decide)]
        · rw [if_neg c79]
          by_cases c76 : a = 76
          · subst c76
            rw [if_pos rfl, oUp_row, oUp_ro _ _ _ _ (by decide), oUp_ro _ _ _ _ (by decide), oUp_ro _ _ _ _ (by decide)]
          · rw [if_neg c76, oUp_ro _ _ _ _ c76, oUp_ro _ _ _ _ c79, oUp_ro _ _ _ _ c78, oUp_ro _ _ _ _ c77]
  unfold newM
  by_cases q1 : s = 1
  · have q0 : ¬ s = 0 := by rw [q1]; decide
    rw [if_pos q1]
    by_cases d : a = 75
    · subst d
      rw [oUp_row, oUp_ro _ _ _ _ (by decide), oUp_ro _ _ _ _ (by decide), oUp_ro _ _ _ _ (by decide), oUp_ro _ _ _ _ (by decide), if_neg (by decide), if_neg (by decide), if_neg (by decide), if_neg (by decide), if_pos ⟨rfl, q1⟩]
    · rw [oUp_ro _ _ _ _ d, four, if_neg (show ¬ (a = 75 ∧ s = 1) from fun z => d z.1), if_neg (show ¬ (a = 80 ∧ s = 0) from fun z => q0 z.2)]
  · rw [if_neg q1]
    by_cases q0 : s = 0
    · rw [if_pos q0]
      by_cases d : a = 80
      · subst d
        rw [oUp_row, oUp_ro _ _ _ _ (by decide), oUp_ro _ _ _ _ (by decide), oUp_ro _ _ _ _ (by decide), oUp_ro _ _ _ _ (by decide), if_neg (by decide), if_neg (by decide), if_neg (by decide), if_neg (by decide), if_neg (show ¬ ((80 : Nat) = 75 ∧ s = 1) from fun z => q1 z.2), if_pos ⟨rfl, q0⟩]
      · rw [oUp_ro _ _ _ _ d, four, if_neg (show ¬ (a = 75 ∧ s = 1) from fun z => q1 z.2), if_neg (show ¬ (a = 80 ∧ s = 0) from fun z => d z.1)]
    · rw [if_neg q0, four, if_neg (show ¬ (a = 75 ∧ s = 1) from fun z => q1 z.2), if_neg (show ¬ (a = 80 ∧ s = 0) from fun z => q0 z.2)]
theorem newM_2 (M : oM) (l c : Nat) (s n b e : Int32) : (newM M l c s n b e).2 = M.2 := by
  unfold newM
  by_cases q1 : s = 1
  · rw [if_pos q1]; rfl
  · rw [if_neg q1]
    by_cases q0 : s = 0
    · rw [if_pos q0]; rfl
    · rw [if_neg q0]; rfl
theorem upd_at (f : Nat → Int32) (k : Nat) (x : Int32) (j : Nat) : upd f k x j = if j = k then x else f j := rfl
theorem part_inv {K : oK} {M : oM} (h : oInv K M) {l c : Nat} (hl : (l : Int) < (M.1 0 11).toInt) (hc : M.1 (oLy l) 7 = nI c) (c24 : c < 24) {s n b e : Int32} (he : e = enP (M.1 6 6) (M.1 11 6) (M.1 (oLy l) 1) (othP M 7 8) (prevP M l c) s n b) (h0 : 0 ≤ e.toInt) : oInv K (newM (newC M l c s n b e) l c s n b e) := by
  obtain ⟨hSR, hg, hst, hge, hta, hlo, hth, hac, hly, hsh⟩ := id h
  obtain ⟨⟨e20, k0, k1⟩, hK, l1, l2⟩ := id hly
  obtain ⟨⟨y0, y1, y2, y3⟩, ⟨y4, y5, y6⟩, ⟨y7, y8, y9⟩, y10, y11⟩ := id (l1 l hl).2
  have ec : (nI c).toInt = c := nI_toInt (by omega)
  have ec1 : (nI (c + 1)).toInt = ((c + 1 : Nat) : Int) := nI_toInt (by omega)
  have hp := pt_k (l1 l hl).2 (k := c) (by rw [hc, ec]; omega)
  have hE75 : M.1 75 l = prevP M l c := by
    rw [y10, hc, ec]
    unfold prevP
    by_cases z : c = 0
    · rw [if_pos (by omega), if_pos z]
    · rw [if_neg (by omega), if_neg z]
      rfl
  -- the part that comes
  have hnew : (0 ≤ e.toInt ∧ e.toInt < (M.1 6 5).toInt) ∧ ((s = 0 ∧ (0 ≤ n.toInt ∧ n.toInt < (M.1 11 6).toInt) ∧ e = prevP M l c) ∨ (s = 1 ∧ (0 ≤ n.toInt ∧ n.toInt < (M.1 6 6).toInt) ∧ (0 ≤ b.toInt ∧ b.toInt < 3) ∧ ((M.1 7 n.toInt.toNat = prevP M l c ∧ e = M.1 8 n.toInt.toNat) ∨ (¬ M.1 7 n.toInt.toNat = prevP M l c ∧ M.1 8 n.toInt.toNat = prevP M l c ∧ e = M.1 7 n.toInt.toNat))) ∨ (s = 2 ∧ M.1 (oLy l) 1 = 3 ∧ e = prevP M l c)) := by
    unfold enP othP at he
    have bad : ¬ e = -1 := fun z => by rw [z, tl_m1] at h0; omega
    rw [oTnn] at he
    by_cases q1 : s = 1
    · rw [if_pos q1] at he
      by_cases qn : (0 ≤ b.toInt ∧ b.toInt ≤ 2) ∧ 0 ≤ n.toInt ∧ n.toInt < (M.1 6 6).toInt
      · rw [if_pos qn] at he
        have w := hg.2.2.2 n.toInt.toNat (by omega)
        by_cases z : M.1 7 n.toInt.toNat = prevP M l c
        · rw [if_pos z] at he
          exact ⟨by rw [he]; exact w.2.1, Or.inr (Or.inl ⟨q1, qn.2, ⟨qn.1.1, by omega⟩, Or.inl ⟨z, he⟩⟩)⟩
        · rw [if_neg z] at he
          by_cases z2 : M.1 8 n.toInt.toNat = prevP M l c
          · rw [if_pos z2] at he
            exact ⟨by rw [he]; exact w.1, Or.inr (Or.inl ⟨q1, qn.2, ⟨qn.1.1, by omega⟩, Or.inr ⟨z, z2, he⟩⟩)⟩
          · rw [if_neg z2] at he
            exact absurd he bad
      · rw [if_neg qn] at he
        exact absurd he bad
    · rw [if_neg q1] at he
      by_cases q0 : s = 0
      · rw [if_pos q0] at he
        by_cases qn : 0 ≤ n.toInt ∧ n.toInt < (M.1 11 6).toInt
        · rw [if_pos qn] at he
          exact ⟨by rw [he]; exact hp, Or.inl ⟨q0, qn, he⟩⟩
        · rw [if_neg qn] at he
          exact absurd he bad
      · rw [if_neg q0] at he
        by_cases q2 : s = 2 ∧ M.1 (oLy l) 1 = 3
        · rw [if_pos q2] at he
          exact ⟨by rw [he]; exact hp, Or.inr (Or.inr ⟨q2.1, q2.2, he⟩)⟩
        · rw [if_neg q2] at he
          exact absurd he bad
  have lg : 100 < oLy l := by unfold oLy; omega
  -- the rows behind it
  have rC : ∀ a, 100 < a → (newM (newC M l c s n b e) l c s n b e).1 a = (newC M l c s n b e).1 a := fun a ha => by
    rw [newM_row, if_neg (by omega), if_neg (by omega), if_neg (by omega), if_neg (by omega), if_neg (by omega), if_neg (by omega)]
  have rM : ∀ a, 14 < a → a ≤ 100 → (newC M l c s n b e).1 a = M.1 a := fun a g1 g2 => by
    rw [newC_row, if_neg (by omega), if_neg (by omega), if_neg (by omega), if_neg (by omega), if_neg (by omega), if_neg (by omega)]
  have F : oFr [14, 75, 76, 77, 78, 79, 80, oLy l, oLy l + 1, oLy l + 2, oLy l + 3, oLy l + 4] [] M (newM (newC M l c s n b e) l c s n b e) := by
    refine ⟨fun a g1 g2 => ?_, fun j _ => ?_, by rw [newM_2, newC_2]⟩
    · simp only [List.mem_cons, List.not_mem_nil, or_false] at g2
      rw [newM_row, if_neg (by omega), if_neg (by omega), if_neg (by omega), if_neg (by omega), if_neg (by omega), if_neg (by omega), newC_row, if_neg (by omega), if_neg (by omega), if_neg (by omega), if_neg (by omega), if_neg (by omega), if_neg (by omega)]
    · rw [newM_row, if_neg (by omega), if_neg (by omega), if_neg (by omega), if_neg (by omega), if_neg (by omega), if_neg (by omega), rM 59 (by omega) (by omega)]
  have x0 : ∀ j, (newM (newC M l c s n b e) l c s n b e).1 (oLy l) j = if j = 7 then nI (c + 1) else M.1 (oLy l) j := fun j => by
    rw [rC _ lg, newC_row, if_pos rfl, upd_at]
  have x1 : ∀ j, (newM (newC M l c s n b e) l c s n b e).1 (oLy l + 1) j = if j = c then s else M.1 (oLy l + 1) j := fun j => by
    rw [rC _ (by omega), newC_row, if_neg (by omega), if_neg (by omega), if_neg (by omega), if_neg (by omega), if_pos rfl, upd_at]
  have x2 : ∀ j, (newM (newC M l c s n b e) l c s n b e).1 (oLy l + 2) j = if j = c then (if s = 2 then -1 else n) else M.1 (oLy l + 2) j := fun j => by
    rw [rC _ (by omega), newC_row, if_neg (by omega), if_neg (by omega), if_neg (by omega), if_pos rfl, upd_at]
  have x3 : ∀ j, (newM (newC M l c s n b e) l c s n b e).1 (oLy l + 3) j = if j = c then (if s = 1 then b else -1) else M.1 (oLy l + 3) j := fun j => by
    rw [rC _ (by omega), newC_row, if_neg (by omega), if_neg (by omega), if_pos rfl, upd_at]
  have x4 : ∀ j, (newM (newC M l c s n b e) l c s n b e).1 (oLy l + 4) j = if j = c then e else M.1 (oLy l + 4) j := fun j => by
    rw [rC _ (by omega), newC_row, if_neg (by omega), if_pos rfl, upd_at]
  have z77 : ∀ j, (newM (newC M l c s n b e) l c s n b e).1 77 j = if j = 24 * l + c then s else M.1 77 j := fun j => by
    rw [newM_row, if_pos rfl, upd_at, rM 77 (by omega) (by omega)]
  have z78 : ∀ j, (newM (newC M l c s n b e) l c s n b e).1 78 j = if j = 24 * l + c then (if s = 2 then -1 else n) else M.1 78 j := fun j => by
    rw [newM_row, if_neg (by omega), if_pos rfl, upd_at, rM 78 (by omega) (by omega)]
  have z79 : ∀ j, (newM (newC M l c s n b e) l c s n b e).1 79 j = if j = 24 * l + c then (if s = 1 then b else -1) else M.1 79 j := fun j => by
    rw [newM_row, if_neg (by omega), if_neg (by omega), if_pos rfl, upd_at, rM 79 (by omega) (by omega)]
  have z76 : ∀ j, (newM (newC M l c s n b e) l c s n b e).1 76 j = if j = l then nI (c + 1) else M.1 76 j := fun j => by
    rw [newM_row, if_neg (by omega), if_neg (by omega), if_neg (by omega), if_pos rfl, upd_at, rM 76 (by omega) (by omega)]
  have z75 : ∀ j, (newM (newC M l c s n b e) l c s n b e).1 75 j = if j = l then e else M.1 75 j := fun j => by
    rw [newM_row, if_neg (by omega), if_neg (by omega), if_neg (by omega), if_neg (by omega)]
    by_cases q1 : s = 1
    · rw [if_pos ⟨rfl, q1⟩, upd_at, rM 75 (by omega) (by omega)]
    · rw [if_neg (fun z => q1 z.2), if_neg (by omega), rM 75 (by omega) (by omega)]
      by_cases z : j = l
      · rw [if_pos z, z, hE75]
        rcases hnew.2 with ⟨-, -, w⟩ | ⟨w, -⟩ | ⟨-, -, w⟩
        · exact w.symm
        · exact absurd w q1
        · exact w.symm
      · rw [if_neg z]
  have z80 : ∀ j, (newM (newC M l c s n b e) l c s n b e).1 80 j = if s = 0 ∧ j = n.toNatClampNeg then 1 else M.1 80 j := fun j => by
    rw [newM_row, if_neg (by omega), if_neg (by omega), if_neg (by omega), if_neg (by omega), if_neg (by omega)]
    by_cases q0 : s = 0
    · rw [if_pos ⟨rfl, q0⟩, upd_at, rM 80 (by omega) (by omega)]
      by_cases z : j = n.toNatClampNeg
      · rw [if_pos z, if_pos ⟨q0, z⟩]
      · rw [if_neg z, if_neg (fun w => z w.2)]
    · rw [if_neg (fun z => q0 z.2), if_neg (fun z => q0 z.1), rM 80 (by omega) (by omega)]
  have z14 : ∀ j, (newM (newC M l c s n b e) l c s n b e).1 14 j = if s = 0 ∧ j = n.toNatClampNeg then 1 else M.1 14 j := fun j => by
    rw [newM_row, if_neg (by omega), if_neg (by omega), if_neg (by omega), if_neg (by omega), if_neg (by omega), if_neg (by omega), newC_row, if_neg (by omega), if_neg (by omega), if_neg (by omega), if_neg (by omega), if_neg (by omega)]
    by_cases q0 : s = 0
    · rw [if_pos ⟨rfl, q0⟩, upd_at]
      by_cases z : j = n.toNatClampNeg
      · rw [if_pos z, if_pos ⟨q0, z⟩]
      · rw [if_neg z, if_neg (fun w => z w.2)]
    · rw [if_neg (fun z => q0 z.2), if_neg (fun z => q0 z.1)]
  generalize newM (newC M l c s n b e) l c s n b e = M' at *
  have nm : ∀ a, a ≠ 59 → a ≤ 100 → a ≠ 14 → (a < 75 ∨ 80 < a) → M'.1 a = M.1 a := fun a g1 g2 g3 g4 => F.1 a g1 (by simp only [List.mem_cons, List.not_mem_nil, or_false]; omega)
  refine ⟨hSR, hg.fr F (by intro z hz; simp only [List.mem_cons, List.not_mem_nil, or_false] at hz ⊢; omega) (by simp), hst.fr F (by intro z hz; simp only [List.mem_cons, List.not_mem_nil, or_false] at hz ⊢; omega) (by simp), ?_, hta.fr F (by intro z hz; simp only [List.mem_cons, List.not_mem_nil, or_false] at hz ⊢; omega) (by simp), hlo.fr F (by intro z hz; simp only [List.mem_cons, List.not_mem_nil, or_false] at hz ⊢; omega) (by simp), hth.fr F (by intro z hz; simp only [List.mem_cons, List.not_mem_nil, or_false] at hz ⊢; omega) (by rw [nm 40 (by decide) (by decide) (by decide) (by decide)]) (by simp), hac.fr F (by intro z hz; simp only [List.mem_cons, List.not_mem_nil, or_false] at hz ⊢; omega) (by simp), ?_, ?_⟩
  · obtain ⟨g1, g2, g3, g4, g5, g6, g7⟩ := hge
    unfold iGear
    rw [F.2.1 11 (by simp), nm 11 (by decide) (by decide) (by decide) (by decide), nm 12 (by decide) (by decide) (by decide) (by decide), nm 13 (by decide) (by decide) (by decide) (by decide), nm 15 (by decide) (by decide) (by decide) (by decide), nm 16 (by decide) (by decide) (by decide) (by decide), nm 67 (by decide) (by decide) (by decide) (by decide), nm 68 (by decide) (by decide) (by decide) (by decide), nm 70 (by decide) (by decide) (by decide) (by decide), nm 71 (by decide) (by decide) (by decide) (by decide)]
    refine ⟨g1, fun i hi => ⟨(g2 i hi).1, (g2 i hi).2.1, ?_⟩, g3, g4, g5, g6, g7⟩
    rw [z80, z14]
    by_cases z : s = 0 ∧ i = n.toNatClampNeg
    · rw [if_pos z, if_pos z]
    · rw [if_neg z, if_neg z]
      exact (g2 i hi).2.2
  · have m0 : M'.1 0 = M.1 0 := nm 0 (by decide) (by decide) (by decide) (by decide)
    refine ⟨by rw [m0, F.2.1 20 (by simp)]; exact hly.1, by rw [m0]; exact hK, fun i hi => ?_, fun i hi => ?_⟩
    · rw [m0] at hi
      refine ⟨(l1 i hi).1, ?_⟩
      by_cases z : i = l
      · subst z
        have m6 : M'.1 6 = M.1 6 := nm 6 (by decide) (by decide) (by decide) (by decide)
        have m11 : M'.1 11 = M.1 11 := nm 11 (by decide) (by decide) (by decide) (by decide)
        have m7 : M'.1 7 = M.1 7 := nm 7 (by decide) (by decide) (by decide) (by decide)
        have m8 : M'.1 8 = M.1 8 := nm 8 (by decide) (by decide) (by decide) (by decide)
        have m73 : M'.1 73 = M.1 73 := nm 73 (by decide) (by decide) (by decide) (by decide)
        have m74 : M'.1 74 = M.1 74 := nm 74 (by decide) (by decide) (by decide) (by decide)
        have w0 : M'.1 (oLy i) 0 = M.1 (oLy i) 0 := by rw [x0, if_neg (by decide)]
        have w1 : M'.1 (oLy i) 1 = M.1 (oLy i) 1 := by rw [x0, if_neg (by decide)]
        have w2 : M'.1 (oLy i) 2 = M.1 (oLy i) 2 := by rw [x0, if_neg (by decide)]
        have w7 : M'.1 (oLy i) 7 = nI (c + 1) := by rw [x0, if_pos rfl]
        -- the point ahead of a part
        have hprev : ∀ k, k ≤ c → (if k = 0 then M.1 (oLy i) 2 else M'.1 (oLy i + 4) (k - 1)) = prevP M i k := by
          intro k hk
          unfold prevP
          by_cases q : k = 0
          · rw [if_pos q, if_pos q]
          · rw [if_neg q, if_neg q, x4, if_neg (by omega)]
        unfold iLay1
        rw [m73, m74, m6, m11, m7, m8, w0, w1, w2, w7, ec1, z76, if_pos rfl, z75, if_pos rfl]
        refine ⟨⟨y0, y1, y2, y3⟩, ⟨y4, y5, y6⟩, ⟨rfl, by omega, by omega⟩, ?_, fun k hk => ?_⟩
        · rw [if_neg (by omega), x4, if_pos (by omega)]
        · rw [z77, z78, z79, x1, x2, x3, x4, hprev k (by omega)]
          by_cases q : k = c
          · subst q
            rw [if_pos rfl, if_pos rfl, if_pos rfl, if_pos rfl, if_pos rfl, if_pos rfl, if_pos rfl]
            refine ⟨⟨rfl, rfl, rfl⟩, hnew.1, ?_⟩
            rcases hnew.2 with ⟨v1, v2, v3⟩ | ⟨v1, v2, v3, v4⟩ | ⟨v1, v2, v3⟩
            · subst v1
              rw [if_neg (show ¬ (0 : Int32) = 2 by decide), if_neg (show ¬ (0 : Int32) = 1 by decide)]
              exact Or.inl ⟨rfl, v2, rfl, v3⟩
            · subst v1
              rw [if_neg (show ¬ (1 : Int32) = 2 by decide), if_pos rfl]
              exact Or.inr (Or.inl ⟨rfl, v2, v3, v4⟩)
            · subst v1
              rw [if_pos rfl, if_neg (show ¬ (2 : Int32) = 1 by decide)]
              exact Or.inr (Or.inr ⟨rfl, rfl, rfl, v2, v3⟩)
          · have q24 : ¬ 24 * i + k = 24 * i + c := by omega
            rw [if_neg q24, if_neg q24, if_neg q24, if_neg q, if_neg q, if_neg q, if_neg q]
            have old := y11 k (by rw [hc, ec]; omega)
            exact old
      · have hb : ∀ j, j ≤ 4 → M'.1 (oLy i + j) = M.1 (oLy i + j) := fun j hj => F.1 _ (by unfold oLy; omega) (by simp only [List.mem_cons, List.not_mem_nil, or_false]; unfold oLy at *; omega)
        refine (l1 i hi).2.fr (hb 0 (by omega)) (hb 1 (by omega)) (hb 2 (by omega)) (hb 3 (by omega)) (hb 4 (by omega)) ⟨?_, ?_⟩ ?_ ?_ ?_ ?_ ?_ ?_ ?_ ?_ ?_ ?_
        · rw [nm 6 (by decide) (by decide) (by decide) (by decide)]
        · rw [nm 6 (by decide) (by decide) (by decide) (by decide)]
        · rw [nm 11 (by decide) (by decide) (by decide) (by decide)]
        · exact nm 7 (by decide) (by decide) (by decide) (by decide)
        · exact nm 8 (by decide) (by decide) (by decide) (by decide)
        · rw [nm 73 (by decide) (by decide) (by decide) (by decide)]
        · rw [nm 74 (by decide) (by decide) (by decide) (by decide)]
        · rw [z75, if_neg z]
        · rw [z76, if_neg z]
        · intro k hk; rw [z77, if_neg (by omega)]
        · intro k hk; rw [z78, if_neg (by omega)]
        · intro k hk; rw [z79, if_neg (by omega)]
    · rw [m0] at hi
      refine ⟨(l2 i hi).1, fun h20 => ?_⟩
      rw [z76, if_neg (by omega)]
      exact (l2 i hi).2 h20
  · intro d hd
    have g := hsh d hd
    unfold iShelf1 at g ⊢
    rw [nm 0 (by decide) (by decide) (by decide) (by decide), nm 97 (by decide) (by decide) (by decide) (by decide), nm 98 (by decide) (by decide) (by decide) (by decide), nm (47 + 2 * d) (by omega) (by omega) (by omega) (by omega), F.2.2]
    exact g
