/-! shelves: put, element -/
theorem oInv.long {K : oK} {M M' : oM} (h : oInv K M) (e : M'.1 = M.1) (hx : iShelf K M') : oInv K M' := by
  obtain ⟨hs, hg, hst, hge, ht, hlo, hth, hac, hl, -⟩ := h
  refine ⟨hs, ?_, ?_, ?_, ?_, ?_, ?_, ?_, ?_, hx⟩
  · unfold iGnd; rw [e]; exact hg
  · unfold iSet; rw [e]; exact hst
  · unfold iGear; rw [e]; exact hge
  · unfold iTape; rw [e]; exact ht
  · unfold iLoad; rw [e]; exact hlo
  · unfold iThing; rw [e]; exact hth
  · unfold iAct; rw [e]; exact hac
  · unfold iLay iLay1; rw [e]; exact hl
theorem shAt {N : Nat} {K : oK} {M : oM} (a : Int32) : f_X11_shelfAt N K a M = some (if 0 ≤ a.toInt ∧ a.toInt ≤ 5 then some (47 + 2 * a.toNatClampNeg) else none, M) := by
  unfold f_X11_shelfAt
  rw [w11, oB2_p, tl_0, tl_5]
  by_cases c : 0 ≤ a.toInt ∧ a.toInt ≤ 5
  · rw [decide_eq_true c, cond_true, if_pos c, oIx_p c.1 (by omega)]
  · rw [decide_eq_false c, cond_false, if_neg c]
/-- why an element of a shelf is not to be had -/
def rcS (M : oM) (d : Nat) (i : Int32) : Int32 := if M.1 (47 + 2 * d) 1 = 0 then -11 else if M.1 (47 + 2 * d) 1 = 2 then (if 0 ≤ i.toInt ∧ i.toInt < (M.1 (47 + 2 * d) 4).toInt then 0 else -13) else -12
theorem rcS0 {M : oM} {d : Nat} (h : M.1 (47 + 2 * d) 1 = 0) (i : Int32) : rcS M d i = -11 := by
  unfold rcS
  rw [if_pos h]
theorem rcS1 {M : oM} {d : Nat} (h : M.1 (47 + 2 * d) 1 = 1) (i : Int32) : rcS M d i = -12 := by
  unfold rcS
  rw [if_neg (by rw [h]; decide), if_neg (by rw [h]; decide)]
theorem rcS2 {M : oM} {d : Nat} (h : M.1 (47 + 2 * d) 1 = 2) (i : Int32) : rcS M d i = if 0 ≤ i.toInt ∧ i.toInt < (M.1 (47 + 2 * d) 4).toInt then 0 else -13 := by
  unfold rcS
  rw [if_neg (by rw [h]; decide), if_pos h]
theorem ref9 {N : Nat} {K : oK} {M : oM} {d : Nat} (h : iShelf1 K M d) (i : Int32) : f_X9_refusal N K (47 + 2 * d) i 1 M = some (rcS M d i, M) := by
  rcases h with ⟨h1, -⟩ | ⟨h1, -⟩ | ⟨h1, -, -, -, -, ⟨h2, h3⟩, -⟩
  · rw [rcS0 h1]
    unfold f_X9_refusal
    rw [if_pos h1]
  · rw [rcS1 h1]
    unfold f_X9_refusal
    rw [if_neg (by rw [h1]; decide), if_neg (by rw [h1]; decide)]
  · rw [rcS2 h1]
    unfold f_X9_refusal
    rw [if_neg (by rw [h1]; decide), if_pos h1]
    have hi := oRng i
    by_cases c1 : i.toInt < 0
    · rw [if_pos (by rw [oLtI, tl_0]; exact c1), if_neg (by omega)]
    · rw [if_neg (by rw [oLtI, tl_0]; exact c1), if_neg (by decide)]
      by_cases c2 : (M.1 (47 + 2 * d) 4).toInt < i.toInt
      · rw [if_pos (by rw [oLtI]; exact c2), if_neg (by omega)]
      · have es : (M.1 (47 + 2 * d) 4 - i).toInt = (M.1 (47 + 2 * d) 4).toInt - i.toInt := oSub (by omega) (by omega)
        rw [if_neg (by rw [oLtI]; exact c2)]
        by_cases c3 : i.toInt < (M.1 (47 + 2 * d) 4).toInt
        · rw [if_pos (by rw [oLeI, tl_1, es]; omega), if_pos (by omega)]
        · rw [if_neg (by rw [oLeI, tl_1, es]; omega), if_neg (by omega)]
theorem ref12 {N : Nat} {K : oK} {M : oM} (h : iShelf K M) (hc : (M.1 0 11).toInt ≤ 20) (a i : Int32) : f_X12_refusal N K a i M = some (if 0 ≤ a.toInt ∧ a.toInt ≤ 5 then rcS M a.toNatClampNeg i else -1, M) := by
  unfold f_X12_refusal
  rw [isSh12, oB2_p]
  by_cases c : 0 ≤ a.toInt ∧ a.toInt ≤ 5
  · have na : a.toNatClampNeg = a.toInt.toNat := rfl
    rw [decide_eq_true c, cond_true, if_pos c]
    simp only [oIx_p (n := 6) c.1 (show a.toInt < 6 by omega)]
    rcases h a.toNatClampNeg (by omega) with ⟨h1, h2, h3⟩ | ⟨h1, ⟨h2, h3⟩, h4⟩ | ⟨h1, h2, ⟨h3, h4⟩, h5, h6, ⟨h7, h8⟩, -⟩
    · rw [rcS0 h1, if_neg (by rw [h3]; decide)]
    · rw [rcS1 h1, if_pos (by rw [oLeI, tl_0]; exact h2), if_neg (by rw [oLeI, tl_20]; omega)]
    · have e5 : (M.1 97 a.toNatClampNeg).toInt = (M.1 (47 + 2 * a.toNatClampNeg) 3).toInt + 20 := by rw [h5, oAdd (by rw [tl_20]; omega) (by rw [tl_20]; omega), tl_20]
      rw [rcS2 h1, if_pos (by rw [oLeI, tl_0]; omega), if_pos (by rw [oLeI, tl_20]; omega), h6]
      by_cases c1 : i.toInt < 0
      · rw [if_pos (by rw [oLtI, tl_0]; exact c1), if_neg (by omega)]
      · rw [if_neg (by rw [oLtI, tl_0]; exact c1)]
        by_cases c3 : i.toInt < (M.1 (47 + 2 * a.toNatClampNeg) 4).toInt
        · rw [if_neg (by rw [oLeI]; omega), if_pos (by omega)]
        · rw [if_pos (by rw [oLeI]; omega), if_neg (by omega)]
  · rw [decide_eq_false c, cond_false, if_neg c]
/-- what a row keeps of a long, by its sort -/
def lowV (s : Int) (v : Int64) : Int64 := if s = 0 then v.toInt32.toInt8.toInt32.toInt64 else if s = 1 then v.toInt32.toInt16.toInt32.toInt64 else if s = 2 then v.toInt32.toInt64 else if s = 4 then (if v = 0 then 0 else 1) else v
theorem low9 {N : Nat} {K : oK} {M : oM} {h : Nat} (v : Int64) : f_X9_lowest N K h v M = some (lowV (M.1 h 3).toInt v, M) := by
  unfold f_X9_lowest lowV
  simp only [eq_lit tl_0, eq_lit tl_1, eq_lit tl_2, eq_lit tl_3, eq_lit tl_4]
  rcases (show (M.1 h 3).toInt = 0 ∨ (M.1 h 3).toInt = 1 ∨ (M.1 h 3).toInt = 2 ∨ (M.1 h 3).toInt = 3 ∨ (M.1 h 3).toInt = 4 ∨ ¬ ((M.1 h 3).toInt = 0 ∨ (M.1 h 3).toInt = 1 ∨ (M.1 h 3).toInt = 2 ∨ (M.1 h 3).toInt = 3 ∨ (M.1 h 3).toInt = 4) by omega) with q | q | q | q | q | q
  · simp [q]
  · simp [q]
  · simp [q]
  · simp [q]
  · simp only [q]
    have := (oCmpL v 0).2.2
    rw [oEqI, tl_0] at this
    by_cases c : v = 0
    · subst c
      simp [oCmp]
    · simp [show ¬ (lg_cmp v 0).toInt = 0 from fun z => c (this.mp z), c]
  · simp only [not_or] at q
    simp [q]
theorem low12 {N : Nat} {K : oK} {M : oM} (s : Int32) (v : Int64) : f_X12_asSort N K s v M = some (lowV s.toInt v, M) := by
  unfold f_X12_asSort lowV
  simp only [eq_lit tl_0, eq_lit tl_1, eq_lit tl_2, eq_lit tl_4]
  rcases (show s.toInt = 0 ∨ s.toInt = 1 ∨ s.toInt = 2 ∨ s.toInt = 4 ∨ ¬ (s.toInt = 0 ∨ s.toInt = 1 ∨ s.toInt = 2 ∨ s.toInt = 4) by omega) with q | q | q | q | q
  · simp [q]
  · simp [q]
  · simp [q]
  · simp only [q]
    have := (oCmpL v 0).2.2
    rw [oEqI, tl_0] at this
    by_cases c : v = 0
    · subst c
      simp [oCmp]
    · simp [show ¬ (lg_cmp v 0).toInt = 0 from fun z => c (this.mp z), c]
  · simp only [not_or] at q
    simp [q]
theorem oCs_s {β : Type} (x : Nat) (A : β) (B : Nat → β) : oCs (some x) A B = B x := rfl
theorem oCs_n {β : Type} (A : β) (B : Nat → β) : oCs none A B = A := rfl
theorem ix60 {a i : Int32} (a0 : 0 ≤ a.toInt) (a1 : a.toInt ≤ 5) (i0 : 0 ≤ i.toInt) (i1 : i.toInt < 60) : (60 * a + i).toInt = 60 * a.toInt + i.toInt ∧ (60 * a + i).toNatClampNeg = 60 * a.toNatClampNeg + i.toNatClampNeg := by
  have e1 : (60 * a).toInt = 60 * a.toInt := by rw [oMul (by rw [tl_60]; omega) (by rw [tl_60]; omega), tl_60]
  have e2 : (60 * a + i).toInt = 60 * a.toInt + i.toInt := by rw [oAdd (by rw [e1]; omega) (by rw [e1]; omega), e1]
  have n1 : a.toNatClampNeg = a.toInt.toNat := rfl
  have n2 : i.toNatClampNeg = i.toInt.toNat := rfl
  have n3 : (60 * a + i).toNatClampNeg = (60 * a + i).toInt.toNat := rfl
  exact ⟨e2, by omega⟩
theorem ag_put {K : oK} {M : oM} (h : oInv K M) (N : Nat) (a i : Int32) (v : Int64) : oAg K M (f_X11_put N K a i v M) (f_X12_put N K a i v) := by
  have hsh := h.2.2.2.2.2.2.2.2.2
  have hcnt := h.2.2.2.2.2.2.2.2.1.1.2.2
  unfold f_X11_put f_X12_put
  rw [shAt, oB2_p]
  by_cases c : 0 ≤ a.toInt ∧ a.toInt ≤ 5
  · have na : a.toNatClampNeg = a.toInt.toNat := rfl
    have h1 := hsh a.toNatClampNeg (by omega)
    rw [if_pos c, oCs_s, ref9 h1, oB2_p]
    by_cases cr : rcS M a.toNatClampNeg i = 0
    · rcases id h1 with ⟨g1, -⟩ | ⟨g1, -⟩ | ⟨g1, g2, ⟨g3, g4⟩, g5, g6, ⟨g7, g8⟩, g9⟩
      · rw [rcS0 g1] at cr; exact absurd cr (by decide)
      · rw [rcS1 g1] at cr; exact absurd cr (by decide)
      · have hi : 0 ≤ i.toInt ∧ i.toInt < (M.1 (47 + 2 * a.toNatClampNeg) 4).toInt := by
          rw [rcS2 g1] at cr
          by_cases q : 0 ≤ i.toInt ∧ i.toInt < (M.1 (47 + 2 * a.toNatClampNeg) 4).toInt
          · exact q
          · rw [if_neg q] at cr; exact absurd cr (by decide)
        rw [if_pos cr, low9, oB2_p, oIx_p hi.1 (by omega)]
        have e97 : (M.1 97 a.toNatClampNeg - 20).toInt = (M.1 (47 + 2 * a.toNatClampNeg) 3).toInt := by
          have e5 : (M.1 97 a.toNatClampNeg).toInt = (M.1 (47 + 2 * a.toNatClampNeg) 3).toInt + 20 := by rw [g5, oAdd (by rw [tl_20]; omega) (by rw [tl_20]; omega), tl_20]
          rw [oSub (by rw [tl_20]; omega) (by rw [tl_20]; omega), tl_20]; omega
        obtain ⟨x1, x2⟩ := ix60 (a := a) (i := i) c.1 c.2 hi.1 (by omega)
        generalize hd : a.toNatClampNeg = d at *
        generalize hw : lowV (M.1 (47 + 2 * d) 3).toInt v = w
        have hni : i.toNatClampNeg = i.toInt.toNat := rfl
        have ag : iShelf K (oUpL M (47 + 2 * d + 1) i.toNatClampNeg w) → True := fun _ => trivial
        refine oAg.mk (oUpL (oUpL M (47 + 2 * d + 1) i.toNatClampNeg w) 99 (60 * d + i.toNatClampNeg) w) rfl ?_ (h.long rfl ?_)
        · have hr : f_X12_refusal N K a i (oUpL M (47 + 2 * d + 1) i.toNatClampNeg w) = some (0, oUpL M (47 + 2 * d + 1) i.toNatClampNeg w) := by
            unfold f_X12_refusal
            rw [isSh12, oB2_p, decide_eq_true c, cond_true]
            simp only [oIx_p (n := 6) c.1 (show a.toInt < 6 by omega), oUpL_1, hd]
            have e5 : (M.1 97 d).toInt = (M.1 (47 + 2 * d) 3).toInt + 20 := by rw [g5, oAdd (by rw [tl_20]; omega) (by rw [tl_20]; omega), tl_20]
            rw [if_pos (by rw [oLeI, tl_0]; omega), if_pos (by rw [oLeI, tl_20]; omega), if_neg (by rw [oLtI, tl_0]; omega), g6, if_neg (by rw [oLeI]; omega)]
          rw [hr, oB2_p, if_pos rfl, oIx_p c.1 (by omega)]
          simp only [oUpL_1, hd, low12, oB2_p, e97, hw, x2]
          rw [oIx_p (by omega) (by omega)]
          rfl
        · intro d2 hd2
          have h2 := hsh d2 hd2
          rcases h2 with k | k | ⟨k1, k2, k3, k4, k5, k6, k7⟩
          · exact Or.inl k
          · exact Or.inr (Or.inl k)
          · refine Or.inr (Or.inr ⟨k1, k2, k3, k4, k5, k6, fun j hj => ?_⟩)
            have k8 := k7 j hj
            have k6' := k6.2
            simp only [oUpL_1] at hj
            rw [oUpL_at, oUpL_at, oUpL_at, oUpL_at]
            by_cases q : d2 = d ∧ j = i.toNatClampNeg
            · rw [if_pos (by omega), if_neg (by omega), if_pos (by omega)]
            · rw [if_neg (by omega), if_neg (by omega), if_neg (by omega), if_neg (by omega)]
              exact k8
    · rw [if_neg cr]
      refine oAg.mk M rfl ?_ h
      rw [ref12 hsh hcnt, if_pos c, oB2_p, if_neg cr]
      unfold f_X12_put_37
      rw [if_neg cr]
  · rw [if_neg c, oCs_n]
    refine oAg.mk M rfl ?_ h
    rw [ref12 hsh hcnt, if_neg c, oB2_p, if_neg (by decide)]
    rfl
def oAgL (K : oK) (M : oM) (o1 : Option (Int64 × oM)) (o2 : oM → Option (Int64 × oM)) : Prop := ∃ (r : Int64) (M1 M2 : oM), o1 = some (r, M1) ∧ o2 M1 = some (r, M2) ∧ oInv K M2
theorem oAgL.mk {K : oK} {M : oM} {o1 : Option (Int64 × oM)} {o2 : oM → Option (Int64 × oM)} {r : Int64} {M1 : oM} (M2 : oM) (h1 : o1 = some (r, M1)) (h2 : o2 M1 = some (r, M2)) (h3 : oInv K M2) : oAgL K M o1 o2 := ⟨r, M1, M2, h1, h2, h3⟩
theorem ag_element {K : oK} {M : oM} (h : oInv K M) (N : Nat) (a i : Int32) : oAgL K M (f_X11_element N K a i M) (f_X12_element N K a i) := by
  have hsh := h.2.2.2.2.2.2.2.2.2
  have hcnt := h.2.2.2.2.2.2.2.2.1.1.2.2
  unfold f_X11_element f_X12_element
  rw [shAt, oB2_p]
  by_cases c : 0 ≤ a.toInt ∧ a.toInt ≤ 5
  · have na : a.toNatClampNeg = a.toInt.toNat := rfl
    have h1 := hsh a.toNatClampNeg (by omega)
    rw [if_pos c, oCs_s, ref9 h1, oB2_p]
    by_cases cr : rcS M a.toNatClampNeg i = 0
    · rcases id h1 with ⟨g1, -⟩ | ⟨g1, -⟩ | ⟨g1, g2, ⟨g3, g4⟩, g5, g6, ⟨g7, g8⟩, g9⟩
      · rw [rcS0 g1] at cr; exact absurd cr (by decide)
      · rw [rcS1 g1] at cr; exact absurd cr (by decide)
      · have hi : 0 ≤ i.toInt ∧ i.toInt < (M.1 (47 + 2 * a.toNatClampNeg) 4).toInt := by
          rw [rcS2 g1] at cr
          by_cases q : 0 ≤ i.toInt ∧ i.toInt < (M.1 (47 + 2 * a.toNatClampNeg) 4).toInt
          · exact q
          · rw [if_neg q] at cr; exact absurd cr (by decide)
        have hni : i.toNatClampNeg = i.toInt.toNat := rfl
        obtain ⟨x1, x2⟩ := ix60 (a := a) (i := i) c.1 c.2 hi.1 (by omega)
        rw [if_pos cr, oIx_p hi.1 (by omega)]
        refine oAgL.mk M rfl ?_ h
        rw [ref12 hsh hcnt, if_pos c, oB2_p, if_pos cr, oIx_p (by omega) (by omega), x2, g9 _ (by omega)]
        rw [show 48 + 2 * a.toNatClampNeg = 47 + 2 * a.toNatClampNeg + 1 by omega]
    · rw [if_neg cr]
      refine oAgL.mk M rfl ?_ h
      rw [ref12 hsh hcnt, if_pos c, oB2_p, if_neg cr]
  · rw [if_neg c, oCs_n]
    refine oAgL.mk M rfl ?_ h
    rw [ref12 hsh hcnt, if_neg c, oB2_p, if_neg (by decide)]
