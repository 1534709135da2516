/-! settings: undone, done again -/
def oSg (p : Int32) : Int32 := if p.toInt < 9 then p + 12 else p - 9
theorem oSg_n {p : Int32} (h0 : 0 ≤ p.toInt) (h1 : p.toInt < 21) : (oSg p).toInt = (if p.toInt < 9 then p.toInt + 12 else p.toInt - 9) := by
  unfold oSg
  by_cases c : p.toInt < 9
  · rw [if_pos c, if_pos c, oAdd (by rw [tl_12]; omega) (by rw [tl_12]; omega), tl_12]
  · rw [if_neg c, if_neg c, oSub (by rw [tl_9]; omega) (by rw [tl_9]; omega), tl_9]
/-- the reference's row of settings beside the program's -/
def oSv (f g : Nat → Int32) : Prop := (∀ j : Nat, j < 9 → g (j + 12) = f j) ∧ (∀ j : Nat, j < 12 → g j = f (j + 9))
theorem oSv_up {f g : Nat → Int32} {p v : Int32} (h : oSv f g) (h0 : 0 ≤ p.toInt) (h1 : p.toInt < 21) : oSv (upd f p.toNatClampNeg v) (upd g (oSg p).toNatClampNeg v) := by
  have e := oSg_n h0 h1
  have n1 : p.toNatClampNeg = p.toInt.toNat := rfl
  have n2 : (oSg p).toNatClampNeg = (oSg p).toInt.toNat := rfl
  constructor
  · intro j hj
    have hh := h.1 j hj
    unfold upd
    by_cases c : p.toInt < 9
    · rw [if_pos c] at e
      by_cases q : j = p.toNatClampNeg
      · rw [if_pos (by omega), if_pos q]
      · rw [if_neg (by omega), if_neg q, hh]
    · rw [if_neg c] at e
      rw [if_neg (by omega), if_neg (by omega), hh]
  · intro j hj
    have hh := h.2 j hj
    unfold upd
    by_cases c : p.toInt < 9
    · rw [if_pos c] at e
      rw [if_neg (by omega), if_neg (by omega), hh]
    · rw [if_neg c] at e
      by_cases q : j + 9 = p.toNatClampNeg
      · rw [if_pos (by omega), if_pos q]
      · rw [if_neg (by omega), if_neg q, hh]
theorem oUp_row (M : oM) (a k : Nat) (x : Int32) : (oUp M a k x).1 a = upd (M.1 a) k x := by simp [oUp]
theorem oUp_ro (M : oM) (a k : Nat) (x : Int32) {b : Nat} (h : b ≠ a) : (oUp M a k x).1 b = M.1 b := by simp [oUp, h]
theorem iVal_up {f : Nat → Int32} {p v : Int32} (h : ∀ j : Nat, j < 21 → iVal j (f j)) (h0 : 0 ≤ p.toInt) (hv : iVal p.toInt v) : ∀ j : Nat, j < 21 → iVal j (upd f p.toNatClampNeg v j) := by
  intro j hj
  unfold upd
  by_cases q : j = p.toNatClampNeg
  · rw [if_pos q]
    have n1 : p.toNatClampNeg = p.toInt.toNat := rfl
    rw [show (j : Int) = p.toInt by omega]
    exact hv
  · rw [if_neg q]
    exact h j hj
theorem c_undo {K : oK} {M : oM} (N : Nat) (b0 : 0 < (M.1 1 5).toInt) (b1 : (M.1 1 5).toInt ≤ 40) (p0 : 0 ≤ (M.1 3 (M.1 1 5 - 1).toNatClampNeg).toInt) (p1 : (M.1 3 (M.1 1 5 - 1).toNatClampNeg).toInt < 21) :
    f_X11_undo N K M = some (M.1 1 5 - 1, oUp (oUp M 1 5 (M.1 1 5 - 1)) 2 (M.1 3 (M.1 1 5 - 1).toNatClampNeg).toNatClampNeg (M.1 4 (M.1 1 5 - 1).toNatClampNeg)) := by
  have e1 := sub1 (x := M.1 1 5) (by omega)
  unfold f_X11_undo f_X8_takeBack
  rw [if_pos (by rw [oLtI, tl_0]; exact b0)]
  simp only [oUp_at]
  simp only [and_self, if_true, true_and]
  rw [oIx_p (by omega) (by omega), oIx_p (by omega) (by omega)]
  simp only [show ¬ ((3 : Nat) = 1) by decide, show ¬ ((4 : Nat) = 1) by decide, false_and, if_false]
  rw [begin8 p0 p1]
  simp [oB2_p, oUp_at]
theorem m_undo {K : oK} {M : oM} (N : Nat) (b0 : 0 < (M.1 59 5).toInt) (b1 : (M.1 59 5).toInt ≤ 40) (p0 : 0 ≤ (M.1 61 (M.1 59 5 - 1).toNatClampNeg).toInt) (p1 : (M.1 61 (M.1 59 5 - 1).toNatClampNeg).toInt < 21) :
    f_X12_undo N K M = some (M.1 59 5 - 1, oUp (oUp M 59 5 (M.1 59 5 - 1)) 60 (M.1 61 (M.1 59 5 - 1).toNatClampNeg).toNatClampNeg (M.1 62 (M.1 59 5 - 1).toNatClampNeg)) := by
  have e1 := sub1 (x := M.1 59 5) (by omega)
  unfold f_X12_undo
  rw [if_neg (by rw [oEqI, tl_0]; omega)]
  simp only [oUp_at]
  simp only [and_self, if_true, true_and, show ¬ ((61 : Nat) = 59) by decide, show ¬ ((62 : Nat) = 59) by decide, show ¬ ((59 : Nat) = 60) by decide, false_and, if_false]
  rw [oIx_p (by omega) (by omega), oIx_p (by omega) (by omega), oIx_p p0 (by omega)]
theorem ag_undo {K : oK} {M : oM} (h : oInv K M) (N : Nat) : oAg K M (f_X11_undo N K M) (f_X12_undo N K) := by
  obtain ⟨s1, s2, s3, ⟨e1, e2, d0, d1, d2⟩, s5⟩ := h.2.2.1
  by_cases hd : 0 < (M.1 1 5).toInt
  · have x1 := sub1 (x := M.1 1 5) (by omega)
    have n1 : (M.1 1 5 - 1).toNatClampNeg = (M.1 1 5 - 1).toInt.toNat := rfl
    obtain ⟨⟨g0, g1, g2⟩, g3, g4, g5, g6⟩ := s5 (M.1 1 5 - 1).toNatClampNeg (by omega)
    rw [c_undo N hd (by omega) g0 g1]
    have q2 : M.1 61 (M.1 1 5 - 1).toNatClampNeg = oSg (M.1 3 (M.1 1 5 - 1).toNatClampNeg) := g2
    have q3 := oSg_n g0 g1
    generalize hp : M.1 3 (M.1 1 5 - 1).toNatClampNeg = p at *
    generalize hv : M.1 4 (M.1 1 5 - 1).toNatClampNeg = v at *
    refine oAg.mk (oUp (oUp (oUp (oUp M 1 5 (M.1 1 5 - 1)) 2 p.toNatClampNeg v) 59 5 (M.1 1 5 - 1)) 60 (oSg p).toNatClampNeg v) rfl ?_ ?_
    · rw [m_undo N (by simp [oUp_at, e1]; omega) (by simp [oUp_at, e1]; omega) (by simp [oUp_at, e1, q2]; rw [q3]; split <;> omega) (by simp [oUp_at, e1, q2]; rw [q3]; split <;> omega)]
      simp [oUp_at, e1, q2, g3]
    · refine h.set ?_ ⟨?_, ?_, ?_, ?_, ?_⟩
      · exact .up (by decide) (.up59 (by decide) (.up (by decide) (.up (by decide) .rf)))
      · have := (oSv_up (v := v) ⟨s1, s2⟩ g0 g1).1
        intro j hj
        rw [oUp_row, oUp_ro _ _ _ _ (by decide), oUp_ro _ _ _ _ (by decide), oUp_ro _ _ _ _ (by decide), oUp_ro _ _ _ _ (by decide), oUp_ro _ _ _ _ (by decide), oUp_row, oUp_ro _ _ _ _ (by decide)]
        exact this j hj
      · have := (oSv_up (v := v) ⟨s1, s2⟩ g0 g1).2
        intro j hj
        rw [oUp_row, oUp_ro _ _ _ _ (by decide), oUp_ro _ _ _ _ (by decide), oUp_ro _ _ _ _ (by decide), oUp_ro _ _ _ _ (by decide), oUp_ro _ _ _ _ (by decide), oUp_row, oUp_ro _ _ _ _ (by decide)]
        exact this j hj
      · have := iVal_up (v := v) s3 g0 g5
        intro j hj
        rw [oUp_ro _ _ _ _ (by decide), oUp_ro _ _ _ _ (by decide), oUp_row, oUp_ro _ _ _ _ (by decide)]
        exact this j hj
      · simp [oUp_at, e2, x1]
        omega
      · intro k hk
        simp [oUp_at] at hk
        simp [oUp_at]
        exact s5 k hk
  · have hd0 : M.1 1 5 = 0 := by rw [oEqI, tl_0]; omega
    unfold f_X11_undo f_X12_undo f_X8_takeBack
    rw [if_neg (by rw [oLtI, tl_0]; omega)]
    refine oAg.mk M rfl ?_ h
    rw [if_pos (by rw [e1]; exact hd0)]
theorem c_redo {K : oK} {M : oM} (N : Nat) (b0 : 0 ≤ (M.1 1 5).toInt) (bk : (M.1 1 5).toInt < (M.1 1 4).toInt) (b1 : (M.1 1 4).toInt ≤ 40) (p0 : 0 ≤ (M.1 3 (M.1 1 5).toNatClampNeg).toInt) (p1 : (M.1 3 (M.1 1 5).toNatClampNeg).toInt < 21) :
    f_X11_redo N K M = some (M.1 1 4 - (M.1 1 5 + 1), oUp (oUp M 2 (M.1 3 (M.1 1 5).toNatClampNeg).toNatClampNeg (M.1 5 (M.1 1 5).toNatClampNeg)) 1 5 (M.1 1 5 + 1)) := by
  unfold f_X11_redo f_X8_doAgain
  rw [if_pos (by rw [oLtI]; exact bk), oIx_p (by omega) (by omega), oIx_p (by omega) (by omega), begin8 p0 p1]
  simp [oB2_p, oUp_at]
theorem m_redo {K : oK} {M : oM} (N : Nat) (b0 : 0 ≤ (M.1 59 5).toInt) (bk : (M.1 59 5).toInt < (M.1 59 4).toInt) (b1 : (M.1 59 4).toInt ≤ 40) (p0 : 0 ≤ (M.1 61 (M.1 59 5).toNatClampNeg).toInt) (p1 : (M.1 61 (M.1 59 5).toNatClampNeg).toInt < 21) :
    f_X12_redo N K M = some (M.1 59 4 - (M.1 59 5 + 1), oUp (oUp M 60 (M.1 61 (M.1 59 5).toNatClampNeg).toNatClampNeg (M.1 63 (M.1 59 5).toNatClampNeg)) 59 5 (M.1 59 5 + 1)) := by
  unfold f_X12_redo
  rw [if_neg (by rw [oEqI]; omega), oIx_p (by omega) (by omega), oIx_p (by omega) (by omega), oIx_p p0 (by omega)]
  simp [oUp_at]
theorem ag_redo {K : oK} {M : oM} (h : oInv K M) (N : Nat) : oAg K M (f_X11_redo N K M) (f_X12_redo N K) := by
  obtain ⟨s1, s2, s3, ⟨e1, e2, d0, d1, d2⟩, s5⟩ := h.2.2.1
  by_cases hd : (M.1 1 5).toInt < (M.1 1 4).toInt
  · have x1 := add1 (x := M.1 1 5) (by omega)
    have n1 : (M.1 1 5).toNatClampNeg = (M.1 1 5).toInt.toNat := rfl
    obtain ⟨⟨g0, g1, g2⟩, g3, g4, g5, g6⟩ := s5 (M.1 1 5).toNatClampNeg (by omega)
    rw [c_redo N d0 hd d2 g0 g1]
    have q2 : M.1 61 (M.1 1 5).toNatClampNeg = oSg (M.1 3 (M.1 1 5).toNatClampNeg) := g2
    have q3 := oSg_n g0 g1
    generalize hp : M.1 3 (M.1 1 5).toNatClampNeg = p at *
    generalize hv : M.1 5 (M.1 1 5).toNatClampNeg = v at *
    refine oAg.mk (oUp (oUp (oUp (oUp M 2 p.toNatClampNeg v) 1 5 (M.1 1 5 + 1)) 60 (oSg p).toNatClampNeg v) 59 5 (M.1 1 5 + 1)) rfl ?_ ?_
    · rw [m_redo N (by simp [oUp_at, e1]; omega) (by simp [oUp_at, e1, e2]; omega) (by simp [oUp_at, e2]; omega) (by simp [oUp_at, e1, q2]; rw [q3]; split <;> omega) (by simp [oUp_at, e1, q2]; rw [q3]; split <;> omega)]
      simp [oUp_at, e1, e2, q2, g4]
    · refine h.set ?_ ⟨?_, ?_, ?_, ?_, ?_⟩
      · exact .up59 (by decide) (.up (by decide) (.up (by decide) (.up (by decide) .rf)))
      · have := (oSv_up (v := v) ⟨s1, s2⟩ g0 g1).1
        intro j hj
        rw [oUp_ro _ _ _ _ (by decide), oUp_row, oUp_ro _ _ _ _ (by decide), oUp_ro _ _ _ _ (by decide), oUp_ro _ _ _ _ (by decide), oUp_ro _ _ _ _ (by decide), oUp_ro _ _ _ _ (by decide), oUp_row]
        exact this j hj
      · have := (oSv_up (v := v) ⟨s1, s2⟩ g0 g1).2
        intro j hj
        rw [oUp_ro _ _ _ _ (by decide), oUp_row, oUp_ro _ _ _ _ (by decide), oUp_ro _ _ _ _ (by decide), oUp_ro _ _ _ _ (by decide), oUp_ro _ _ _ _ (by decide), oUp_ro _ _ _ _ (by decide), oUp_row]
        exact this j hj
      · have := iVal_up (v := v) s3 g0 g6
        intro j hj
        rw [oUp_ro _ _ _ _ (by decide), oUp_ro _ _ _ _ (by decide), oUp_ro _ _ _ _ (by decide), oUp_row]
        exact this j hj
      · simp [oUp_at, e2, x1]
        omega
      · intro k hk
        simp [oUp_at] at hk
        simp [oUp_at]
        exact s5 k hk
  · have hd0 : M.1 1 5 = M.1 1 4 := by rw [oEqI]; omega
    unfold f_X11_redo f_X12_redo f_X8_doAgain
    rw [if_neg (by rw [oLtI]; omega)]
    refine oAg.mk M rfl ?_ h
    rw [if_pos (by rw [e1, e2]; exact hd0)]
