/-! a setting told anew, its change noted -/
def oCh1 (p61 p3 p62 p4 p63 p5 : Int32) : Prop := (0 ≤ p3.toInt ∧ p3.toInt < 21 ∧ p61 = oSg p3) ∧ p62 = p4 ∧ p63 = p5 ∧ iVal p3.toInt p4 ∧ iVal p3.toInt p5
def nt8 (M : oM) (p was v : Int32) : oM := oUp (oUp (oUp (oUp (oUp M 3 (M.1 1 5).toNatClampNeg p) 4 (M.1 1 5).toNatClampNeg was) 5 (M.1 1 5).toNatClampNeg v) 1 5 (M.1 1 5 + 1)) 1 4 (M.1 1 5 + 1)
theorem note36 {N : Nat} {K : oK} {M : oM} {p was v : Int32} (b0 : 0 ≤ (M.1 1 5).toInt) (b1 : (M.1 1 5).toInt < 40) : f_X8_note_36 N K p was v M = some ((), nt8 M p was v) := by
  unfold f_X8_note_36 nt8
  simp only [oUp_at]
  simp [oIx_p (n := 40) b0 (by omega)]
def nt12 (M : oM) (p was v : Int32) : oM := oUp (oUp (oUp (oUp (oUp M 61 (M.1 59 5).toNatClampNeg p) 62 (M.1 59 5).toNatClampNeg was) 63 (M.1 59 5).toNatClampNeg v) 59 5 (M.1 59 5 + 1)) 59 4 (M.1 59 5 + 1)
theorem becomes97 {N : Nat} {K : oK} {M : oM} {p was v : Int32} (b0 : 0 ≤ (M.1 59 5).toInt) (b1 : (M.1 59 5).toInt < 40) (p0 : 0 ≤ p.toInt) (p1 : p.toInt < 21) : f_X12_becomes_97 N K p v was M = some (was, oUp (nt12 M p was v) 60 p.toNatClampNeg v) := by
  unfold f_X12_becomes_97 nt12
  simp only [oUp_at]
  simp [oIx_p (n := 40) b0 (by omega), oIx_p (n := 21) p0 (by omega)]
theorem sh_step (f : Nat → Int32) {k j : Nat} (h1 : 1 ≤ k) (hk : k < 40) : (if k + 1 ≤ j + 1 ∧ j < 39 then upd f (k - 1) (f k) (j + 1) else upd f (k - 1) (f k) j) = if k ≤ j + 1 ∧ j < 39 then f (j + 1) else f j := by
  unfold upd
  by_cases q : j + 1 = k
  · rw [if_neg (by omega), if_pos (by omega), if_pos (by omega), q]
  · by_cases q2 : k + 1 ≤ j + 1 ∧ j < 39
    · rw [if_pos q2, if_neg (by omega), if_pos (by omega)]
    · rw [if_neg q2, if_neg (by omega), if_neg (by omega)]
theorem m_shift (N : Nat) (K : oK) (p1 p2 p3 : Int32) : ∀ (n k : Nat) (M : oM), 1 ≤ k → k ≤ 40 → 40 - k < n → ∃ M' : oM, f_X12_becomes_26 N K n p1 p2 p3 (nI k) M = f_X12_becomes_97 N K p1 p2 p3 (oUp M' 59 5 (M'.1 59 5 - 1)) ∧ oFr [61, 62, 63] [] M M' ∧
    (∀ j, M'.1 61 j = if k ≤ j + 1 ∧ j < 39 then M.1 61 (j + 1) else M.1 61 j) ∧ (∀ j, M'.1 62 j = if k ≤ j + 1 ∧ j < 39 then M.1 62 (j + 1) else M.1 62 j) ∧ (∀ j, M'.1 63 j = if k ≤ j + 1 ∧ j < 39 then M.1 63 (j + 1) else M.1 63 j) := by
  intro n
  induction n with
  | zero => intro k M h1 h2 h3; omega
  | succ n ih =>
    intro k M h1 h2 h3
    have ek : (nI k).toInt = k := nI_toInt (by omega)
    rw [f_X12_becomes_26]
    dsimp only
    by_cases hk : k = 40
    · subst hk
      refine ⟨M, ?_, .rf, fun j => ?_, fun j => ?_, fun j => ?_⟩
      · rw [if_pos (by rw [oLeI, ek]; decide)]
      · rw [if_neg (by omega)]
      · rw [if_neg (by omega)]
      · rw [if_neg (by omega)]
    · have e1 : nI k - 1 = nI (k - 1) := pk_sub (a := k) (b := 1) h1
      have ek1 : (nI (k - 1)).toInt = ((k - 1 : Nat) : Int) := nI_toInt (by omega)
      have e2 : nI k + 1 = nI (k + 1) := nI_1 k
      have c1 : (nI k).toNatClampNeg = k := nI_clamp (by omega)
      have c2 : (nI (k - 1)).toNatClampNeg = k - 1 := nI_clamp (by omega)
      obtain ⟨M', h4, h5, h6, h7, h8⟩ := ih (k + 1) (oUp (oUp (oUp M 61 (k - 1) (M.1 61 k)) 62 (k - 1) (M.1 62 k)) 63 (k - 1) (M.1 63 k)) (by omega) (by omega) (by omega)
      refine ⟨M', ?_, (oFr.tr (.up (by decide) (.up (by decide) (.up (by decide) .rf))) h5), fun j => ?_, fun j => ?_, fun j => ?_⟩
      · rw [if_neg (by rw [oLeI, ek, tl_40]; omega)]
        simp only [e1, e2, c1, c2]
        rw [oIx_p (by omega) (by omega), oIx_p (by omega) (by omega), oIx_p (by omega) (by omega), oIx_p (by omega) (by omega), oIx_p (by omega) (by omega), oIx_p (by omega) (by omega), ← h4]
        simp only [oUp_at]
        simp
      · rw [h6 j, oUp_ro _ _ _ _ (by decide), oUp_ro _ _ _ _ (by decide), oUp_row]
        exact sh_step _ h1 (by omega)
      · rw [h7 j, oUp_ro _ _ _ _ (by decide), oUp_row, oUp_ro _ _ _ _ (by decide)]
        exact sh_step _ h1 (by omega)
      · rw [h8 j, oUp_row, oUp_ro _ _ _ _ (by decide), oUp_ro _ _ _ _ (by decide)]
        exact sh_step _ h1 (by omega)
theorem forget8 {N : Nat} {K : oK} {M : oM} {a : Nat} : f_X8_forgetFirst N K a M = some ((), oRow M a (va_cpy (M.1 a) (M.1 a) 1 0 39)) := by
  unfold f_X8_forgetFirst oCpOk
  rw [if_neg (by decide)]
  rfl
theorem oRow_ro (M : oM) (a : Nat) (f : Nat → Int32) {b : Nat} (h : b ≠ a) : (oRow M a f).1 b = M.1 b := by simp [oRow, h]
theorem oRow_row (M : oM) (a : Nat) (f : Nat → Int32) : (oRow M a f).1 a = f := by simp [oRow]
def fg8 (M : oM) : oM := oUp (oRow (oRow (oRow M 3 (va_cpy (M.1 3) (M.1 3) 1 0 39)) 4 (va_cpy (M.1 4) (M.1 4) 1 0 39)) 5 (va_cpy (M.1 5) (M.1 5) 1 0 39)) 1 5 39
theorem note8 {N : Nat} {K : oK} {M : oM} {p was v : Int32} (b0 : 0 ≤ (M.1 1 5).toInt) (b1 : (M.1 1 5).toInt ≤ 40) : f_X8_note N K p was v M = some ((), if (M.1 1 5).toInt < 40 then nt8 M p was v else nt8 (fg8 M) p was v) := by
  unfold f_X8_note
  by_cases c : (M.1 1 5).toInt < 40
  · rw [if_pos (by rw [oLtI, tl_40]; exact c), note36 b0 c, if_pos c]
  · rw [if_neg (by rw [oLtI, tl_40]; exact c), if_neg c, forget8, oB2_p, forget8, oB2_p, forget8, oB2_p]
    have e : oUp (oRow (oRow (oRow M 3 (va_cpy (M.1 3) (M.1 3) 1 0 39)) 4 (va_cpy ((oRow M 3 (va_cpy (M.1 3) (M.1 3) 1 0 39)).1 4) ((oRow M 3 (va_cpy (M.1 3) (M.1 3) 1 0 39)).1 4) 1 0 39)) 5 (va_cpy ((oRow (oRow M 3 (va_cpy (M.1 3) (M.1 3) 1 0 39)) 4 (va_cpy ((oRow M 3 (va_cpy (M.1 3) (M.1 3) 1 0 39)).1 4) ((oRow M 3 (va_cpy (M.1 3) (M.1 3) 1 0 39)).1 4) 1 0 39)).1 5) ((oRow (oRow M 3 (va_cpy (M.1 3) (M.1 3) 1 0 39)) 4 (va_cpy ((oRow M 3 (va_cpy (M.1 3) (M.1 3) 1 0 39)).1 4) ((oRow M 3 (va_cpy (M.1 3) (M.1 3) 1 0 39)).1 4) 1 0 39)).1 5) 1 0 39)) 1 5 39 = fg8 M := by
      unfold fg8
      simp only [oRow_ro _ _ _ (show (4 : Nat) ≠ 3 by decide), oRow_ro _ _ _ (show (5 : Nat) ≠ 4 by decide), oRow_ro _ _ _ (show (5 : Nat) ≠ 3 by decide)]
    rw [e]
    have hd : (fg8 M).1 1 5 = 39 := by simp [fg8, oUp_at]
    exact note36 (by rw [hd]; decide) (by rw [hd]; decide)
theorem become8 {N : Nat} {K : oK} {M : oM} {p v : Int32} (b0 : 0 ≤ (M.1 1 5).toInt) (b1 : (M.1 1 5).toInt ≤ 40) (p0 : 0 ≤ p.toInt) (p1 : p.toInt < 21) : f_X8_become N K p v M = some (M.1 2 p.toNatClampNeg, if M.1 2 p.toNatClampNeg = v then M else oUp (if (M.1 1 5).toInt < 40 then nt8 M p (M.1 2 p.toNatClampNeg) v else nt8 (fg8 M) p (M.1 2 p.toNatClampNeg) v) 2 p.toNatClampNeg v) := by
  unfold f_X8_become
  rw [at8 p0 p1, oB2_p]
  by_cases c : M.1 2 p.toNatClampNeg = v
  · rw [if_pos c, if_pos c]
  · rw [if_neg c, if_neg c, note8 b0 b1, oB2_p, begin8 p0 p1, oB2_p]
/-- what the notes are behind a change, in both, from any state of one shape -/
theorem nt_set {K : oK} {Ma Mb M : oM} {p v was : Int32} (h : oInv K M) (p0 : 0 ≤ p.toInt) (p1 : p.toInt < 21) (hv : iVal p.toInt v) (hw : iVal p.toInt was)
    (f1 : oFr [1, 3, 4, 5] [] M Ma) (f2 : oFr [61, 62, 63] [5] (oUp (nt8 Ma p was v) 2 p.toNatClampNeg v) Mb) (ed : Mb.1 59 5 = Ma.1 1 5) (d0 : 0 ≤ (Ma.1 1 5).toInt) (d1 : (Ma.1 1 5).toInt < 40)
    (hk : ∀ k : Nat, (k : Int) < (Ma.1 1 5).toInt → oCh1 (Mb.1 61 k) (Ma.1 3 k) (Mb.1 62 k) (Ma.1 4 k) (Mb.1 63 k) (Ma.1 5 k)) :
    oInv K (oUp (nt12 Mb (oSg p) was v) 60 (oSg p).toNatClampNeg v) := by
  obtain ⟨s1, s2, s3, -, -⟩ := h.2.2.1
  have x1 := add1 (x := Ma.1 1 5) (by omega)
  have F : oFr [1, 2, 3, 4, 5, 60, 61, 62, 63] [4, 5] M (oUp (nt12 Mb (oSg p) was v) 60 (oSg p).toNatClampNeg v) := by
    refine .up (by decide) ?_
    unfold nt12
    refine .up59 (by decide) (.up59 (by decide) (.up (by decide) (.up (by decide) (.up (by decide) (oFr.tr ?_ (f2.weak (by decide) (by decide)))))))
    unfold nt8
    exact .up (by decide) (.up (by decide) (.up (by decide) (.up (by decide) (.up (by decide) (.up (by decide) (f1.weak (by decide) (by decide)))))))
  have r2 : (oUp (nt12 Mb (oSg p) was v) 60 (oSg p).toNatClampNeg v).1 2 = upd (M.1 2) p.toNatClampNeg v := by
    rw [oUp_ro _ _ _ _ (by decide)]
    unfold nt12
    rw [oUp_ro _ _ _ _ (by decide), oUp_ro _ _ _ _ (by decide), oUp_ro _ _ _ _ (by decide), oUp_ro _ _ _ _ (by decide), oUp_ro _ _ _ _ (by decide), f2.1 2 (by decide) (by decide), oUp_row]
    unfold nt8
    rw [oUp_ro _ _ _ _ (by decide), oUp_ro _ _ _ _ (by decide), oUp_ro _ _ _ _ (by decide), oUp_ro _ _ _ _ (by decide), oUp_ro _ _ _ _ (by decide), f1.1 2 (by decide) (by decide)]
  have r60 : (oUp (nt12 Mb (oSg p) was v) 60 (oSg p).toNatClampNeg v).1 60 = upd (M.1 60) (oSg p).toNatClampNeg v := by
    rw [oUp_row]
    unfold nt12
    rw [oUp_ro _ _ _ _ (by decide), oUp_ro _ _ _ _ (by decide), oUp_ro _ _ _ _ (by decide), oUp_ro _ _ _ _ (by decide), oUp_ro _ _ _ _ (by decide), f2.1 60 (by decide) (by decide)]
    unfold nt8
    rw [oUp_ro _ _ _ _ (by decide), oUp_ro _ _ _ _ (by decide), oUp_ro _ _ _ _ (by decide), oUp_ro _ _ _ _ (by decide), oUp_ro _ _ _ _ (by decide), oUp_ro _ _ _ _ (by decide), f1.1 60 (by decide) (by decide)]
  have up := oSv_up (v := v) ⟨s1, s2⟩ p0 p1
  have g1 : ∀ j, (oUp (nt12 Mb (oSg p) was v) 60 (oSg p).toNatClampNeg v).1 1 j = (nt8 Ma p was v).1 1 j := by
    intro j
    rw [oUp_ro _ _ _ _ (by decide)]
    unfold nt12
    rw [oUp_ro _ _ _ _ (by decide), oUp_ro _ _ _ _ (by decide), oUp_ro _ _ _ _ (by decide), oUp_ro _ _ _ _ (by decide), oUp_ro _ _ _ _ (by decide), f2.1 1 (by decide) (by decide), oUp_ro _ _ _ _ (by decide)]
  have g345 : ∀ a, a = 3 ∨ a = 4 ∨ a = 5 → (oUp (nt12 Mb (oSg p) was v) 60 (oSg p).toNatClampNeg v).1 a = (nt8 Ma p was v).1 a := by
    intro a ha
    rw [oUp_ro _ _ _ _ (by omega)]
    unfold nt12
    rw [oUp_ro _ _ _ _ (by omega), oUp_ro _ _ _ _ (by omega), oUp_ro _ _ _ _ (by omega), oUp_ro _ _ _ _ (by omega), oUp_ro _ _ _ _ (by omega), f2.1 a (by omega) (by rcases ha with rfl | rfl | rfl <;> decide), oUp_ro _ _ _ _ (by omega)]
  refine h.set F ⟨?_, ?_, ?_, ?_, ?_⟩
  · rw [r2, r60]; exact up.1
  · rw [r2, r60]; exact up.2
  · rw [r2]; exact iVal_up s3 p0 hv
  · rw [g1, g1]
    simp [oUp_at, nt12, nt8, ed, x1]
    omega
  · intro k hk2
    rw [g1] at hk2
    simp [nt8, oUp_at, x1] at hk2
    rw [g345 3 (by omega), g345 4 (by omega), g345 5 (by omega)]
    have nd : (Ma.1 1 5).toNatClampNeg = (Ma.1 1 5).toInt.toNat := rfl
    rcases nat_lt2 d0 hk2 with q | ⟨q, q2⟩
    · simp [oUp_at, nt12, nt8, ed, q]
      exact ⟨⟨p0, p1, rfl⟩, hw, hv⟩
    · have := hk k q
      simp [oUp_at, nt12, nt8, ed, q2]
      exact this
