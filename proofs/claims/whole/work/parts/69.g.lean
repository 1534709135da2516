/-! heights and bores told anew -/
theorem oSv_at {f g : Nat → Int32} {p : Int32} (h : oSv f g) (h0 : 0 ≤ p.toInt) (h1 : p.toInt < 21) : g (oSg p).toNatClampNeg = f p.toNatClampNeg := by
  have e := oSg_n h0 h1
  have n1 : p.toNatClampNeg = p.toInt.toNat := rfl
  have n2 : (oSg p).toNatClampNeg = (oSg p).toInt.toNat := rfl
  by_cases c : p.toInt < 9
  · rw [if_pos c] at e
    rw [show (oSg p).toNatClampNeg = p.toNatClampNeg + 12 by omega]
    exact h.1 _ (by omega)
  · rw [if_neg c] at e
    rw [h.2 _ (by omega), show (oSg p).toNatClampNeg + 9 = p.toNatClampNeg by omega]
theorem cpy1 (f : Nat → Int32) {k : Nat} (h : k < 39) : va_cpy f f 1 0 39 k = f (k + 1) := by
  unfold va_cpy
  rw [if_pos (by omega)]
  congr 1
  omega
theorem ag_become {K : oK} {M : oM} (h : oInv K M) {N : Nat} (hN : 100 ≤ N) {p v : Int32} (p0 : 0 ≤ p.toInt) (p1 : p.toInt < 21) (hv : iVal p.toInt v) : oAg K M (f_X8_become N K p v M) (f_X12_becomes N K (oSg p) v) := by
  obtain ⟨s1, s2, s3, ⟨e1, e2, d0, d1, d2⟩, s5⟩ := h.2.2.1
  have hs := oSv_at (p := p) ⟨s1, s2⟩ p0 p1
  have eg := oSg_n p0 p1
  have q0 : 0 ≤ (oSg p).toInt := by rw [eg]; split <;> omega
  have q1 : (oSg p).toInt < 21 := by rw [eg]; split <;> omega
  have n1 : p.toNatClampNeg = p.toInt.toNat := rfl
  have hw : iVal p.toInt (M.1 2 p.toNatClampNeg) := by
    have := s3 p.toNatClampNeg (by omega)
    rw [show ((p.toNatClampNeg : Nat) : Int) = p.toInt by omega] at this
    exact this
  rw [become8 d0 (by omega) p0 p1]
  by_cases c : M.1 2 p.toNatClampNeg = v
  · rw [if_pos c]
    refine oAg.mk M rfl ?_ h
    unfold f_X12_becomes
    rw [oIx_p q0 (by omega), if_pos (by rw [hs]; exact c), hs]
  · rw [if_neg c]
    by_cases hd : (M.1 1 5).toInt < 40
    · rw [if_pos hd]
      have r60 : (oUp (nt8 M p (M.1 2 p.toNatClampNeg) v) 2 p.toNatClampNeg v).1 60 = M.1 60 := by
        unfold nt8
        rw [oUp_ro _ _ _ _ (by decide), oUp_ro _ _ _ _ (by decide), oUp_ro _ _ _ _ (by decide), oUp_ro _ _ _ _ (by decide), oUp_ro _ _ _ _ (by decide), oUp_ro _ _ _ _ (by decide)]
      have r59 : (oUp (nt8 M p (M.1 2 p.toNatClampNeg) v) 2 p.toNatClampNeg v).1 59 = M.1 59 := by
        unfold nt8
        rw [oUp_ro _ _ _ _ (by decide), oUp_ro _ _ _ _ (by decide), oUp_ro _ _ _ _ (by decide), oUp_ro _ _ _ _ (by decide), oUp_ro _ _ _ _ (by decide), oUp_ro _ _ _ _ (by decide)]
      have hn := nt_set (was := M.1 2 p.toNatClampNeg) (Ma := M) (Mb := oUp (nt8 M p (M.1 2 p.toNatClampNeg) v) 2 p.toNatClampNeg v) h p0 p1 hv hw .rf .rf (by rw [r59, e1]) d0 hd (fun k hk => by
        have := s5 k (by omega)
        unfold nt8
        rw [oUp_ro _ _ _ _ (by decide), oUp_ro _ _ _ _ (by decide), oUp_ro _ _ _ _ (by decide), oUp_ro _ _ _ _ (by decide), oUp_ro _ _ _ _ (by decide), oUp_ro _ _ _ _ (by decide), oUp_ro _ _ _ _ (by decide), oUp_ro _ _ _ _ (by decide), oUp_ro _ _ _ _ (by decide), oUp_ro _ _ _ _ (by decide), oUp_ro _ _ _ _ (by decide), oUp_ro _ _ _ _ (by decide), oUp_ro _ _ _ _ (by decide), oUp_ro _ _ _ _ (by decide), oUp_ro _ _ _ _ (by decide), oUp_ro _ _ _ _ (by decide), oUp_ro _ _ _ _ (by decide), oUp_ro _ _ _ _ (by decide)]
        exact this)
      refine oAg.mk _ rfl ?_ hn
      unfold f_X12_becomes
      rw [r60, r59, oIx_p q0 (by omega), if_neg (by rw [hs]; exact c), if_neg (by rw [e1, oEqI, tl_40]; omega), becomes97 (by rw [r59, e1]; exact d0) (by rw [r59, e1]; exact hd) q0 q1, hs]
    · rw [if_neg hd]
      have hd40 : (M.1 1 5).toInt = 40 := by omega
      have fF : oFr [1, 3, 4, 5] [] M (fg8 M) := by
        unfold fg8
        exact .up (by decide) (.row (by decide) (.row (by decide) (.row (by decide) .rf)))
      have f39 : (fg8 M).1 1 5 = 39 := by simp [fg8, oUp_at]
      have fM : oFr [1, 2, 3, 4, 5] [] M (oUp (nt8 (fg8 M) p (M.1 2 p.toNatClampNeg) v) 2 p.toNatClampNeg v) := by
        unfold nt8
        exact .up (by decide) (.up (by decide) (.up (by decide) (.up (by decide) (.up (by decide) (.up (by decide) (fF.weak (by decide) (by decide)))))))
      generalize hM1 : oUp (nt8 (fg8 M) p (M.1 2 p.toNatClampNeg) v) 2 p.toNatClampNeg v = M1 at *
      obtain ⟨M', h4, h5, h6, h7, h8⟩ := m_shift N K (oSg p) v (M.1 2 p.toNatClampNeg) N 1 M1 (by omega) (by omega) (by omega)
      have e59 : M'.1 59 5 = M.1 59 5 := (h5.2.1 5 (by decide)).trans (fM.2.1 5 (by decide))
      have e39 : M.1 59 5 - 1 = 39 := by rw [e1, oEqI, sub1 (by omega), tl_39]; omega
      have hn := nt_set (was := M.1 2 p.toNatClampNeg) (Ma := fg8 M) (Mb := oUp M' 59 5 (M'.1 59 5 - 1)) h p0 p1 hv hw fF (by rw [hM1]; exact .up59 (by decide) (h5.weak (by decide) (by decide))) (by simp [oUp_at, e59, e39, f39]) (by rw [f39, tl_39]; decide) (by rw [f39, tl_39]; decide) (fun k hk => by
        rw [f39, tl_39] at hk
        have := s5 (k + 1) (by omega)
        have c1 : ∀ a, a ≠ 59 → (oUp M' 59 5 (M'.1 59 5 - 1)).1 a = M'.1 a := fun a ha => oUp_ro _ _ _ _ ha
        rw [c1 61 (by decide), c1 62 (by decide), c1 63 (by decide), h6 k, h7 k, h8 k, if_pos (by omega), if_pos (by omega), if_pos (by omega), fM.1 61 (by decide) (by decide), fM.1 62 (by decide) (by decide), fM.1 63 (by decide) (by decide)]
        unfold fg8
        rw [oUp_ro _ _ _ _ (by decide), oUp_ro _ _ _ _ (by decide), oUp_ro _ _ _ _ (by decide), oRow_ro _ _ _ (by decide), oRow_ro _ _ _ (by decide), oRow_row, oRow_ro _ _ _ (by decide), oRow_row, oRow_row, cpy1 _ (by omega), cpy1 _ (by omega), cpy1 _ (by omega)]
        exact this)
      refine oAg.mk _ rfl ?_ hn
      unfold f_X12_becomes
      rw [fM.1 60 (by decide) (by decide), fM.2.1 5 (by decide), oIx_p q0 (by omega), if_neg (by rw [hs]; exact c), if_pos (by rw [e1, oEqI, tl_40]; omega), hs, show (1 : Int32) = nI 1 from rfl, h4]
      have ex : (oUp M' 59 5 (M'.1 59 5 - 1)).1 59 5 = 39 := by simp [oUp_at, e59, e39]
      exact becomes97 (by rw [ex]; decide) (by rw [ex]; decide) q0 q1
theorem ag_height {K : oK} {M : oM} (h : oInv K M) {N : Nat} (hN : 100 ≤ N) (a b : Int32) : oAg K M (f_X11_height N K a b M) (f_X12_height N K a b) := by
  obtain ⟨⟨e1, b0, b1⟩, -⟩ := h.2.1
  unfold f_X11_height f_X12_height
  rw [isPt4, oB2_p]
  by_cases ha : 0 ≤ a.toInt ∧ a.toInt < (M.1 6 5).toInt
  · by_cases hb : 0 ≤ b.toInt ∧ b.toInt ≤ 999
    · have e9 : (9 + a).toInt = 9 + a.toInt := oAdd (by rw [tl_9]; omega) (by rw [tl_9]; omega)
      have eq : oSg (9 + a) = a := by
        have := oSg_n (p := 9 + a) (by omega) (by omega)
        rw [if_neg (by omega)] at this
        rw [oEqI]
        omega
      obtain ⟨r, M1, M2, h1, h2, h3⟩ := ag_become h hN (p := 9 + a) (v := b) (by omega) (by omega) (by unfold iVal; rw [if_neg (by omega), if_neg (by omega)]; exact hb)
      rw [eq] at h2
      simp only [w11, oB2_p, tl_0, tl_999, decide_eq_true ha, decide_eq_true hb, cond_true, h1]
      have f6 : M1.1 59 6 = M.1 6 5 := by
        have := become8 (N := N) (K := K) (M := M) (p := 9 + a) (v := b) h.2.2.1.2.2.2.1.2.2.1 (by have := h.2.2.1.2.2.2.1; omega) (by omega) (by omega)
        rw [h1] at this
        have e := (Prod.mk.inj (Option.some.inj this)).2
        rw [e]
        split
        · exact e1
        · rw [oUp_ro _ _ _ _ (by decide)]
          split
          · unfold nt8
            rw [oUp_ro _ _ _ _ (by decide), oUp_ro _ _ _ _ (by decide), oUp_ro _ _ _ _ (by decide), oUp_ro _ _ _ _ (by decide), oUp_ro _ _ _ _ (by decide)]
            exact e1
          · unfold nt8 fg8
            rw [oUp_ro _ _ _ _ (by decide), oUp_ro _ _ _ _ (by decide), oUp_ro _ _ _ _ (by decide), oUp_ro _ _ _ _ (by decide), oUp_ro _ _ _ _ (by decide), oUp_ro _ _ _ _ (by decide), oRow_ro _ _ _ (by decide), oRow_ro _ _ _ (by decide), oRow_ro _ _ _ (by decide)]
            exact e1
      refine oAg.mk M2 rfl ?_ h3
      rw [isPt12 N K a M1 (by rw [f6]; exact b0), oB2_p, f6]
      simp only [w12, oB2_p, oLg, l64_0, show (999 : Int64).toInt = 999 from rfl, decide_eq_true ha, decide_eq_true hb, cond_true, h2]
    · simp only [w11, oB2_p, tl_0, tl_999, decide_eq_true ha, decide_eq_false hb, cond_true, cond_false]
      refine oAg.mk M rfl ?_ h
      rw [isPt12 N K a M (by rw [e1]; exact b0), oB2_p, e1]
      simp only [w12, oB2_p, oLg, l64_0, show (999 : Int64).toInt = 999 from rfl, decide_eq_true ha, decide_eq_false hb, cond_true, cond_false]
  · simp only [decide_eq_false ha, cond_false]
    refine oAg.mk M rfl ?_ h
    rw [isPt12 N K a M (by rw [e1]; exact b0), oB2_p, e1]
    simp only [decide_eq_false ha, cond_false]
