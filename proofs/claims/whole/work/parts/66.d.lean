/-! points, ways, engines -/
theorem oTnP {x : Int32} {n : Nat} (h : x.toInt = n) : x.toNatClampNeg = n := by
  have : x.toNatClampNeg = x.toInt.toNat := rfl
  omega
theorem begin8 {N : Nat} {K : oK} {M : oM} {p v : Int32} (h0 : 0 ≤ p.toInt) (h1 : p.toInt < 21) : f_X8_begin N K p v M = some ((), oUp M 2 p.toNatClampNeg v) := by
  unfold f_X8_begin
  rw [if_neg (by rw [oLtI, tl_0]; omega), if_neg (by rw [oLeI, show (Int32.ofNat 21).toInt = 21 from rfl]; omega), oIx_p h0 (by omega)]
theorem at8 {N : Nat} {K : oK} {M : oM} {p : Int32} (h0 : 0 ≤ p.toInt) (h1 : p.toInt < 21) : f_X8_at N K p M = some (M.1 2 p.toNatClampNeg, M) := by
  unfold f_X8_at
  rw [if_neg (by rw [oLtI, tl_0]; omega), if_neg (by rw [oLeI, show (Int32.ofNat 21).toInt = 21 from rfl]; omega), oIx_p h0 (by omega)]
theorem c_point {K : oK} {M : oM} (N : Nat) (a : Int32) (b0 : 0 ≤ (M.1 6 5).toInt) : f_X11_point N K a M = if 0 ≤ a.toInt ∧ a.toInt ≤ 999 then (if (M.1 6 5).toInt < 12 then some (M.1 6 5, oUp (oUp M 2 (9 + M.1 6 5).toNatClampNeg a) 6 5 (M.1 6 5 + 1)) else some (-3, M)) else some (-1, M) := by
  unfold f_X11_point f_X4_addPoint
  simp only [w11, oB2_p, tl_0, tl_999, lt_lit tl_12]
  by_cases ha : 0 ≤ a.toInt ∧ a.toInt ≤ 999
  · by_cases hc : (M.1 6 5).toInt < 12
    · have e9 : (9 + M.1 6 5).toInt = 9 + (M.1 6 5).toInt := oAdd (by rw [tl_9]; omega) (by rw [tl_9]; omega)
      rw [begin8 (by omega) (by omega)]
      simp [ha, hc, oUp_at, oB2_p]
    · simp [ha, hc, oB2_p]
  · simp [ha]
theorem addsub1 (x : Int32) : x + 1 - 1 = x := by
  rw [Int32.add_sub_cancel]
theorem m_point {K : oK} {M : oM} (N : Nat) (a : Int32) (b0 : 0 ≤ (M.1 59 6).toInt) (b1 : (M.1 59 6).toInt ≤ 12) : f_X12_point N K a M = if 0 ≤ a.toInt ∧ a.toInt ≤ 999 then (if (M.1 59 6).toInt < 12 then some (M.1 59 6, oUp (oUp M 60 (M.1 59 6).toNatClampNeg a) 59 6 (M.1 59 6 + 1)) else some (-3, M)) else some (-1, M) := by
  unfold f_X12_point
  simp only [w12, oB2_p, oLg, l64_0, show (999 : Int64).toInt = 999 from rfl, eq_lit tl_12]
  by_cases ha : 0 ≤ a.toInt ∧ a.toInt ≤ 999
  · by_cases hc : (M.1 59 6).toInt < 12
    · simp [ha, hc, show ¬ (M.1 59 6).toInt = 12 by omega, oIx_p (n := 21) b0 (by omega), oUp_at, addsub1]
    · simp [ha, show (M.1 59 6).toInt = 12 by omega]
  · simp [ha]
theorem ag_point {K : oK} {M : oM} (h : oInv K M) (N : Nat) (a : Int32) : oAg K M (f_X11_point N K a M) (f_X12_point N K a) := by
  obtain ⟨⟨e1, b0, b1⟩, ⟨e2, b2, b3⟩, hw, hv⟩ := h.2.1
  obtain ⟨s1, s2, s3, s4, s5⟩ := h.2.2.1
  rw [c_point N a b0]
  by_cases ha : 0 ≤ a.toInt ∧ a.toInt ≤ 999
  · by_cases hc : (M.1 6 5).toInt < 12
    · have hx := add1 (x := M.1 6 5) (by omega)
      have e9 : (9 + M.1 6 5).toInt = 9 + (M.1 6 5).toInt := oAdd (by rw [tl_9]; omega) (by rw [tl_9]; omega)
      have n9 : (9 + M.1 6 5).toNatClampNeg = (M.1 6 5).toNatClampNeg + 9 := by
        have h1 : (9 + M.1 6 5).toNatClampNeg = (9 + M.1 6 5).toInt.toNat := rfl
        have h2 : (M.1 6 5).toNatClampNeg = (M.1 6 5).toInt.toNat := rfl
        omega
      have hp : (M.1 6 5).toNatClampNeg < 12 := by
        have h2 : (M.1 6 5).toNatClampNeg = (M.1 6 5).toInt.toNat := rfl
        omega
      rw [if_pos ha, if_pos hc, n9]
      generalize hpn : (M.1 6 5).toNatClampNeg = pn at hp
      refine oAg.mk (oUp (oUp (oUp (oUp M 2 (pn + 9) a) 6 5 (M.1 6 5 + 1)) 60 pn a) 59 6 (M.1 6 5 + 1)) rfl ?_ ?_
      · rw [m_point N a (by simp [oUp_at, e1, b0]) (by simp [oUp_at, e1, b1]), if_pos ha, if_pos (by simp [oUp_at, e1, hc])]
        simp [oUp_at, e1, hpn]
      · refine h.gnd ?_ ⟨⟨?_, ?_, ?_⟩, ⟨?_, ?_, ?_⟩, ?_, ?_⟩ ⟨?_, ?_, ?_, ?_, ?_⟩ ⟨?_, ?_⟩ ?_
        · exact .up59 (by decide) (.up (by decide) (.up (by decide) (.up (by decide) .rf)))
        · simp [oUp_at]
        · simp [oUp_at, hx]; omega
        · simp [oUp_at, hx]; omega
        · simp [oUp_at, e2]
        · simp [oUp_at, b2]
        · simp [oUp_at, b3]
        · intro i hi
          simp [oUp_at, hw i hi]
        · intro i hi
          simp [oUp_at] at hi
          have := hv i hi
          simp [oUp_at, hx, this]
          omega
        · intro j hj
          simp [oUp_at, show ¬ j = pn + 9 by omega, show ¬ j + 12 = pn by omega, s1 j hj]
        · intro j hj
          by_cases q : j = pn
          · simp [oUp_at, q]
          · simp [oUp_at, q, s2 j hj]
        · intro j hj
          by_cases q : j = pn + 9
          · simp only [oUp_at]
            simp [q]
            unfold iVal
            rw [if_neg (by omega), if_neg (by omega)]
            exact ha
          · simp [oUp_at, q]
            exact s3 j hj
        · simp [oUp_at]
          exact s4
        · intro k hk
          simp [oUp_at] at hk
          simp [oUp_at]
          exact s5 k hk
        · simp [oUp_at, hx]; omega
        · simp [oUp_at]
        · intro k _
          simp [oUp_at]
    · rw [if_pos ha, if_neg hc]
      refine oAg.mk M rfl ?_ h
      rw [m_point N a (by rw [e1]; exact b0) (by rw [e1]; exact b1), if_pos ha, if_neg (by rw [e1]; exact hc)]
  · rw [if_neg ha]
    refine oAg.mk M rfl ?_ h
    rw [m_point N a (by rw [e1]; exact b0) (by rw [e1]; exact b1), if_neg ha]
theorem c_way {K : oK} {M : oM} (N : Nat) (a b c : Int32) (b0 : 0 ≤ (M.1 6 6).toInt) : f_X11_way N K a b c M = if ((0 ≤ a.toInt ∧ a.toInt < (M.1 6 5).toInt) ∧ 0 ≤ b.toInt ∧ b.toInt < (M.1 6 5).toInt) ∧ ¬ a = b ∧ 1 ≤ c.toInt ∧ c.toInt ≤ 30 then (if (M.1 6 6).toInt < 20 then some (M.1 6 6, oUp (oUp (oUp (oUp M 7 (M.1 6 6).toNatClampNeg a) 8 (M.1 6 6).toNatClampNeg b) 9 (M.1 6 6).toNatClampNeg c) 6 6 (M.1 6 6 + 1)) else some (-3, M)) else some (-1, M) := by
  unfold f_X11_way f_X4_addWay
  simp only [w11, isPt4, oB2_p, tl_1, tl_30, lt_lit tl_20]
  by_cases ha : 0 ≤ a.toInt ∧ a.toInt < (M.1 6 5).toInt
  · by_cases hb : 0 ≤ b.toInt ∧ b.toInt < (M.1 6 5).toInt
    · by_cases hab : a = b
      · simp [hab, hb]
      · by_cases hcc : 1 ≤ c.toInt ∧ c.toInt ≤ 30
        · by_cases hc : (M.1 6 6).toInt < 20
          · simp [ha, hb, hab, hcc, hc, oIx_p (n := 20) b0 (by omega), oUp_at, oB2_p]
          · simp [ha, hb, hab, hcc, hc, oB2_p]
        · simp [ha, hb, hab, hcc]
    · simp [ha, hb]
  · simp [ha]
theorem m_way {K : oK} {M : oM} (N : Nat) (a b c : Int32) (p0 : 0 ≤ (M.1 59 6).toInt) (b0 : 0 ≤ (M.1 59 7).toInt) (b1 : (M.1 59 7).toInt ≤ 20) : f_X12_way N K a b c M = if ((0 ≤ a.toInt ∧ a.toInt < (M.1 59 6).toInt) ∧ 0 ≤ b.toInt ∧ b.toInt < (M.1 59 6).toInt) ∧ ¬ a = b ∧ 1 ≤ c.toInt ∧ c.toInt ≤ 30 then (if (M.1 59 7).toInt < 20 then some (M.1 59 7, oUp (oUp (oUp (oUp M 64 (M.1 59 7).toNatClampNeg a) 65 (M.1 59 7).toNatClampNeg b) 66 (M.1 59 7).toNatClampNeg c) 59 7 (M.1 59 7 + 1)) else some (-3, M)) else some (-1, M) := by
  unfold f_X12_way
  simp only [w12, isPt12 N K _ M p0, oB2_p, oLg, l64_1, show (30 : Int64).toInt = 30 from rfl, eq_lit tl_20]
  by_cases ha : 0 ≤ a.toInt ∧ a.toInt < (M.1 59 6).toInt
  · by_cases hb : 0 ≤ b.toInt ∧ b.toInt < (M.1 59 6).toInt
    · by_cases hab : a = b
      · simp [hab, hb, isPt12 N K _ M p0, oB2_p]
      · by_cases hcc : 1 ≤ c.toInt ∧ c.toInt ≤ 30
        · by_cases hc : (M.1 59 7).toInt < 20
          · simp [ha, hb, hab, hcc, hc, isPt12 N K _ M p0, oB2_p, show ¬ (M.1 59 7).toInt = 20 by omega, oIx_p (n := 20) b0 (by omega), oUp_at, addsub1]
          · simp [ha, hb, hab, hcc, isPt12 N K _ M p0, oB2_p, show (M.1 59 7).toInt = 20 by omega]
        · simp [ha, hb, hab, hcc, isPt12 N K _ M p0, oB2_p]
    · simp [ha, hb, isPt12 N K _ M p0, oB2_p]
  · simp [ha]
theorem ag_way {K : oK} {M : oM} (h : oInv K M) (N : Nat) (a b c : Int32) : oAg K M (f_X11_way N K a b c M) (f_X12_way N K a b c) := by
  obtain ⟨⟨e1, b0, b1⟩, ⟨e2, b2, b3⟩, hw, hv⟩ := h.2.1
  rw [c_way N a b c b2]
  by_cases ha : ((0 ≤ a.toInt ∧ a.toInt < (M.1 6 5).toInt) ∧ 0 ≤ b.toInt ∧ b.toInt < (M.1 6 5).toInt) ∧ ¬ a = b ∧ 1 ≤ c.toInt ∧ c.toInt ≤ 30
  · by_cases hc : (M.1 6 6).toInt < 20
    · have hx := add1 (x := M.1 6 6) (by omega)
      rw [if_pos ha, if_pos hc]
      refine oAg.mk (oUp (oUp (oUp (oUp (oUp (oUp (oUp (oUp M 7 (M.1 6 6).toNatClampNeg a) 8 (M.1 6 6).toNatClampNeg b) 9 (M.1 6 6).toNatClampNeg c) 6 6 (M.1 6 6 + 1)) 64 (M.1 6 6).toNatClampNeg a) 65 (M.1 6 6).toNatClampNeg b) 66 (M.1 6 6).toNatClampNeg c) 59 7 (M.1 6 6 + 1)) rfl ?_ ?_
      · rw [m_way N a b c (by simp [oUp_at, e1, b0]) (by simp [oUp_at, e2, b2]) (by simp [oUp_at, e2, b3]), if_pos (by simp [oUp_at, e1]; exact ha), if_pos (by simp [oUp_at, e2, hc])]
        simp [oUp_at, e2]
      · refine h.gnd ?_ ⟨⟨?_, ?_, ?_⟩, ⟨?_, ?_, ?_⟩, ?_, ?_⟩ (h.2.2.1.fr (R := [6, 7, 8, 9, 64, 65, 66]) (F := [7]) ?_ (by decide) (by decide)) ⟨?_, ?_⟩ ?_
        · exact .up59 (by decide) (.up (by decide) (.up (by decide) (.up (by decide) (.up (by decide) (.up (by decide) (.up (by decide) (.up (by decide) .rf)))))))
        · simp [oUp_at, e1]
        · simp [oUp_at, b0]
        · simp [oUp_at, b1]
        · simp [oUp_at]
        · simp [oUp_at, hx]; omega
        · simp [oUp_at, hx]; omega
        · intro i hi
          by_cases q : i = (M.1 6 6).toNatClampNeg
          · simp [oUp_at, q]
          · simp [oUp_at, q, hw i hi]
        · intro i hi
          simp [oUp_at, hx] at hi
          rcases nat_lt2 b2 hi with q | ⟨q, q2⟩
          · simp [oUp_at, q, ha]
          · have := hv i q
            simp [oUp_at, q2, this]
        · exact .up59 (by decide) (.up (by decide) (.up (by decide) (.up (by decide) (.up (by decide) (.up (by decide) (.up (by decide) (.up (by decide) .rf)))))))
        · simp [oUp_at]
        · simp [oUp_at, hx]; omega
        · intro k hk
          have q2 : ¬ k = (M.1 6 6).toNatClampNeg := by
            have : (M.1 6 6).toNatClampNeg = (M.1 6 6).toInt.toNat := rfl
            omega
          simp [oUp_at, q2]
    · rw [if_pos ha, if_neg hc]
      refine oAg.mk M rfl ?_ h
      rw [m_way N a b c (by rw [e1]; exact b0) (by rw [e2]; exact b2) (by rw [e2]; exact b3), if_pos (by rw [e1]; exact ha), if_neg (by rw [e2]; exact hc)]
  · rw [if_neg ha]
    refine oAg.mk M rfl ?_ h
    rw [m_way N a b c (by rw [e1]; exact b0) (by rw [e2]; exact b2) (by rw [e2]; exact b3), if_neg (by rw [e1]; exact ha)]
