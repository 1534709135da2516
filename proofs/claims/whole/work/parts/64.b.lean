/-! loads, things, counts: calls without rounds -/
theorem sub1 {x : Int32} (h : 0 ≤ x.toInt) : (x - 1).toInt = x.toInt - 1 := by
  have := oRng x
  rw [oSub (by rw [tl_1]; omega) (by rw [tl_1]; omega), tl_1]
theorem add1 {x : Int32} (h : x.toInt < 2147483647) : (x + 1).toInt = x.toInt + 1 := by
  have := oRng x
  rw [oAdd (by rw [tl_1]; omega) (by rw [tl_1]; omega), tl_1]
theorem dec_ile (a p : Int) : decide (0 ≤ a ∧ a ≤ p - 1) = decide (0 ≤ a ∧ a < p) := by
  congr 1
  exact propext ⟨fun h => by omega, fun h => by omega⟩
theorem cond_tf (b : Bool) (M : oM) : cond b (some (true, M)) (some (false, M)) = some (b, M) := by cases b <;> rfl
theorem isPt12 (N : Nat) (K : oK) (a : Int32) (M : oM) (h : 0 ≤ (M.1 59 6).toInt) : f_X12_isPoint N K a M = some (decide (0 ≤ a.toInt ∧ a.toInt < (M.1 59 6).toInt), M) := by
  unfold f_X12_isPoint
  rw [w12, oB2_p, oLg, oLg, sub1 h, show (0 : Int64).toInt = 0 from rfl, dec_ile, cond_tf]
theorem isWy12 (N : Nat) (K : oK) (a : Int32) (M : oM) (h : 0 ≤ (M.1 59 7).toInt) : f_X12_isWay N K a M = some (decide (0 ≤ a.toInt ∧ a.toInt < (M.1 59 7).toInt), M) := by
  unfold f_X12_isWay
  rw [w12, oB2_p, oLg, oLg, sub1 h, show (0 : Int64).toInt = 0 from rfl, dec_ile, cond_tf]
theorem isEn12 (N : Nat) (K : oK) (a : Int32) (M : oM) (h : 0 ≤ (M.1 59 11).toInt) : f_X12_isEngine N K a M = some (decide (0 ≤ a.toInt ∧ a.toInt < (M.1 59 11).toInt), M) := by
  unfold f_X12_isEngine
  rw [w12, oB2_p, oLg, oLg, sub1 h, show (0 : Int64).toInt = 0 from rfl, dec_ile, cond_tf]
theorem isLy12 (N : Nat) (K : oK) (a : Int32) (M : oM) (h : 0 ≤ (M.1 59 20).toInt) : f_X12_isLaying N K a M = some (decide (0 ≤ a.toInt ∧ a.toInt < (M.1 59 20).toInt), M) := by
  unfold f_X12_isLaying
  rw [w12, oB2_p, oLg, oLg, sub1 h, show (0 : Int64).toInt = 0 from rfl, dec_ile, cond_tf]
theorem lt_lit {x : Int32} {n : Int32} {k : Int} (hn : n.toInt = k) : (x < n) = (x.toInt < k) := by rw [oLtI, hn]
theorem eq_lit {x : Int32} {n : Int32} {k : Int} (hn : n.toInt = k) : (x = n) = (x.toInt = k) := by rw [oEqI, hn]
/-- an array's place behind a store at a counter's place -/
theorem nat_lt_of {k : Nat} {x : Int} (hx : 0 ≤ x) (h : (k : Int) < x + 1) : k = x.toNat ∨ (k : Int) < x := by omega
theorem l64_1 : (1 : Int64).toInt = 1 := rfl
theorem l64_0 : (0 : Int64).toInt = 0 := rfl
theorem oAg.mk {K : oK} {M : oM} {o1 : Option (Int32 × oM)} {o2 : oM → Option (Int32 × oM)} {r : Int32} {M1 : oM} (M2 : oM) (h1 : o1 = some (r, M1)) (h2 : o2 M1 = some (r, M2)) (h3 : oInv K M2) : oAg K M o1 o2 := ⟨r, M1, M2, h1, h2, h3⟩
theorem c_load {K : oK} {M : oM} (N : Nat) (a : Int32) (b0 : 0 ≤ (M.1 37 2).toInt) : f_X11_load N K a M = if 1 ≤ a.toInt ∧ a.toInt ≤ 99 then (if (M.1 37 2).toInt < 8 then some (M.1 37 2 + 1, oUp (oUp M 38 (M.1 37 2).toNatClampNeg a) 37 2 (M.1 37 2 + 1)) else some (-3, M)) else some (-1, M) := by
  unfold f_X11_load f_X5_add
  simp only [w11, oB2_p, tl_1, tl_99, lt_lit tl_8]
  by_cases ha : 1 ≤ a.toInt ∧ a.toInt ≤ 99
  · by_cases hc : (M.1 37 2).toInt < 8
    · simp [ha, hc, oIx_p (n := 8) b0 (by omega), oUp_at, oB2_p]
    · simp [ha, hc, oB2_p]
  · simp [ha]
theorem m_load {K : oK} {M : oM} (N : Nat) (a : Int32) (b0 : 0 ≤ (M.1 59 49).toInt) (b1 : (M.1 59 49).toInt ≤ 8) : f_X12_load N K a M = if 1 ≤ a.toInt ∧ a.toInt ≤ 99 then (if (M.1 59 49).toInt < 8 then some (M.1 59 49 + 1, oUp (oUp M 91 (M.1 59 49).toNatClampNeg a) 59 49 (M.1 59 49 + 1)) else some (-3, M)) else some (-1, M) := by
  unfold f_X12_load
  simp only [w12, oB2_p, oLg, l64_1, show (99 : Int64).toInt = 99 from rfl, eq_lit tl_8]
  by_cases ha : 1 ≤ a.toInt ∧ a.toInt ≤ 99
  · by_cases hc : (M.1 59 49).toInt < 8
    · simp [ha, hc, show ¬ (M.1 59 49).toInt = 8 by omega, oIx_p (n := 8) b0 (by omega), oUp_at]
    · simp [ha, hc, show (M.1 59 49).toInt = 8 by omega]
  · simp [ha]
theorem nat_lt2 {k : Nat} {x : Int32} (hx : 0 ≤ x.toInt) (h : (k : Int) < x.toInt + 1) : k = x.toNatClampNeg ∨ ((k : Int) < x.toInt ∧ ¬ k = x.toNatClampNeg) := by
  have : x.toNatClampNeg = x.toInt.toNat := rfl
  omega
theorem ag_load {K : oK} {M : oM} (h : oInv K M) (N : Nat) (a : Int32) : oAg K M (f_X11_load N K a M) (f_X12_load N K a) := by
  obtain ⟨⟨e1, b0, b1⟩, hv, hz⟩ := h.2.2.2.2.2.1
  rw [c_load N a b0]
  by_cases ha : 1 ≤ a.toInt ∧ a.toInt ≤ 99
  · by_cases hc : (M.1 37 2).toInt < 8
    · have hx := add1 (x := M.1 37 2) (by omega)
      rw [if_pos ha, if_pos hc]
      refine oAg.mk (oUp (oUp (oUp (oUp M 38 (M.1 37 2).toNatClampNeg a) 37 2 (M.1 37 2 + 1)) 91 (M.1 37 2).toNatClampNeg a) 59 49 (M.1 37 2 + 1)) rfl ?_ ?_
      · rw [m_load N a (by simp [oUp_at, e1, b0]) (by simp [oUp_at, e1, b1]), if_pos ha, if_pos (by simp [oUp_at, e1, hc])]
        simp [oUp_at, e1]
      · refine h.load ?_ ⟨⟨?_, ?_, ?_⟩, ?_, ?_⟩
        · exact .up59 (by decide) (.up (by decide) (.up (by decide) (.up (by decide) .rf)))
        · simp [oUp_at]
        · simp [oUp_at, hx]; omega
        · simp [oUp_at, hx]; omega
        · intro i hi
          simp [oUp_at, hx] at hi
          rcases nat_lt2 b0 hi with q | ⟨q, q2⟩
          · simp [oUp_at, q, ha]
          · simp [oUp_at, q2, hv i q]
        · intro i hi
          simp [oUp_at, hz i hi]
    · rw [if_pos ha, if_neg hc]
      refine oAg.mk M rfl ?_ h
      rw [m_load N a (by rw [e1]; exact b0) (by rw [e1]; exact b1), if_pos ha, if_neg (by rw [e1]; exact hc)]
  · rw [if_neg ha]
    refine oAg.mk M rfl ?_ h
    rw [m_load N a (by rw [e1]; exact b0) (by rw [e1]; exact b1), if_neg ha]
