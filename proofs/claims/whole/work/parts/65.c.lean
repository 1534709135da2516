/-! what grows keeps the layings; points, ways, engines, things, counts, the trace -/
theorem iLay1.grow {M M' : oM} {l : Nat} (h : iLay1 M l) (h0 : M'.1 (oLy l) = M.1 (oLy l)) (h1 : M'.1 (oLy l + 1) = M.1 (oLy l + 1)) (h2 : M'.1 (oLy l + 2) = M.1 (oLy l + 2)) (h3 : M'.1 (oLy l + 3) = M.1 (oLy l + 3)) (h4 : M'.1 (oLy l + 4) = M.1 (oLy l + 4))
    (g6 : (M.1 6 5).toInt ≤ (M'.1 6 5).toInt ∧ (M.1 6 6).toInt ≤ (M'.1 6 6).toInt) (g11 : (M.1 11 6).toInt ≤ (M'.1 11 6).toInt) (g7 : ∀ k : Nat, (k : Int) < (M.1 6 6).toInt → M'.1 7 k = M.1 7 k ∧ M'.1 8 k = M.1 8 k) (g73 : M'.1 73 = M.1 73) (g74 : M'.1 74 = M.1 74) (g75 : M'.1 75 = M.1 75) (g76 : M'.1 76 = M.1 76)
    (g77 : M'.1 77 = M.1 77) (g78 : M'.1 78 = M.1 78) (g79 : M'.1 79 = M.1 79) : iLay1 M' l := by
  unfold iLay1 at h ⊢
  rw [h0, h1, h2, h3, h4, g73, g74, g75, g76, g77, g78, g79]
  obtain ⟨a1, ⟨a2, a3, a4⟩, a5, a6, a7⟩ := h
  refine ⟨a1, ⟨a2, a3, by omega⟩, a5, a6, fun k hk => ?_⟩
  obtain ⟨b1, ⟨b2, b3⟩, b4⟩ := a7 k hk
  refine ⟨b1, ⟨b2, by omega⟩, ?_⟩
  rcases b4 with ⟨c1, ⟨c2, c3⟩, c4⟩ | ⟨c1, ⟨c2, c3⟩, c4, c5⟩ | c
  · exact Or.inl ⟨c1, ⟨c2, by omega⟩, c4⟩
  · have e := g7 (M.1 (oLy l + 2) k).toInt.toNat (by omega)
    rw [e.1, e.2]
    exact Or.inr (Or.inl ⟨c1, ⟨c2, by omega⟩, c4, c5⟩)
  · exact Or.inr (Or.inr c)
theorem iLay.grow {R F : List Nat} {K : oK} {M M' : oM} (h : iLay K M) (f : oFr R F M M') (hR : ∀ a ∈ [0, 73, 74, 75, 76, 77, 78, 79], a ∉ R) (hR2 : ∀ a ∈ R, a < 101) (hF : ∀ j ∈ [20], j ∉ F)
    (g6 : (M.1 6 5).toInt ≤ (M'.1 6 5).toInt ∧ (M.1 6 6).toInt ≤ (M'.1 6 6).toInt) (g11 : (M.1 11 6).toInt ≤ (M'.1 11 6).toInt) (g7 : ∀ k : Nat, (k : Int) < (M.1 6 6).toInt → M'.1 7 k = M.1 7 k ∧ M'.1 8 k = M.1 8 k) : iLay K M' := by
  have hb : ∀ a, 101 ≤ a → M'.1 a = M.1 a := fun a ha => f.1 a (by omega) (fun q => by have := hR2 a q; omega)
  unfold iLay at h ⊢
  rw [f.1 0 (by decide) (hR 0 (by decide)), f.2.1 20 (hF 20 (by decide)), f.1 76 (by decide) (hR 76 (by decide))]
  refine ⟨h.1, h.2.1, fun l hl => ⟨(h.2.2.1 l hl).1, ?_⟩, h.2.2.2⟩
  exact (h.2.2.1 l hl).2.grow (hb _ (by unfold oLy; omega)) (hb _ (by unfold oLy; omega)) (hb _ (by unfold oLy; omega)) (hb _ (by unfold oLy; omega)) (hb _ (by unfold oLy; omega)) g6 g11 g7 (f.1 73 (by decide) (hR 73 (by decide))) (f.1 74 (by decide) (hR 74 (by decide))) (f.1 75 (by decide) (hR 75 (by decide))) (f.1 76 (by decide) (hR 76 (by decide))) (f.1 77 (by decide) (hR 77 (by decide))) (f.1 78 (by decide) (hR 78 (by decide))) (f.1 79 (by decide) (hR 79 (by decide)))
theorem oInv.gnd {K : oK} {M M' : oM} (h : oInv K M) (f : oFr [2, 6, 7, 8, 9, 60, 64, 65, 66] [6, 7] M M') (hg : iGnd M') (hst : iSet M') (g6 : (M.1 6 5).toInt ≤ (M'.1 6 5).toInt ∧ (M.1 6 6).toInt ≤ (M'.1 6 6).toInt) (g7 : ∀ k : Nat, (k : Int) < (M.1 6 6).toInt → M'.1 7 k = M.1 7 k ∧ M'.1 8 k = M.1 8 k) : oInv K M' := by
  obtain ⟨hs, -, -, hge, ht, hlo, hth, hac, hl, hsh⟩ := h
  exact ⟨hs, hg, hst, hge.fr f (by decide) (by decide), ht.fr f (by decide) (by decide), hlo.fr f (by decide) (by decide), hth.fr f (by decide) (by rw [f.1 40 (by decide) (by decide)]) (by decide), hac.fr f (by decide) (by decide), hl.grow f (by decide) (by decide) (by decide) g6 (by rw [f.1 11 (by decide) (by decide)]; omega) g7, hsh.fr f (by decide)⟩
theorem oInv.gear {K : oK} {M M' : oM} (h : oInv K M) (f : oFr [11, 12, 13, 14, 15, 16, 67, 68, 70, 71, 80] [11] M M') (hge : iGear M') (g11 : (M.1 11 6).toInt ≤ (M'.1 11 6).toInt) : oInv K M' := by
  obtain ⟨hs, hg, hst, -, ht, hlo, hth, hac, hl, hsh⟩ := h
  exact ⟨hs, hg.fr f (by decide) (by decide), hst.fr f (by decide) (by decide), hge, ht.fr f (by decide) (by decide), hlo.fr f (by decide) (by decide), hth.fr f (by decide) (by rw [f.1 40 (by decide) (by decide)]) (by decide), hac.fr f (by decide) (by decide), hl.grow f (by decide) (by decide) (by decide) (by rw [f.1 6 (by decide) (by decide)]; omega) g11 (fun k _ => by rw [f.1 7 (by decide) (by decide), f.1 8 (by decide) (by decide)]; exact ⟨rfl, rfl⟩), hsh.fr f (by decide)⟩
theorem ag_unload {K : oK} {M : oM} (h : oInv K M) (N : Nat) : oAg K M (f_X11_unload N K M) (f_X12_unload N K) := by
  obtain ⟨⟨e1, b0, b1⟩, hv, hz⟩ := h.2.2.2.2.2.1
  unfold f_X11_unload f_X12_unload
  refine oAg.mk (oUp (oUp M 37 2 0) 59 49 0) rfl (by simp [oUp_at, e1]) (h.load (.up59 (by decide) (.up (by decide) .rf)) ⟨⟨?_, ?_, ?_⟩, ?_, ?_⟩)
  · simp [oUp_at]
  · simp [oUp_at]
  · simp [oUp_at]
  · intro i hi
    simp [oUp_at] at hi
    omega
  · intro i hi
    simp [oUp_at, hz i hi]
theorem ag_unthing {K : oK} {M : oM} (h : oInv K M) (N : Nat) : oAg K M (f_X11_unthing N K M) (f_X12_unthing N K) := by
  obtain ⟨⟨e1, b0, b1⟩, hv⟩ := h.2.2.2.2.2.2.1
  unfold f_X11_unthing f_X12_unthing
  refine oAg.mk (oUp (oUp M 40 3 0) 59 55 0) rfl (by simp [oUp_at, e1]) (h.thing (.up59 (by decide) (.up (by decide) .rf)) ⟨⟨?_, ?_, ?_⟩, ?_⟩)
  · simp [oUp_at]
  · simp [oUp_at]
  · simp [oUp_at]
  · intro i hi
    simp [oUp_at] at hi
    omega
theorem c_thing {K : oK} {M : oM} (N : Nat) (a b : Int32) (b0 : 0 ≤ (M.1 40 3).toInt) : f_X11_thing N K a b M = if (1 ≤ a.toInt ∧ a.toInt ≤ 99) ∧ 0 ≤ b.toInt ∧ b.toInt ≤ 999999 then (if (M.1 40 3).toInt < 9 then some (M.1 40 3 + 1, oUp (oUp (oUp M 41 (M.1 40 3).toNatClampNeg a) 42 (M.1 40 3).toNatClampNeg b) 40 3 (M.1 40 3 + 1)) else some (-3, M)) else some (-1, M) := by
  unfold f_X11_thing f_X1_add
  simp only [w11, oB2_p, tl_0, tl_1, tl_99, tl_999999, lt_lit tl_9]
  by_cases ha : 1 ≤ a.toInt ∧ a.toInt ≤ 99
  · by_cases hb : 0 ≤ b.toInt ∧ b.toInt ≤ 999999
    · by_cases hc : (M.1 40 3).toInt < 9
      · simp [ha, hb, hc, oIx_p (n := 9) b0 (by omega), oUp_at, oB2_p]
      · simp [ha, hb, hc, oB2_p]
    · simp [ha, hb]
  · simp [ha]
theorem m_thing {K : oK} {M : oM} (N : Nat) (a b : Int32) (b0 : 0 ≤ (M.1 59 55).toInt) (b1 : (M.1 59 55).toInt ≤ 9) : f_X12_thing N K a b M = if (1 ≤ a.toInt ∧ a.toInt ≤ 99) ∧ 0 ≤ b.toInt ∧ b.toInt ≤ 999999 then (if (M.1 59 55).toInt < 9 then some (M.1 59 55 + 1, oUp (oUp (oUp M 94 (M.1 59 55).toNatClampNeg a) 95 (M.1 59 55).toNatClampNeg b) 59 55 (M.1 59 55 + 1)) else some (-3, M)) else some (-1, M) := by
  unfold f_X12_thing
  simp only [w12, oB2_p, oLg, l64_1, l64_0, show (99 : Int64).toInt = 99 from rfl, show (999999 : Int64).toInt = 999999 from rfl, eq_lit tl_9]
  by_cases ha : 1 ≤ a.toInt ∧ a.toInt ≤ 99
  · by_cases hb : 0 ≤ b.toInt ∧ b.toInt ≤ 999999
    · by_cases hc : (M.1 59 55).toInt < 9
      · simp [ha, hb, hc, show ¬ (M.1 59 55).toInt = 9 by omega, oIx_p (n := 9) b0 (by omega), oUp_at]
      · simp [ha, hb, show (M.1 59 55).toInt = 9 by omega]
    · simp [ha, hb]
  · simp [ha]
theorem ag_thing {K : oK} {M : oM} (h : oInv K M) (N : Nat) (a b : Int32) : oAg K M (f_X11_thing N K a b M) (f_X12_thing N K a b) := by
  obtain ⟨⟨e1, b0, b1⟩, hv⟩ := h.2.2.2.2.2.2.1
  rw [c_thing N a b b0]
  by_cases ha : (1 ≤ a.toInt ∧ a.toInt ≤ 99) ∧ 0 ≤ b.toInt ∧ b.toInt ≤ 999999
  · by_cases hc : (M.1 40 3).toInt < 9
    · have hx := add1 (x := M.1 40 3) (by omega)
      rw [if_pos ha, if_pos hc]
      refine oAg.mk (oUp (oUp (oUp (oUp (oUp (oUp M 41 (M.1 40 3).toNatClampNeg a) 42 (M.1 40 3).toNatClampNeg b) 40 3 (M.1 40 3 + 1)) 94 (M.1 40 3).toNatClampNeg a) 95 (M.1 40 3).toNatClampNeg b) 59 55 (M.1 40 3 + 1)) rfl ?_ ?_
      · rw [m_thing N a b (by simp [oUp_at, e1, b0]) (by simp [oUp_at, e1, b1]), if_pos ha, if_pos (by simp [oUp_at, e1, hc])]
        simp [oUp_at, e1]
      · refine h.thing ?_ ⟨⟨?_, ?_, ?_⟩, ?_⟩
        · exact .up59 (by decide) (.up (by decide) (.up (by decide) (.up (by decide) (.up (by decide) (.up (by decide) .rf)))))
        · simp [oUp_at]
        · simp [oUp_at, hx]; omega
        · simp [oUp_at, hx]; omega
        · intro i hi
          simp [oUp_at, hx] at hi
          rcases nat_lt2 b0 hi with q | ⟨q, q2⟩
          · simp [oUp_at, q, ha]
          · simp [oUp_at, q2, hv i q]
    · rw [if_pos ha, if_neg hc]
      refine oAg.mk M rfl ?_ h
      rw [m_thing N a b (by rw [e1]; exact b0) (by rw [e1]; exact b1), if_pos ha, if_neg (by rw [e1]; exact hc)]
  · rw [if_neg ha]
    refine oAg.mk M rfl ?_ h
    rw [m_thing N a b (by rw [e1]; exact b0) (by rw [e1]; exact b1), if_neg ha]
theorem ag_count {K : oK} {M : oM} (h : oInv K M) (N : Nat) (a : Int32) : oAg K M (f_X11_count N K a M) (f_X12_count N K a) := by
  obtain ⟨-, ⟨⟨e1, -⟩, ⟨e2, -⟩, -⟩, ⟨-, -, -, ⟨e8, -⟩, -⟩, ⟨⟨e3, -⟩, -⟩, ⟨⟨e5, -⟩, -⟩, ⟨⟨e6, -⟩, -⟩, ⟨⟨e7, -⟩, -⟩, ⟨⟨e9, -⟩, -⟩, ⟨⟨e4, -⟩, -⟩, -⟩ := id h
  have e : f_X11_count N K a M = f_X12_count N K a M := by
    unfold f_X11_count f_X12_count
    rw [e1, e2, e3, e4, e5, e6, e7, e8, e9]
  have hr : ∃ r, f_X12_count N K a M = some (r, M) := by
    unfold f_X12_count
    repeat (first | exact ⟨_, rfl⟩ | split)
  obtain ⟨r, hr⟩ := hr
  exact oAg.mk M (e.trans hr) hr h
theorem ag_trace {K : oK} {M : oM} (h : oInv K M) (N : Nat) (a : Int32) : oAg K M (f_X11_trace N K a M) (f_X12_trace N K a) := by
  obtain ⟨⟨e1, b0, b1⟩, hv⟩ := h.2.2.2.2.2.2.2.1
  unfold f_X11_trace f_X12_trace f_X0_bodyAt
  by_cases c1 : a < 0
  · simp only [if_pos c1, oB2_p]
    exact oAg.mk M rfl rfl h
  · by_cases c2 : M.1 44 1 ≤ a
    · simp only [if_neg c1, if_pos c2, oB2_p]
      refine oAg.mk M rfl ?_ h
      rw [e1, if_pos c2]
    · by_cases c3 : 24 ≤ a
      · simp only [if_neg c1, if_neg c2, if_pos c3, oB2_p]
        refine oAg.mk M rfl ?_ h
        rw [e1, if_neg c2]
      · have c1' := c1; have c2' := c2; have c3' := c3
        rw [oLtI, tl_0] at c1'
        rw [oLeI] at c2'
        rw [oLeI, tl_24] at c3'
        have hn : a.toNatClampNeg = a.toInt.toNat := rfl
        simp only [if_neg c1, if_neg c2, if_neg c3, oB2_p, oIx_p (n := 24) (i := a) (by omega) (by omega)]
        refine oAg.mk M rfl ?_ h
        rw [e1, if_neg c2, hv _ (by omega) (by omega)]
