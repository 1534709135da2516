/-! worth, helps, goes, changed -/
theorem isP6 {N : Nat} {K : oK} {M : oM} {l : Nat} (b : Int32) : f_X6_isPart N K (oLy l) b M = some (decide (0 ≤ b.toInt ∧ b.toInt < (M.1 (oLy l) 7).toInt), M) := by
  unfold f_X6_isPart
  by_cases q1 : b.toInt < 0
  · rw [if_pos (by rw [oLtI, tl_0]; exact q1), decide_eq_false (by omega)]
  · rw [if_neg (by rw [oLtI, tl_0]; exact q1)]
    by_cases q2 : (M.1 (oLy l) 7).toInt ≤ b.toInt
    · rw [if_pos (by rw [oLeI]; exact q2), decide_eq_false (by omega)]
    · rw [if_neg (by rw [oLeI]; exact q2), decide_eq_true (by omega)]
theorem isS6 {N : Nat} {K : oK} {M : oM} {l : Nat} (h1 : (M.1 (oLy l) 7).toInt ≤ 24) (b s : Int32) : f_X6_isSort N K (oLy l) b s M = some (decide ((0 ≤ b.toInt ∧ b.toInt < (M.1 (oLy l) 7).toInt) ∧ M.1 (oLy l + 1) b.toInt.toNat = s), M) := by
  unfold f_X6_isSort
  rw [isP6, oB2_p]
  by_cases q : 0 ≤ b.toInt ∧ b.toInt < (M.1 (oLy l) 7).toInt
  · rw [decide_eq_true q, cond_true, oIx_p q.1 (by omega), oTnn]
    by_cases q2 : M.1 (oLy l + 1) b.toInt.toNat = s
    · rw [if_pos q2, decide_eq_true ⟨q, q2⟩]
    · rw [if_neg q2, decide_eq_false (fun z => q2 z.2)]
  · rw [decide_eq_false q, cond_false, decide_eq_false (fun z => q z.1)]
theorem isP12 {K : oK} {M : oM} (h : oInv K M) (N : Nat) (a b s : Int32) : f_X12_isPart N K a b s M = some (decide ((0 ≤ a.toInt ∧ a.toInt < (M.1 0 11).toInt) ∧ (0 ≤ b.toInt ∧ b.toInt < (M.1 (oLy a.toInt.toNat) 7).toInt) ∧ M.1 (oLy a.toInt.toNat + 1) b.toInt.toNat = s), M) := by
  have hl := h.2.2.2.2.2.2.2.2.1
  have c1 := hl.1.2.2
  unfold f_X12_isPart
  rw [l12 h, oB2_p]
  by_cases c : 0 ≤ a.toInt ∧ a.toInt < (M.1 0 11).toInt
  · have hy := (ly_nn hl c.1 c.2).2
    rw [oTnn] at hy
    obtain ⟨-, -, ⟨y4, y5, y6⟩, -, hp⟩ := hy
    have es : (M.1 (oLy a.toInt.toNat) 7 - 1).toInt = (M.1 (oLy a.toInt.toNat) 7).toInt - 1 := sub1 y5
    rw [decide_eq_true c, cond_true, oIx_p c.1 (by omega), oTnn, y4, w12, oB2_p, oLg, oLg, es, show (0 : Int64).toInt = 0 from rfl]
    by_cases q : 0 ≤ b.toInt ∧ b.toInt < (M.1 (oLy a.toInt.toNat) 7).toInt
    · have e24 : (24 * a).toInt = 24 * a.toInt := by rw [oMul (by rw [tl_24]; omega) (by rw [tl_24]; omega), tl_24]
      have eb : (24 * a + b).toInt = 24 * a.toInt + b.toInt := by rw [oAdd (by omega) (by omega), e24]
      have nb : (24 * a + b).toNatClampNeg = 24 * a.toInt.toNat + b.toInt.toNat := by rw [oTnn, eb]; omega
      rw [decide_eq_true (by omega), cond_true, oIx_p (by omega) (by omega), nb, (hp b.toInt.toNat (by omega)).1.1]
      by_cases q2 : M.1 (oLy a.toInt.toNat + 1) b.toInt.toNat = s
      · rw [if_pos q2, decide_eq_true ⟨c, q, q2⟩]
      · rw [if_neg q2, decide_eq_false (fun z => q2 z.2.2)]
    · rw [decide_eq_false (by omega), cond_false, decide_eq_false (fun z => q z.2.1)]
  · rw [decide_eq_false c, cond_false, decide_eq_false (fun z => c z.1)]
theorem max0 {g : Int} (h : -2 ≤ g ∧ g ≤ 600) : (if (0 : Int32) < iI g then iI g else (0 : Int32)) = iI (if 0 < g then g else 0) := by
  by_cases c : 0 < g
  · rw [if_pos (by rw [oLtI, tl_0, iI_t (by omega) (by omega)]; exact c), if_pos c]
  · rw [if_neg (by rw [oLtI, tl_0, iI_t (by omega) (by omega)]; exact c), if_neg c]
    rfl
theorem orN {N : Nat} {K : oK} {M : oM} {g : Int} (h : -2 ≤ g ∧ g ≤ 600) : f_X12_orNone N K (iI g) M = some (iI (if 0 < g then g else 0), M) := by
  unfold f_X12_orNone
  by_cases c : 0 ≤ g
  · rw [if_pos (by rw [oLeI, tl_0, iI_t (by omega) (by omega)]; exact c)]
    by_cases c2 : 0 < g
    · rw [if_pos c2]
    · rw [if_neg c2, show g = 0 by omega]
  · rw [if_neg (by rw [oLeI, tl_0, iI_t (by omega) (by omega)]; exact c), if_neg (by omega)]
    rfl
theorem ag_worth {K : oK} {M : oM} (h : oInv K M) {N : Nat} (hN : 1000 ≤ N) (a p b : Int32) : oAg K M (f_X11_worth N K a p b M) (f_X12_worth N K a p b) := by
  have hl := h.2.2.2.2.2.2.2.2.1
  have c1 := hl.1.2.2
  unfold f_X11_worth f_X11_worth_29
  rw [lyAt hl, oB2_p]
  by_cases c : 0 ≤ a.toInt ∧ a.toInt < (M.1 0 11).toInt
  · have na : a.toNatClampNeg = a.toInt.toNat := rfl
    have hy := (ly_nn hl c.1 c.2).2
    have hip := isP12 h N a p 0
    rw [← oTnn] at hip
    generalize hq : a.toNatClampNeg = l at *
    have la : a = nI l := oNI (by omega)
    have h24 := hy.2.2.1.2.2
    rw [if_pos c, oCs_s, isS6 h24, oB2_p]
    by_cases cp : (0 ≤ p.toInt ∧ p.toInt < (M.1 (oLy l) 7).toInt) ∧ M.1 (oLy l + 1) p.toInt.toNat = 0
    · have lp : p = nI p.toInt.toNat := oNI (by omega)
      rw [decide_eq_true cp, cond_true, isNe11, oB2_p]
      rw [decide_eq_true ⟨c, cp⟩] at hip
      by_cases cn : 0 ≤ b.toInt ∧ b.toInt ≤ 99999
      · rw [decide_eq_true cn, cond_true]
        obtain ⟨g, M1, a1, F1, a3, -⟩ := cfl h .rf (N := N) (by omega) hy (show 0 ≤ 3 by omega) (by omega) (show 0 < 100 by omega) b
        obtain ⟨g', M2, b1, F2, b3, -⟩ := cfl h F1 (N := N) (by omega) hy (show 1 ≤ 3 by omega) (x := p.toInt.toNat) (by omega) (by omega) b
        rw [show (nI 0 : Int32) = 0 from rfl] at a1
        rw [show (nI 1 : Int32) = 1 from rfl, ← lp] at b1
        rw [a1, oB2_p, b1, oB2_p, max0 (isGr_r a3), max0 (isGr_r b3)]
        have hok0 := ok0 h hy (md := 0) (x := 0) (by omega) (by omega)
        have hok1 := ok0 h hy (md := 1) (x := p.toInt.toNat) (by omega) (by omega)
        rw [cnt0] at a3 hok0
        have h2 := h.scr F2
        obtain ⟨M3, d1, d2, d3⟩ := thk h F2 (N := N) (by omega) (show l < 20 by omega) hy
        obtain ⟨g3, M4, e1, e2, e3⟩ := flw h d2 hN (by omega) d3 hok0 b
        obtain ⟨M5, i1, i2, i3⟩ := thb h e2 (N := N) (by omega) (show l < 20 by omega) hy (md := 1) (x := p.toInt.toNat) (Or.inl rfl) (by omega) (fun _ => cp.2)
        obtain ⟨g4, M6, j1, j2, j3⟩ := flw h i2 hN (cnt_b hy) i3 hok1 b
        rw [if_pos rfl, ← lp] at i1
        have hip2 := isP12 h2 N a p 0
        obtain ⟨w0, w1, -⟩ := fr_lay (l := l) F2 (by decide)
        rw [← oTnn, hq, w0, w1, F2.1 0 (by decide) (by decide), decide_eq_true ⟨c, cp⟩] at hip2
        refine oAg.mk M6 rfl ?_ (h.scr j2)
        unfold f_X12_worth
        rw [hip2, oB2_p, cond_true, isNe12, oB2_p, decide_eq_true cn, cond_true, la, d1, oB2_p, e1, oB2_p, orN (isGr_r e3), oB2_p, i1, oB2_p, j1, oB2_p, orN (isGr_r j3), oB2_p, isGr_u a3 e3, isGr_u b3 j3]
      · rw [decide_eq_false cn, cond_false]
        refine oAg.mk M rfl ?_ h
        unfold f_X12_worth f_X12_worth_17
        rw [hip, oB2_p, cond_true, isNe12, oB2_p, decide_eq_false cn, cond_false]
    · rw [decide_eq_false cp, cond_false]
      rw [decide_eq_false (fun z => cp z.2)] at hip
      refine oAg.mk M rfl ?_ h
      unfold f_X12_worth f_X12_worth_17
      rw [hip, oB2_p, cond_false]
  · rw [if_neg c, oCs_n]
    refine oAg.mk M rfl ?_ h
    unfold f_X12_worth f_X12_worth_17
    rw [isP12 h, oB2_p, decide_eq_false (fun z => c z.1), cond_false]
theorem coV0 (M : oM) (l x i : Nat) : coV M l 0 x i = paV M l (lnV M l (-1) i) i := by
  have e : srcI 0 x i = i := by unfold srcI; rw [if_neg (by omega), if_neg (by omega)]
  unfold coV lnC
  rw [e, if_neg (by omega), if_neg (by omega), if_neg (by omega)]
theorem coV3 (M : oM) (l x i : Nat) : coV M l 3 x i = paV M l (if i = x then 1 else lnV M l (-1) i) i := by
  have e : srcI 3 x i = i := by unfold srcI; rw [if_neg (by omega), if_neg (by omega)]
  unfold coV lnC
  rw [e, if_neg (by omega), if_neg (show ¬ (3 : Nat) = 1 by omega)]
  by_cases q : i = x
  · rw [if_pos ⟨rfl, q⟩, if_pos q]
  · rw [if_neg (fun z => q z.2), if_neg q]
theorem isM.eq {M M' : oM} {i : Nat} {s : oStp} (h : isM M i s) (e : M'.1 81 i = M.1 81 i ∧ M'.1 82 i = M.1 82 i ∧ M'.1 83 i = M.1 83 i ∧ M'.1 84 i = M.1 84 i ∧ M'.1 85 i = M.1 85 i ∧ M'.1 66 = M.1 66) : isM M' i s := by
  unfold isM
  rw [e.1, e.2.1, e.2.2.1, e.2.2.2.1, e.2.2.2.2.1, e.2.2.2.2.2]
  exact h
theorem ag_goes {K : oK} {M : oM} (h : oInv K M) {N : Nat} (hN : 1000 ≤ N) (a p b : Int32) : oAg K M (f_X11_goes N K a p b M) (f_X12_goes N K a p b) := by
  have hl := h.2.2.2.2.2.2.2.2.1
  have c1 := hl.1.2.2
  unfold f_X11_goes
  rw [lyAt hl, oB2_p]
  by_cases c : 0 ≤ a.toInt ∧ a.toInt < (M.1 0 11).toInt
  · have na : a.toNatClampNeg = a.toInt.toNat := rfl
    have hy := (ly_nn hl c.1 c.2).2
    have hip := isP12 h N a p 1
    rw [← oTnn] at hip
    generalize hq : a.toNatClampNeg = l at *
    have la : a = nI l := oNI (by omega)
    have h24 := hy.2.2.1.2.2
    have h00 := hy.2.2.1.2.1
    rw [if_pos c, oCs_s, isS6 h24, oB2_p]
    by_cases cp : (0 ≤ p.toInt ∧ p.toInt < (M.1 (oLy l) 7).toInt) ∧ M.1 (oLy l + 1) p.toInt.toNat = 1
    · have lp : p = nI p.toInt.toNat := oNI (by omega)
      rw [decide_eq_true cp, cond_true, isNe11, oB2_p]
      rw [decide_eq_true ⟨c, cp⟩] at hip
      by_cases cn : 0 ≤ b.toInt ∧ b.toInt ≤ 99999
      · have hln := lin6 (N := N) (by omega) (K := K) (M := M) (l := l) (k := p.toInt.toNat) (by omega) (-1) h00 h24
        rw [← lp, tl_m1] at hln
        rw [decide_eq_true cn, cond_true, hln, oB2_p]
        have hok0 := ok0 h hy (md := 0) (x := 0) (by omega) (by omega)
        rw [cnt0] at hok0
        have hx : ∀ A : Option (Int32 × oM), oIx p 25 A = A := fun A => oIx_p cp.1.1 (by omega)
        -- the thought's line
        have hc0 := coV0 M l 0 p.toInt.toNat
        have h84 : ∀ M2 : oM, oMr M2 (coV M l 0 0) (M.1 (oLy l) 7).toInt.toNat → (M2.1 84 p.toInt.toNat).toInt = lnV M l (-1) p.toInt.toNat := by
          intro M2 hM
          have := hM.2 p.toInt.toNat (by omega)
          rw [hc0] at this
          unfold paV at this
          rw [if_neg (by rw [cp.2]; decide), if_pos cp.2] at this
          rcases this with ⟨k, -⟩ | ⟨-, -, -, -, k, -⟩ | ⟨k, -⟩
          · exact absurd (show (1 : Nat) = 0 from k) (by decide)
          · exact k
          · exact absurd (show (1 : Nat) = 2 from k) (by decide)
        rcases lnV_b M l (-1) p.toInt.toNat with hv | hv
        · rw [hv, if_neg (by decide)]
          obtain ⟨M2, b1, b2, b3⟩ := thk h .rf (N := N) (by omega) (show l < 20 by omega) hy
          have k84 := h84 M2 b3
          rw [hv] at k84
          refine oAg.mk M2 rfl ?_ (h.scr b2)
          unfold f_X12_goes
          rw [hip, oB2_p, cond_true, isNe12, oB2_p, decide_eq_true cn, cond_true, la, b1, oB2_p, hx, oTnn, if_pos (by rw [oEqI, k84, tl_1])]
        · rw [hv, if_pos (by decide)]
          obtain ⟨g, M1, a1, F1, a3, -⟩ := cfl h .rf (N := N) (by omega) hy (show 3 ≤ 3 by omega) (x := p.toInt.toNat) (by omega) (by omega) b
          rw [show (nI 3 : Int32) = 3 from rfl, ← lp] at a1
          rw [a1, oB2_p, max0 (isGr_r a3)]
          have h1 := h.scr F1
          obtain ⟨M2, b1, b2, b3⟩ := thk h F1 (N := N) (by omega) (show l < 20 by omega) hy
          have k84 := h84 M2 b3
          rw [hv] at k84
          have hcn : cntI 3 p.toInt.toNat (M.1 (oLy l) 7).toInt.toNat = (M.1 (oLy l) 7).toInt.toNat := by unfold cntI; rw [if_neg (by omega), if_neg (by omega)]
          have hok3 := ok0 h hy (md := 3) (x := p.toInt.toNat) (by omega) (by omega)
          rw [hcn] at a3 hok3
          have hM3 : oMr (oUp M2 84 p.toInt.toNat 1) (coV M l 3 p.toInt.toNat) (M.1 (oLy l) 7).toInt.toNat := by
            refine ⟨by rw [oUp_at, if_neg (by omega)]; exact b3.1, fun i hi => ?_⟩
            have w := b3.2 i hi
            by_cases q : i = p.toInt.toNat
            · have hc3 : coV M l 3 p.toInt.toNat i = paV M l 1 p.toInt.toNat := by rw [coV3, if_pos q, q]
              rw [hc3]
              rw [q, hc0] at w
              unfold paV at w ⊢
              rw [if_neg (by rw [cp.2]; decide), if_pos cp.2] at w ⊢
              rcases w with ⟨k, -⟩ | ⟨-, k1, k2, k3, k4, k5⟩ | ⟨k, -⟩
              · exact absurd (show (1 : Nat) = 0 from k) (by decide)
              · refine Or.inr (Or.inl ⟨rfl, ?_, ?_, ?_, ?_, ?_⟩)
                · rw [oUp_at, if_neg (by omega), q]; exact k1
                · rw [oUp_at, if_neg (by omega), q]; exact k2
                · rw [oUp_at, if_neg (by omega), oUp_at, if_neg (by omega), q]; exact k3
                · rw [oUp_at, if_pos ⟨rfl, q⟩]; rfl
                · rw [oUp_at, if_neg (by omega), q]; exact k5
              · exact absurd (show (1 : Nat) = 2 from k) (by decide)
            · have hc3 : coV M l 3 p.toInt.toNat i = coV M l 0 0 i := by rw [coV3, coV0, if_neg q]
              rw [hc3]
              exact w.eq (by
                refine ⟨?_, ?_, ?_, ?_, ?_, ?_⟩
                · rw [oUp_at, if_neg (by omega)]
                · rw [oUp_at, if_neg (by omega)]
                · rw [oUp_at, if_neg (by omega)]
                · rw [oUp_at, if_neg (by omega)]
                · rw [oUp_at, if_neg (by omega)]
                · funext j; rw [oUp_at, if_neg (by omega)])
          have F3 : fS M (oUp M2 84 p.toInt.toNat 1) := .up (by decide) b2
          obtain ⟨g3, M4, e1, e2, e3⟩ := flw h F3 hN (by omega) hM3 hok3 b
          have hip2 := isP12 h1 N a p 1
          obtain ⟨w0, w1, -⟩ := fr_lay (l := l) F1 (by decide)
          rw [← oTnn, hq, w0, w1, F1.1 0 (by decide) (by decide), decide_eq_true ⟨c, cp⟩] at hip2
          refine oAg.mk M4 rfl ?_ (h.scr e2)
          unfold f_X12_goes
          rw [hip2, oB2_p, cond_true, isNe12, oB2_p, decide_eq_true cn, cond_true, la, b1, oB2_p, hx, oTnn, if_neg (by rw [oEqI, k84, tl_1]; omega), hx, e1, oB2_p, orN (isGr_r e3), oB2_p, isGr_u a3 e3]
      · rw [decide_eq_false cn, cond_false]
        refine oAg.mk M rfl ?_ h
        unfold f_X12_goes
        rw [hip, oB2_p, cond_true, isNe12, oB2_p, decide_eq_false cn, cond_false]
    · rw [decide_eq_false cp, cond_false]
      rw [decide_eq_false (fun z => cp z.2)] at hip
      refine oAg.mk M rfl ?_ h
      unfold f_X12_goes
      rw [hip, oB2_p, cond_false]
  · rw [if_neg c, oCs_n]
    refine oAg.mk M rfl ?_ h
    unfold f_X12_goes
    rw [isP12 h, oB2_p, decide_eq_false (fun z => c z.1), cond_false]
theorem ag_changed {K : oK} {M : oM} (h : oInv K M) {N : Nat} (hN : 1000 ≤ N) (a p : Int32) : oAg K M (f_X11_changed N K a p M) (f_X12_changed N K a p) := by
  have hl := h.2.2.2.2.2.2.2.2.1
  have c1 := hl.1.2.2
  unfold f_X11_changed
  rw [lyAt hl, oB2_p]
  by_cases c : 0 ≤ a.toInt ∧ a.toInt < (M.1 0 11).toInt
  · have na : a.toNatClampNeg = a.toInt.toNat := rfl
    have hy := (ly_nn hl c.1 c.2).2
    have hip := isP12 h N a p 1
    rw [← oTnn] at hip
    generalize hq : a.toNatClampNeg = l at *
    have la : a = nI l := oNI (by omega)
    have h24 := hy.2.2.1.2.2
    have h00 := hy.2.2.1.2.1
    rw [if_pos c, oCs_s, isS6 h24, oB2_p]
    by_cases cp : (0 ≤ p.toInt ∧ p.toInt < (M.1 (oLy l) 7).toInt) ∧ M.1 (oLy l + 1) p.toInt.toNat = 1
    · have lp : p = nI p.toInt.toNat := oNI (by omega)
      have hln := lin6 (N := N) (by omega) (K := K) (M := M) (l := l) (k := p.toInt.toNat) (by omega) (-1) h00 h24
      rw [← lp, tl_m1] at hln
      rw [decide_eq_true ⟨c, cp⟩] at hip
      have hx : ∀ A : Option (Int32 × oM), oIx p 25 A = A := fun A => oIx_p cp.1.1 (by omega)
      have hc0 := coV0 M l 0 p.toInt.toNat
      have hw : 0 ≤ (M.1 (oLy l + 2) p.toInt.toNat).toInt ∧ (M.1 (oLy l + 2) p.toInt.toNat).toInt < (M.1 6 6).toInt := by
        obtain ⟨-, -, ho⟩ := hy.2.2.2.2 p.toInt.toNat (by omega)
        rcases ho with ⟨q1, -⟩ | ⟨q1, q2, -⟩ | ⟨q1, -⟩
        · rw [q1] at cp; exact absurd cp.2 (by decide)
        · exact q2
        · rw [q1] at cp; exact absurd cp.2 (by decide)
      obtain ⟨M2, b1, b2, b3⟩ := thk h .rf (N := N) (by omega) (show l < 20 by omega) hy
      have w := b3.2 p.toInt.toNat (by omega)
      rw [hc0] at w
      unfold paV at w
      rw [if_neg (by rw [cp.2]; decide), if_pos cp.2] at w
      rcases w with ⟨k, -⟩ | ⟨-, k1, k2, ⟨k3, k4, k5⟩, k6, k7⟩ | ⟨k, -⟩
      · exact absurd (show (1 : Nat) = 0 from k) (by decide)
      · dsimp only at k5 k6
        rw [decide_eq_true cp, cond_true, oIx_p cp.1.1 (by omega), oTnn, len4 hw.1 hw.2 h.2.1.2.1.2.2, oB2_p, hln, oB2_p]
        have hl9 := h.2.1.2.2.2 (M.1 (oLy l + 2) p.toInt.toNat).toInt.toNat (by omega)
        rcases lnV_b M l (-1) p.toInt.toNat with hv | hv
        · rw [hv] at k6
          rw [hv, if_neg (by decide)]
          refine oAg.mk M2 rfl ?_ (h.scr b2)
          unfold f_X12_changed
          rw [hip, oB2_p, cond_true, la, b1, oB2_p, hx, oTnn, if_neg (by rw [oEqI, k6, tl_2]; omega), hx, oIx_p k3 (by omega), oTnn, Int32.toInt_inj.mp k5]
        · rw [hv] at k6
          rw [hv, if_pos (by decide)]
          refine oAg.mk M2 rfl ?_ (h.scr b2)
          unfold f_X12_changed
          rw [hip, oB2_p, cond_true, la, b1, oB2_p, hx, oTnn, if_pos (by rw [oEqI, k6, tl_2])]
      · exact absurd (show (1 : Nat) = 2 from k) (by decide)
    · rw [decide_eq_false cp, cond_false]
      rw [decide_eq_false (fun z => cp z.2)] at hip
      refine oAg.mk M rfl ?_ h
      unfold f_X12_changed
      rw [hip, oB2_p, cond_false]
  · rw [if_neg c, oCs_n]
    refine oAg.mk M rfl ?_ h
    unfold f_X12_changed
    rw [isP12 h, oB2_p, decide_eq_false (fun z => c z.1), cond_false]
/-- the greatest with a tub ahead of one part, for the parts from k on -/
theorem hel {K : oK} {M : oM} (h : oInv K M) {N : Nat} (hN : 1000 ≤ N) {l : Nat} (hl : l < 20) (hy : iLay1 M l) (need w : Int32) : ∀ (n k : Nat) (p g : Int) (M1 : oM), (k : Int) ≤ (M.1 (oLy l) 7).toInt → (M.1 (oLy l) 7).toInt < k + n → fS M M1 → ((p = -2 ∧ g = -2) ∨ (0 ≤ p ∧ p < 24 ∧ 0 ≤ g ∧ g ≤ 600)) →
    ∃ (r : Int32) (M2 : oM), f_X11_helps_49 N K n need w (oLy l) (iI p) (iI g) (nI k) M1 = some (r, M2) ∧ fS M M2 ∧ ∀ M3, fS M M3 → ∃ M4, f_X12_helps_46 N K n (nI l) need w (iI p) (iI (if g = -2 then -1 else g)) (nI k) M3 = some (r, M4) ∧ fS M M4 := by
  obtain ⟨-, -, ⟨y4, y5, y6⟩, -⟩ := id hy
  intro n
  induction n with
  | zero => intro k p g M1 h1 h2; omega
  | succ n ih =>
    intro k p g M1 h1 h2 F1 hpg
    have ek : (nI k).toInt = k := nI_toInt (by omega)
    have el : (nI l).toInt = l := nI_toInt (by omega)
    have e7 : M1.1 (oLy l) = M.1 (oLy l) := (fr_lay (l := l) F1 (by decide)).1
    rw [f_X11_helps_49]
    dsimp only
    rw [e7]
    by_cases c : (M.1 (oLy l) 7).toInt ≤ k
    · rw [if_pos (by rw [oLeI, ek]; exact c)]
      refine ⟨if w = 0 then iI p else iI g, M1, by split <;> rfl, F1, fun M3 F3 => ⟨M3, ?_, F3⟩⟩
      rw [f_X12_helps_46]
      dsimp only
      rw [oIx_p (by omega) (by omega), nI_n (by omega), F3.1 76 (by decide) (by decide), y4, if_pos (by rw [oLeI, ek]; exact c)]
      rcases hpg with ⟨q1, q2⟩ | ⟨q1, q2, q3, q4⟩
      · rw [q1, q2, if_neg (by decide)]
        split <;> rfl
      · rw [if_pos (by rw [oLeI, tl_0, iI_t (by omega) (by omega)]; exact q1), if_neg (show ¬ g = -2 by omega)]
        split <;> rfl
    · rw [if_neg (by rw [oLeI, ek]; exact c)]
      obtain ⟨g1, M2, a1, F2, a3, -⟩ := cfl h F1 (N := N) (by omega) hy (show 2 ≤ 3 by omega) (x := k) (by omega) (by omega) need
      rw [show (nI 2 : Int32) = 2 from rfl] at a1
      have gr := isGr_r a3
      have hok := ok0 h hy (md := 2) (x := k) (by omega) (by omega)
      rw [a1, oB2_p]
      unfold f_X11_helps_86
      rw [nI_1]
      have mod : ∀ M3, fS M M3 → ∃ M4, fS M M4 ∧ f_X12_helps_46 N K (n + 1) (nI l) need w (iI p) (iI (if g = -2 then -1 else g)) (nI k) M3 = if iI g1 ≤ iI (if g = -2 then -1 else g) then f_X12_helps_46 N K n (nI l) need w (iI p) (iI (if g = -2 then -1 else g)) (nI (k + 1)) M4 else f_X12_helps_46 N K n (nI l) need w (nI k) (iI g1) (nI (k + 1)) M4 := by
        intro M3 F3
        obtain ⟨M5, i1, i2, i3⟩ := thb h F3 (N := N) (by omega) hl hy (md := 2) (x := k) (Or.inr rfl) (by omega) (fun z => by omega)
        obtain ⟨g4, M6, j1, j2, j3⟩ := flw h i2 hN (cnt_b hy) i3 hok need
        rw [if_neg (by omega)] at i1
        refine ⟨M6, j2, ?_⟩
        rw [f_X12_helps_46]
        dsimp only
        unfold f_X12_helps_87
        rw [oIx_p (by omega) (by omega), nI_n (by omega), F3.1 76 (by decide) (by decide), y4, if_neg (by rw [oLeI, ek]; exact c), i1, oB2_p, j1, oB2_p, nI_1, isGr_u a3 j3]
      have eg1 : (iI g1).toInt = g1 := iI_t (by omega) (by omega)
      have eg : (iI g).toInt = g := iI_t (by omega) (by omega)
      have eg' : (iI (if g = -2 then -1 else g)).toInt = (if g = -2 then -1 else g) := iI_t (by split <;> omega) (by split <;> omega)
      by_cases c2 : g1 ≤ g
      · obtain ⟨r, M7, r1, r2, r3⟩ := ih (k + 1) p g M2 (by omega) (by omega) F2 hpg
        rw [if_pos (by rw [oLeI, eg1, eg]; exact c2)]
        refine ⟨r, M7, r1, r2, fun M3 F3 => ?_⟩
        obtain ⟨M4, F4, m1⟩ := mod M3 F3
        rw [m1, if_pos (by rw [oLeI, eg1, eg']; split <;> omega)]
        exact r3 M4 F4
      · have hg1 : 0 ≤ g1 := by
          rcases a3 with ⟨z, -⟩ | ⟨z, -⟩ <;> omega
        obtain ⟨r, M7, r1, r2, r3⟩ := ih (k + 1) k g1 M2 (by omega) (by omega) F2 (Or.inr ⟨by omega, by omega, hg1, gr.2⟩)
        rw [if_neg (by rw [oLeI, eg1, eg]; exact c2)]
        refine ⟨r, M7, r1, r2, fun M3 F3 => ?_⟩
        obtain ⟨M4, F4, m1⟩ := mod M3 F3
        rw [m1, if_neg (by rw [oLeI, eg1, eg']; split <;> omega)]
        have := r3 M4 F4
        rw [if_neg (show ¬ g1 = -2 by omega)] at this
        exact this
theorem ag_helps {K : oK} {M : oM} (h : oInv K M) {N : Nat} (hN : 1000 ≤ N) (a b w : Int32) : oAg K M (f_X11_helps N K a b w M) (f_X12_helps N K a b w) := by
  have hl := h.2.2.2.2.2.2.2.2.1
  have c1 := hl.1.2.2
  unfold f_X11_helps
  rw [lyAt hl, oB2_p]
  by_cases c : 0 ≤ a.toInt ∧ a.toInt < (M.1 0 11).toInt
  · have na : a.toNatClampNeg = a.toInt.toNat := rfl
    have hy := (ly_nn hl c.1 c.2).2
    generalize hq : a.toNatClampNeg = l at *
    have la : a = nI l := oNI (by omega)
    obtain ⟨-, -, ⟨y4, y5, y6⟩, -⟩ := id hy
    have m0 : ∀ M1, fS M M1 → f_X12_helps N K a b w M1 = if M.1 (oLy l) 7 = 0 then some (-1, M1) else cond (decide (0 ≤ b.toInt ∧ b.toInt ≤ 99999)) (cond (decide (0 ≤ w.toInt ∧ w.toInt ≤ 1)) (f_X12_helps_46 N K N (nI l) b w (-2) (-1) 0 M1) (some (-1, M1))) (some (-1, M1)) := by
      intro M1 F
      unfold f_X12_helps
      rw [l12 (h.scr F), oB2_p, F.1 0 (by decide) (by decide), decide_eq_true c, cond_true, oIx_p c.1 (by omega), hq, F.1 76 (by decide) (by decide), y4, isNe12, oB2_p, w12, oB2_p, oLg, la]
      rfl
    rw [if_pos c, oCs_s]
    by_cases c0 : M.1 (oLy l) 7 = 0
    · rw [if_pos c0]
      refine oAg.mk M rfl ?_ h
      rw [m0 M .rf, if_pos c0]
    · rw [if_neg c0, isNe11, oB2_p]
      by_cases cn : 0 ≤ b.toInt ∧ b.toInt ≤ 99999
      · rw [decide_eq_true cn, cond_true, w11, oB2_p, tl_0, tl_1]
        by_cases cw : 0 ≤ w.toInt ∧ w.toInt ≤ 1
        · rw [decide_eq_true cw, cond_true]
          obtain ⟨r, M2, r1, F2, r3⟩ := hel h hN (show l < 20 by omega) hy b w N 0 (-2) (-2) M (by omega) (by omega) .rf (Or.inl ⟨rfl, rfl⟩)
          obtain ⟨M4, m1, F4⟩ := r3 M2 F2
          refine oAg.mk M4 r1 ?_ (h.scr F4)
          rw [m0 M2 F2, if_neg c0, decide_eq_true cn, decide_eq_true cw, cond_true, cond_true]
          exact m1
        · rw [decide_eq_false cw, cond_false]
          refine oAg.mk M rfl ?_ h
          rw [m0 M .rf, if_neg c0, decide_eq_true cn, decide_eq_false cw, cond_true, cond_false]
      · rw [decide_eq_false cn, cond_false]
        refine oAg.mk M rfl ?_ h
        rw [m0 M .rf, if_neg c0, decide_eq_false cn, cond_false]
  · rw [if_neg c, oCs_n]
    refine oAg.mk M rfl ?_ h
    unfold f_X12_helps
    rw [l12 h, oB2_p, decide_eq_false c, cond_false]
