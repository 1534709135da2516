/-! water through a laying: both answer alike -/
abbrev fS (M M' : oM) : Prop := oFr rScr fScr M M'
theorem fS.cl {M M' : oM} (f : fCl M M') : fS M M' := f.weak (by decide) (by decide)
theorem fS.th {M M' : oM} (f : fTh M M') : fS M M' := f.weak (by decide) (by decide)
theorem fS.go {M M' : oM} (f : fGo M M') : fS M M' := f.weak (by decide) (by decide)
theorem cfl {K : oK} {M M1 : oM} (h : oInv K M) (F : fS M M1) {N : Nat} (hN : 100 ≤ N) {l md x : Nat} (hy : iLay1 M l) (hmd : md ≤ 3) (hx : md = 1 ∨ md = 2 → (x : Int) < (M.1 (oLy l) 7).toInt) (hx2 : x < 100) (need : Int32) :
    ∃ g M2, f_X11_flowWith N K (oLy l) need (nI md) (nI x) M1 = some (iI g, M2) ∧ fS M M2 ∧ isGr (okF (liftV M) (lossV M) (coV M l md x) (cntI md x (M.1 (oLy l) 7).toInt.toNat) need.toInt) g ∧ oCr M2 (coV M l md x) (cntI md x (M.1 (oLy l) 7).toInt.toNat) := by
  have h1 := h.scr F
  have hy1 := hy.same F (by decide) (by decide)
  have e7 : M1.1 (oLy l) = M.1 (oLy l) := (fr_lay (l := l) F (by decide)).1
  obtain ⟨g, M2, a1, a2, a3, a4⟩ := flow11 hN (K := K) h1.2.1 h1.2.2.2.1 h1.2.2.1 hy1 hmd (by rw [e7]; exact hx) hx2 need
  obtain ⟨eL, eS, -⟩ := eLift F (by decide)
  rw [eL, eS, coV_e F (by decide) (by decide), e7] at a3
  rw [coV_e F (by decide) (by decide), e7] at a4
  exact ⟨g, M2, a1, F.tr (fS.cl a2), a3, a4⟩
theorem thk {K : oK} {M M1 : oM} (h : oInv K M) (F : fS M M1) {N : Nat} (hN : 100 ≤ N) {l : Nat} (hl : l < 20) (hy : iLay1 M l) : ∃ M2, f_X12_think N K (nI l) M1 = some ((), M2) ∧ fS M M2 ∧ oMr M2 (coV M l 0 0) (M.1 (oLy l) 7).toInt.toNat := by
  have h1 := h.scr F
  have hy1 := hy.same F (by decide) (by decide)
  have e7 : M1.1 (oLy l) = M.1 (oLy l) := (fr_lay (l := l) F (by decide)).1
  obtain ⟨M2, a1, a2, a3⟩ := think12 hN (K := K) hl h1.2.1 h1.2.2.2.1 h1.2.2.1 hy1
  rw [coV_e F (by decide) (by decide), e7] at a3
  exact ⟨M2, a1, F.tr (fS.th a2), a3⟩
theorem thb {K : oK} {M M1 : oM} (h : oInv K M) (F : fS M M1) {N : Nat} (hN : 100 ≤ N) {l md x : Nat} (hl : l < 20) (hy : iLay1 M l) (hmd : md = 1 ∨ md = 2) (hx : (x : Int) < (M.1 (oLy l) 7).toInt) (hx1 : md = 1 → M.1 (oLy l + 1) x = 0) : ∃ M2, f_X12_thinkBut N K (nI l) (nI x) (if md = 1 then 0 else 1) M1 = some ((), M2) ∧ fS M M2 ∧ oMr M2 (coV M l md x) (cntI md x (M.1 (oLy l) 7).toInt.toNat) := by
  have h1 := h.scr F
  have hy1 := hy.same F (by decide) (by decide)
  obtain ⟨e7, e8, -⟩ := fr_lay (l := l) F (by decide)
  obtain ⟨M2, a1, a2, a3⟩ := thinkBut12 hN (K := K) hl h1.2.1 h1.2.2.2.1 h1.2.2.1 hy1 hmd (by rw [e7]; exact hx) (by rw [e8]; exact hx1)
  rw [coV_e F (by decide) (by decide), e7] at a3
  exact ⟨M2, a1, F.tr (fS.th a2), a3⟩
theorem flw {K : oK} {M M1 : oM} (h : oInv K M) (F : fS M M1) {N : Nat} (hN : 1000 ≤ N) {c : Nat → oStp} {T : Nat} (hT : T ≤ 25) (hM : oMr M1 c T) (ho : ∀ i, i < T → okS (c i)) (need : Int32) : ∃ g M2, f_X12_flowNow N K need M1 = some (iI g, M2) ∧ fS M M2 ∧ isGr (okF (liftV M) (lossV M) c T need.toInt) g := by
  have h1 := h.scr F
  obtain ⟨g, M2, a1, a2, a3⟩ := flow12 hN (K := K) h1.2.2.2.1 h1.2.2.1 hT hM ho (need := need)
  obtain ⟨eL, eS, -⟩ := eLift F (by decide)
  rw [eL, eS] at a3
  exact ⟨g, M2, a1, F.tr (fS.go a2), a3⟩
theorem cnt0 (k : Nat) : cntI 0 0 k = k := by unfold cntI; rw [if_neg (by omega), if_neg (by omega)]
theorem ok0 {K : oK} {M : oM} (h : oInv K M) {l md x : Nat} (hy : iLay1 M l) (hmd : md ≤ 3) (hx : md = 1 ∨ md = 2 → (x : Int) < (M.1 (oLy l) 7).toInt) : ∀ i, i < cntI md x (M.1 (oLy l) 7).toInt.toNat → okS (coV M l md x i) := coV_ok h.2.1 h.2.2.2.1 h.2.2.1 hy hmd hx
theorem l12 {K : oK} {M : oM} (h : oInv K M) (N : Nat) (a : Int32) : f_X12_isLaying N K a M = some (decide (0 ≤ a.toInt ∧ a.toInt < (M.1 0 11).toInt), M) := by
  obtain ⟨e20, c0, -⟩ := h.2.2.2.2.2.2.2.2.1.1
  rw [isLy12 _ _ _ _ (by rw [e20]; exact c0), e20]
theorem ag_flow {K : oK} {M : oM} (h : oInv K M) {N : Nat} (hN : 1000 ≤ N) (a b : Int32) : oAg K M (f_X11_flow N K a b M) (f_X12_flow N K a b) := by
  have hl := h.2.2.2.2.2.2.2.2.1
  have c1 := hl.1.2.2
  unfold f_X11_flow
  rw [lyAt hl, oB2_p]
  by_cases c : 0 ≤ a.toInt ∧ a.toInt < (M.1 0 11).toInt
  · have na : a.toNatClampNeg = a.toInt.toNat := rfl
    have hy := (ly_nn hl c.1 c.2).2
    generalize hq : a.toNatClampNeg = l at *
    have la : a = nI l := oNI (by omega)
    rw [if_pos c, oCs_s, isNe11, oB2_p]
    by_cases cn : 0 ≤ b.toInt ∧ b.toInt ≤ 99999
    · rw [decide_eq_true cn, cond_true]
      obtain ⟨g, M1, a1, a2, a3, a4⟩ := cfl h .rf (N := N) (by omega) hy (show 0 ≤ 3 by omega) (by omega) (show 0 < 100 by omega) b
      rw [show (nI 0 : Int32) = 0 from rfl] at a1
      rw [a1, oB2_p]
      obtain ⟨M2, b1, b2, b3⟩ := thk h a2 (N := N) (by omega) (show l < 20 by omega) hy
      obtain ⟨g2, M3, d1, d2, d3⟩ := flw h b2 hN (by rw [← cnt0 (M.1 (oLy l) 7).toInt.toNat]; exact cnt_b hy) b3 (by rw [← cnt0 (M.1 (oLy l) 7).toInt.toNat]; exact ok0 h hy (by omega) (by omega)) b
      rw [cnt0] at a3
      refine oAg.mk M3 rfl ?_ (h.scr d2)
      unfold f_X12_flow
      rw [l12 (h.scr a2), oB2_p, (a2).1 0 (by decide) (by decide), decide_eq_true c, cond_true, isNe12, oB2_p, decide_eq_true cn, cond_true, la, b1, oB2_p, d1, oB2_p, isGr_u a3 d3]
    · rw [decide_eq_false cn, cond_false]
      refine oAg.mk M rfl ?_ h
      unfold f_X12_flow
      rw [l12 h, oB2_p, decide_eq_true c, cond_true, isNe12, oB2_p, decide_eq_false cn, cond_false]
  · rw [if_neg c, oCs_n]
    refine oAg.mk M rfl ?_ h
    unfold f_X12_flow
    rw [l12 h, oB2_p, decide_eq_false c, cond_false]
/-- the pressure behind a part -/
theorem ag_pressure {K : oK} {M : oM} (h : oInv K M) {N : Nat} (hN : 1000 ≤ N) (a b f : Int32) : oAg K M (f_X11_pressure N K a b f M) (f_X12_pressure N K a b f) := by
  have hl := h.2.2.2.2.2.2.2.2.1
  have c1 := hl.1.2.2
  unfold f_X11_pressure
  rw [lyAt hl, oB2_p]
  by_cases c : 0 ≤ a.toInt ∧ a.toInt < (M.1 0 11).toInt
  · have na : a.toNatClampNeg = a.toInt.toNat := rfl
    have hy := (ly_nn hl c.1 c.2).2
    generalize hq : a.toNatClampNeg = l at *
    have la : a = nI l := oNI (by omega)
    obtain ⟨-, -, ⟨y4, y5, y6⟩, -⟩ := id hy
    have hp6 : f_X6_isPart N K (oLy l) b M = some (decide (0 ≤ b.toInt ∧ b.toInt < (M.1 (oLy l) 7).toInt), M) := by
      unfold f_X6_isPart
      by_cases q1 : b.toInt < 0
      · rw [if_pos (by rw [oLtI, tl_0]; exact q1), decide_eq_false (by omega)]
      · rw [if_neg (by rw [oLtI, tl_0]; exact q1)]
        by_cases q2 : (M.1 (oLy l) 7).toInt ≤ b.toInt
        · rw [if_pos (by rw [oLeI]; exact q2), decide_eq_false (by omega)]
        · rw [if_neg (by rw [oLeI]; exact q2), decide_eq_true (by omega)]
    rw [if_pos c, oCs_s, hp6, oB2_p]
    have m0 : ∀ M1, fS M M1 → f_X12_pressure N K a b f M1 = cond (decide (0 ≤ b.toInt ∧ b.toInt < (M.1 (oLy l) 7).toInt)) (cond (decide (0 ≤ f.toInt ∧ f.toInt ≤ 600)) (oB2 (f_X12_think N K (nI l) M1) (fun v11 M12 => oB2 (f_X12_goThrough N K f M12) (fun v14 M15 => oIx b 25 (some ((M15.1 86 b.toNatClampNeg), M15))))) (some (-2000000000, M1))) (some (-2000000000, M1)) := by
      intro M1 F
      have es : (M.1 (oLy l) 7 - 1).toInt = (M.1 (oLy l) 7).toInt - 1 := sub1 y5
      unfold f_X12_pressure f_X12_pressure_33
      rw [l12 (h.scr F), oB2_p, F.1 0 (by decide) (by decide), decide_eq_true c, cond_true, oIx_p c.1 (by omega), hq, F.1 76 (by decide) (by decide), y4, w12, oB2_p, oLg, oLg, es, isFl12, oB2_p, la, show (0 : Int64).toInt = 0 from rfl]
      by_cases q : 0 ≤ b.toInt ∧ b.toInt < (M.1 (oLy l) 7).toInt
      · rw [decide_eq_true q, decide_eq_true (by omega)]
      · rw [decide_eq_false q, decide_eq_false (by omega)]
    by_cases cb : 0 ≤ b.toInt ∧ b.toInt < (M.1 (oLy l) 7).toInt
    · rw [decide_eq_true cb, cond_true, isFl11, oB2_p]
      by_cases cf : 0 ≤ f.toInt ∧ f.toInt ≤ 600
      · rw [decide_eq_true cf, cond_true]
        obtain ⟨M1, a1, a2, a3⟩ := lay2 (N := N) (by omega) (K := K) h.2.1 h.2.2.1 hy (show 0 ≤ 3 by omega) (x := 0) (by omega) (by omega)
        rw [show (nI 0 : Int32) = 0 from rfl] at a1
        have F1 := fS.cl a2
        have h1 := h.scr F1
        have hok := ok0 h hy (md := 0) (x := 0) (by omega) (by omega)
        rw [cnt0] at a3 hok
        obtain ⟨eL, eS, -⟩ := eLift a2 (by decide)
        have hpb := prB2 (N := N) (K := K) (M := M1) h1.2.2.2.1 h1.2.2.1 (show (M.1 (oLy l) 7).toInt.toNat ≤ 25 by omega) a3 hok cf.1 cf.2 (k := b.toInt.toNat) (by omega) N 0 (by omega) (by omega)
        rw [eL, eS, ← oNI (x := b) (by omega)] at hpb
        have hpb' : f_X2_pressureBehind N K b f M1 = some (iI (prV (liftV M) (lossV M) (coV M l 0 0) f.toInt (b.toInt.toNat + 1)), M1) := hpb
        rw [a1, oB2_p, hpb', oB2_p]
        obtain ⟨M2, b1, b2, b3⟩ := thk h F1 (N := N) (by omega) (show l < 20 by omega) hy
        have h2 := h.scr b2
        obtain ⟨M3, d1, d2, d3, d4, d5⟩ := go12 (N := N) (by omega) (K := K) h2.2.2.2.1 h2.2.2.1 (show (M.1 (oLy l) 7).toInt.toNat ≤ 25 by omega) b3 hok cf.1 cf.2
        obtain ⟨eL2, eS2, -⟩ := eLift b2 (by decide)
        refine oAg.mk M3 rfl ?_ (h.scr (b2.tr (fS.go d2)))
        rw [m0 M1 F1, decide_eq_true cb, decide_eq_true cf, cond_true, cond_true, b1, oB2_p, d1, oB2_p, oIx_p cb.1 (by omega), oTnn, d5 _ (by omega), eL2, eS2]
      · rw [decide_eq_false cf, cond_false]
        refine oAg.mk M rfl ?_ h
        rw [m0 M .rf, decide_eq_true cb, decide_eq_false cf, cond_true, cond_false]
    · rw [decide_eq_false cb, cond_false]
      refine oAg.mk M rfl ?_ h
      rw [m0 M .rf, decide_eq_false cb, cond_false]
  · rw [if_neg c, oCs_n]
    refine oAg.mk M rfl ?_ h
    unfold f_X12_pressure
    rw [l12 h, oB2_p, decide_eq_false c, cond_false]
    rfl
theorem ag_judge {K : oK} {M : oM} (h : oInv K M) {N : Nat} (hN : 1000 ≤ N) (a f b : Int32) : oAg K M (f_X11_judge N K a f b M) (f_X12_judge N K a f b) := by
  have hl := h.2.2.2.2.2.2.2.2.1
  have c1 := hl.1.2.2
  unfold f_X11_judge
  rw [lyAt hl, oB2_p]
  by_cases c : 0 ≤ a.toInt ∧ a.toInt < (M.1 0 11).toInt
  · have na : a.toNatClampNeg = a.toInt.toNat := rfl
    have hy := (ly_nn hl c.1 c.2).2
    generalize hq : a.toNatClampNeg = l at *
    have la : a = nI l := oNI (by omega)
    have h24 := hy.2.2.1.2.2
    rw [if_pos c, oCs_s, isFl11, oB2_p]
    by_cases cf : 0 ≤ f.toInt ∧ f.toInt ≤ 600
    · rw [decide_eq_true cf, cond_true, isNe11, oB2_p]
      by_cases cn : 0 ≤ b.toInt ∧ b.toInt ≤ 99999
      · rw [decide_eq_true cn, cond_true]
        obtain ⟨M1, a1, a2, a3⟩ := lay2 (N := N) (by omega) (K := K) h.2.1 h.2.2.1 hy (show 0 ≤ 3 by omega) (x := 0) (by omega) (by omega)
        rw [show (nI 0 : Int32) = 0 from rfl] at a1
        have F1 := fS.cl a2
        have h1 := h.scr F1
        have hok := ok0 h hy (md := 0) (x := 0) (by omega) (by omega)
        rw [cnt0] at a3 hok
        obtain ⟨eL, eS, e2⟩ := eLift a2 (by decide)
        have hj := jud2' (N := N) (by omega) (K := K) (M := M1) h1.2.2.2.1 h1.2.2.1 (show (M.1 (oLy l) 7).toInt.toNat ≤ 25 by omega) a3 hok cf.1 cf.2 (need := b) (fl := 1) (Or.inr ⟨rfl, rfl⟩)
        rw [eL, eS, e2] at hj
        rw [a1, oB2_p, hj, oB2_p]
        obtain ⟨M2, b1, b2, b3⟩ := thk h F1 (N := N) (by omega) (show l < 20 by omega) hy
        have h2 := h.scr b2
        obtain ⟨M3, d1, d2, d3, d4, d5⟩ := go12 (N := N) (by omega) (K := K) h2.2.2.2.1 h2.2.2.1 (show (M.1 (oLy l) 7).toInt.toNat ≤ 25 by omega) b3 hok cf.1 cf.2
        obtain ⟨eL2, eS2, e22⟩ := eLift b2 (by decide)
        rw [eL2, eS2, e22] at d4
        rw [eL2, eS2] at d1
        refine oAg.mk M3 rfl ?_ (h.scr (b2.tr (fS.go d2)))
        unfold f_X12_judge
        have hb := prV_b (okT_M h.2.2.2.1 h.2.2.1) hok cf.1 cf.2 (M.1 (oLy l) 7).toInt.toNat (Nat.le_refl _)
        have r := fst_r (bad1 (liftV M) (lossV M) (fun b => (M.1 2 b).toInt) (coV M l 0 0) f.toInt) (M.1 (oLy l) 7).toInt.toNat
        rw [l12 h1, oB2_p, F1.1 0 (by decide) (by decide), decide_eq_true c, cond_true, isFl12, oB2_p, decide_eq_true cf, cond_true, isNe12, oB2_p, decide_eq_true cn, cond_true, la, b1, oB2_p, d1, oB2_p, d4]
        unfold jdV
        generalize fstI (bad1 (liftV M) (lossV M) (fun b => (M.1 2 b).toInt) (coV M l 0 0) f.toInt) (M.1 (oLy l) 7).toInt.toNat = q at *
        by_cases c3 : 0 ≤ q
        · rw [if_neg (by rw [oLtI, tl_0, iI_t (by omega) (by omega)]; omega), if_pos c3]
        · rw [if_pos (by rw [oLtI, tl_0, iI_t (by omega) (by omega)]; omega), if_neg c3]
          by_cases c4 : b.toInt ≤ prV (liftV M) (lossV M) (coV M l 0 0) f.toInt (M.1 (oLy l) 7).toInt.toNat
          · rw [if_pos (by rw [oLeI, iI_t (by omega) (by omega)]; exact c4), if_pos c4]
            rfl
          · rw [if_neg (by rw [oLeI, iI_t (by omega) (by omega)]; exact c4), if_neg c4]
            rfl
      · rw [decide_eq_false cn, cond_false]
        refine oAg.mk M rfl ?_ h
        unfold f_X12_judge
        rw [l12 h, oB2_p, decide_eq_true c, cond_true, isFl12, oB2_p, decide_eq_true cf, cond_true, isNe12, oB2_p, decide_eq_false cn, cond_false]
    · rw [decide_eq_false cf, cond_false]
      refine oAg.mk M rfl ?_ h
      unfold f_X12_judge
      rw [l12 h, oB2_p, decide_eq_true c, cond_true, isFl12, oB2_p, decide_eq_false cf, cond_false]
  · rw [if_neg c, oCs_n]
    refine oAg.mk M rfl ?_ h
    unfold f_X12_judge
    rw [l12 h, oB2_p, decide_eq_false c, cond_false]
theorem ag_bound {K : oK} {M : oM} (h : oInv K M) {N : Nat} (hN : 1000 ≤ N) (a b : Int32) : oAg K M (f_X11_bound N K a b M) (f_X12_bound N K a b) := by
  have hl := h.2.2.2.2.2.2.2.2.1
  have c1 := hl.1.2.2
  unfold f_X11_bound
  rw [lyAt hl, oB2_p]
  by_cases c : 0 ≤ a.toInt ∧ a.toInt < (M.1 0 11).toInt
  · have na : a.toNatClampNeg = a.toInt.toNat := rfl
    have hy := (ly_nn hl c.1 c.2).2
    generalize hq : a.toNatClampNeg = l at *
    have la : a = nI l := oNI (by omega)
    have h24 := hy.2.2.1.2.2
    rw [if_pos c, oCs_s, isNe11, oB2_p]
    by_cases cn : 0 ≤ b.toInt ∧ b.toInt ≤ 99999
    · rw [decide_eq_true cn, cond_true]
      obtain ⟨g, M1, a1, F1, a3, a4⟩ := cfl h .rf (N := N) (by omega) hy (show 0 ≤ 3 by omega) (by omega) (show 0 < 100 by omega) b
      rw [show (nI 0 : Int32) = 0 from rfl] at a1
      have hok := ok0 h hy (md := 0) (x := 0) (by omega) (by omega)
      rw [cnt0] at a3 a4 hok
      have h1 := h.scr F1
      have gr := isGr_r a3
      obtain ⟨eL, eS, e2⟩ := eLift F1 (by decide)
      obtain ⟨M2, b1, b2, b3⟩ := thk h F1 (N := N) (by omega) (show l < 20 by omega) hy
      have h2 := h.scr b2
      obtain ⟨g2, M3, d1, d2, d3⟩ := flowW hN (K := K) h2.2.2.2.1 h2.2.2.1 (show (M.1 (oLy l) 7).toInt.toNat ≤ 25 by omega) b3 hok (need := b) (w := 1)
      obtain ⟨eL2, eS2, e22⟩ := eLift b2 (by decide)
      rw [eL2, eS2, e22] at d3
      have d3' : isGr (okB (liftV M) (lossV M) (fun b => (M.1 2 b).toInt) (coV M l 0 0) (M.1 (oLy l) 7).toInt.toNat b.toInt) g2 := d3
      have m1 : f_X12_bound N K a b M1 = some (iI g2, M3) := by
        unfold f_X12_bound
        rw [l12 h1, oB2_p, F1.1 0 (by decide) (by decide), decide_eq_true c, cond_true, isNe12, oB2_p, decide_eq_true cn, cond_true, la, b1, oB2_p, d1]
      have fin : ∀ r : Int, ((0 ≤ g ∧ okB (liftV M) (lossV M) (fun b => (M.1 2 b).toInt) (coV M l 0 0) (M.1 (oLy l) 7).toInt.toNat b.toInt g ∧ r = g) ∨ (¬ (0 ≤ g ∧ okB (liftV M) (lossV M) (fun b => (M.1 2 b).toInt) (coV M l 0 0) (M.1 (oLy l) 7).toInt.toNat b.toInt g) ∧ r = -2)) → r = g2 := fun r hr => isGr_u (isGr_b (okT_M h.2.2.2.1 h.2.2.1) hok a3 hr) d3'
      rw [a1, oB2_p]
      by_cases q : g = -2
      · rw [if_pos (by rw [q]; rfl)]
        refine oAg.mk M3 rfl ?_ (h.scr (b2.tr (fS.go d2)))
        rw [m1, ← fin (-2) (Or.inr ⟨by omega, rfl⟩)]
        rfl
      · have g0 : 0 ≤ g := by
          rcases a3 with ⟨k, -⟩ | ⟨k, -⟩ <;> omega
        have eg : (iI g).toInt = g := iI_t (by omega) (by omega)
        have hj := jud2' (N := N) (by omega) (K := K) (M := M1) h1.2.2.2.1 h1.2.2.1 (show (M.1 (oLy l) 7).toInt.toNat ≤ 25 by omega) a4 hok (f := iI g) (by omega) (by omega) (need := b) (fl := 1) (Or.inr ⟨rfl, rfl⟩)
        rw [eL, eS, e2, eg] at hj
        have hv := jdV_ok (P := bad1 (liftV M) (lossV M) (fun b => (M.1 2 b).toInt) (coV M l 0 0) g) (T := (M.1 (oLy l) 7).toInt.toNat) (by omega) (need := b.toInt) (e := prV (liftV M) (lossV M) (coV M l 0 0) g (M.1 (oLy l) 7).toInt.toNat)
        have hr := jdV_r (P := bad1 (liftV M) (lossV M) (fun b => (M.1 2 b).toInt) (coV M l 0 0) g) (T := (M.1 (oLy l) 7).toInt.toNat) (by omega) (need := b.toInt) (e := prV (liftV M) (lossV M) (coV M l 0 0) g (M.1 (oLy l) 7).toInt.toNat)
        rw [if_neg (by rw [oEqI, eg, tl_m2]; exact q), hj, oB2_p]
        by_cases q2 : jdV (bad1 (liftV M) (lossV M) (fun b => (M.1 2 b).toInt) (coV M l 0 0) g) (M.1 (oLy l) 7).toInt.toNat b.toInt (prV (liftV M) (lossV M) (coV M l 0 0) g (M.1 (oLy l) 7).toInt.toNat) = -2
        · rw [if_pos (by rw [q2]; rfl)]
          refine oAg.mk M3 rfl ?_ (h.scr (b2.tr (fS.go d2)))
          rw [m1, fin g (Or.inl ⟨g0, hv.mp q2, rfl⟩)]
        · rw [if_neg (by rw [oEqI, iI_t (by omega) (by omega), tl_m2]; exact q2)]
          refine oAg.mk M3 rfl ?_ (h.scr (b2.tr (fS.go d2)))
          rw [m1, ← fin (-2) (Or.inr ⟨fun z => q2 (hv.mpr z.2), rfl⟩)]
          rfl
    · rw [decide_eq_false cn, cond_false]
      refine oAg.mk M rfl ?_ h
      unfold f_X12_bound
      rw [l12 h, oB2_p, decide_eq_true c, cond_true, isNe12, oB2_p, decide_eq_false cn, cond_false]
  · rw [if_neg c, oCs_n]
    refine oAg.mk M rfl ?_ h
    unfold f_X12_bound
    rw [l12 h, oB2_p, decide_eq_false c, cond_false]
