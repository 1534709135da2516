/-! water through a laying: how the reference thinks of it -/
def isM (M : oM) (i : Nat) (s : oStp) : Prop := (s.1 = 0 ∧ M.1 81 i = 0 ∧ M.1 82 i = nI s.2.1) ∨ (s.1 = 1 ∧ M.1 81 i = 1 ∧ M.1 83 i = nI s.2.1 ∧ (0 ≤ (M.1 82 i).toInt ∧ (M.1 82 i).toInt < 20 ∧ (M.1 66 (M.1 82 i).toInt.toNat).toInt = s.2.2.1) ∧ (M.1 84 i).toInt = s.2.2.2.1 ∧ (M.1 85 i).toInt = s.2.2.2.2) ∨ (s.1 = 2 ∧ M.1 81 i = 2)
def oMr (M : oM) (c : Nat → oStp) (T : Nat) : Prop := M.1 59 31 = nI T ∧ ∀ i, i < T → isM M i (c i)
/-- what the reference has added up to the T-th step -/
def isR (M M1 : oM) (l md x i : Nat) : Prop := if md = 2 ∧ i = x then M1.1 81 i = 2 else M1.1 81 i = M.1 (oLy l + 1) (srcI md x i) ∧ M1.1 82 i = M.1 (oLy l + 2) (srcI md x i) ∧ M1.1 83 i = M.1 (oLy l + 3) (srcI md x i)
theorem isR.eq {M M1 M2 : oM} {l md x i : Nat} (h : isR M M1 l md x i) (e : M2.1 81 i = M1.1 81 i ∧ M2.1 82 i = M1.1 82 i ∧ M2.1 83 i = M1.1 83 i) : isR M M2 l md x i := by
  unfold isR
  rw [e.1, e.2.1, e.2.2]
  exact h
theorem add12 {N : Nat} {K : oK} {M : oM} {T : Nat} (hT : M.1 59 31 = nI T) (hT2 : T < 25) (a b c : Int32) : ∃ M', f_X12_adds N K a b c M = some ((), M') ∧ oFr [81, 82, 83] [31] M M' ∧ M'.1 59 31 = nI (T + 1) ∧ (∀ i, i ≠ T → M'.1 81 i = M.1 81 i ∧ M'.1 82 i = M.1 82 i ∧ M'.1 83 i = M.1 83 i) ∧ M'.1 81 T = a ∧ M'.1 82 T = b ∧ M'.1 83 T = c := by
  have hxT : ∀ A : Option (Unit × oM), oIx (nI T) 25 A = A := fun A => oIx_p (by rw [nI_toInt (by omega)]; omega) (by rw [nI_toInt (by omega)]; omega)
  have r1 : ∀ (M : oM) a j x, a ≠ 59 → (oUp M a j x).1 59 31 = M.1 59 31 := fun M a j x ha => by rw [oUp_at, if_neg (fun q => ha q.1.symm)]
  unfold f_X12_adds
  simp only [r1 _ 81 _ _ (show (81 : Nat) ≠ 59 by decide), r1 _ 82 _ _ (show (82 : Nat) ≠ 59 by decide), r1 _ 83 _ _ (show (83 : Nat) ≠ 59 by decide), hT, hxT, nI_n (show T < 2147483648 by omega)]
  refine ⟨_, rfl, .up59 (by decide) (.up (by decide) (.up (by decide) (.up (by decide) .rf))), ?_, fun i hi => ?_, ?_, ?_, ?_⟩
  · simp [oUp_at, nI_1]
  · simp [oUp_at, hi]
  · simp [oUp_at]
  · simp [oUp_at]
  · simp [oUp_at]
/-- the frame of thinking -/
abbrev fTh (M M' : oM) : Prop := oFr [81, 82, 83, 84, 85] [29, 30, 31] M M'
theorem thk30 {N : Nat} {K : oK} {M : oM} {l : Nat} (hl : l < 20) (hy : iLay1 M l) : ∀ (n k : Nat) (M1 : oM), (k : Int) ≤ (M.1 (oLy l) 7).toInt → (M.1 (oLy l) 7).toInt < k + n → fTh M M1 → M1.1 59 31 = nI k → (∀ i, i < k → isR M M1 l 0 0 i) →
    ∃ M2, f_X12_think_30 N K n (nI l) (24 * nI l + nI k) M1 = oB2 (f_X12_settle N K M2) (fun v5 M6 => some ((), M6)) ∧ fTh M M2 ∧ M2.1 59 31 = nI (M.1 (oLy l) 7).toInt.toNat ∧ (∀ i, i < (M.1 (oLy l) 7).toInt.toNat → isR M M2 l 0 0 i) ∧ M2.1 59 29 = M1.1 59 29 ∧ M2.1 59 30 = M1.1 59 30 := by
  obtain ⟨-, -, ⟨y1, y2, y3⟩, -, hp⟩ := hy
  intro n
  induction n with
  | zero => intro k M1 h1 h2; omega
  | succ n ih =>
    intro k M1 h1 h2 f hT hR
    have ek : (nI k).toInt = k := nI_toInt (by omega)
    have el : (nI l).toInt = l := nI_toInt (by omega)
    have e24 : (24 * nI l).toInt = 24 * l := by rw [oMul (by rw [tl_24]; omega) (by rw [tl_24]; omega), tl_24, el]
    have es : (24 * nI l + nI k).toInt = 24 * l + k := by rw [oAdd (by omega) (by omega), e24, ek]
    have ns : (24 * nI l + nI k).toNatClampNeg = 24 * l + k := by rw [oTnn, es]; omega
    have r76 : M1.1 76 = M.1 76 := f.1 76 (by decide) (by decide)
    have r77 : M1.1 77 = M.1 77 := f.1 77 (by decide) (by decide)
    have r78 : M1.1 78 = M.1 78 := f.1 78 (by decide) (by decide)
    have r79 : M1.1 79 = M.1 79 := f.1 79 (by decide) (by decide)
    have e7 : (24 * nI l + M.1 76 l).toInt = 24 * l + (M.1 (oLy l) 7).toInt := by rw [oAdd (by rw [y1]; omega) (by rw [y1]; omega), e24, y1]
    have en : 24 * nI l + nI k + 1 = 24 * nI l + nI (k + 1) := by rw [← nI_1, Int32.add_assoc]
    rw [f_X12_think_30]
    dsimp only
    rw [oIx_p (i := nI l) (by omega) (by omega), nI_n (by omega), ns, r76]
    by_cases c : (M.1 (oLy l) 7).toInt ≤ k
    · rw [if_pos (by rw [oLeI, e7, es]; omega)]
      have : (M.1 (oLy l) 7).toInt.toNat = k := by omega
      rw [this]
      exact ⟨M1, rfl, f, hT, hR, rfl, rfl⟩
    · have hx : ∀ A : Option (Unit × oM), oIx (24 * nI l + nI k) 480 A = A := fun A => oIx_p (by omega) (by omega)
      rw [if_neg (by rw [oLeI, e7, es]; omega), hx, hx, hx, r77, r78, r79]
      obtain ⟨⟨p1, p2, p3⟩, -, -⟩ := hp k (by omega)
      obtain ⟨M3, a1, a2, a3, a4, a5, a6, a7⟩ := add12 (N := N) (K := K) hT (by omega) (M.1 77 (24 * l + k)) (M.1 78 (24 * l + k)) (M.1 79 (24 * l + k))
      rw [a1, oB2_p, en]
      obtain ⟨M2, b1, b2, b3, b4, b5, b6⟩ := ih (k + 1) M3 (by omega) (by omega) (f.tr (a2.weak (by decide) (by decide))) a3 (fun i hi => by
        by_cases q : i = k
        · subst q
          unfold isR srcI
          rw [if_neg (by omega), if_neg (by omega), if_neg (by omega), a5, a6, a7]
          exact ⟨p1, p2, p3⟩
        · exact (hR i (by omega)).eq (a4 i q))
      exact ⟨M2, b1, b2, b3, b4, by rw [b5]; exact a2.2.1 29 (by decide), by rw [b6]; exact a2.2.1 30 (by decide)⟩
theorem thb28 {N : Nat} {K : oK} {M : oM} {l md x : Nat} (hl : l < 20) (hy : iLay1 M l) (hmd : md = 1 ∨ md = 2) (hx : (x : Int) < (M.1 (oLy l) 7).toInt) : ∀ (n k : Nat) (M1 : oM), (k : Int) ≤ (M.1 (oLy l) 7).toInt → (M.1 (oLy l) 7).toInt < k + n → fTh M M1 → M1.1 59 31 = nI (cntI md x k) → (∀ i, i < cntI md x k → isR M M1 l md x i) →
    ∃ M2, f_X12_thinkBut_28 N K n (nI l) (nI x) (if md = 1 then 0 else 1) (nI k) M1 = oB2 (f_X12_settle N K M2) (fun v5 M6 => some ((), M6)) ∧ fTh M M2 ∧ M2.1 59 31 = nI (cntI md x (M.1 (oLy l) 7).toInt.toNat) ∧ (∀ i, i < cntI md x (M.1 (oLy l) 7).toInt.toNat → isR M M2 l md x i) ∧ M2.1 59 29 = M1.1 59 29 ∧ M2.1 59 30 = M1.1 59 30 := by
  obtain ⟨-, -, ⟨y1, y2, y3⟩, -, hp⟩ := hy
  intro n
  induction n with
  | zero => intro k M1 h1 h2; omega
  | succ n ih =>
    intro k M1 h1 h2 f hT hR
    have ek : (nI k).toInt = k := nI_toInt (by omega)
    have ex : (nI x).toInt = x := nI_toInt (by omega)
    have el : (nI l).toInt = l := nI_toInt (by omega)
    have e24 : (24 * nI l).toInt = 24 * l := by rw [oMul (by rw [tl_24]; omega) (by rw [tl_24]; omega), tl_24, el]
    have es : (24 * nI l + nI k).toInt = 24 * l + k := by rw [oAdd (by omega) (by omega), e24, ek]
    have ns : (24 * nI l + nI k).toNatClampNeg = 24 * l + k := by rw [oTnn, es]; omega
    have r76 : M1.1 76 = M.1 76 := f.1 76 (by decide) (by decide)
    rw [f_X12_thinkBut_28]
    dsimp only
    rw [oIx_p (i := nI l) (by omega) (by omega), nI_n (show l < 2147483648 by omega), r76, y1]
    by_cases c : (M.1 (oLy l) 7).toInt ≤ k
    · rw [if_pos (by rw [oLeI, ek]; exact c)]
      have : (M.1 (oLy l) 7).toInt.toNat = k := by omega
      rw [this]
      exact ⟨M1, rfl, f, hT, hR, rfl, rfl⟩
    · have hx48 : ∀ A : Option (Unit × oM), oIx (24 * nI l + nI k) 480 A = A := fun A => oIx_p (by omega) (by omega)
      rw [if_neg (by rw [oLeI, ek]; exact c)]
      obtain ⟨⟨p1, p2, p3⟩, -, -⟩ := hp k (by omega)
      have step : ∀ (T : Nat) (M2 : oM), T < 25 → fTh M M2 → M2.1 59 31 = nI T → (∀ i, i < T → isR M M2 l md x i) → M2.1 59 29 = M1.1 59 29 → M2.1 59 30 = M1.1 59 30 → ¬ (md = 2 ∧ T = x) → srcI md x T = k → T + 1 = cntI md x (k + 1) →
          ∃ M3, f_X12_thinkBut_66 N K (f_X12_thinkBut_28 N K n) (nI l) (nI x) (if md = 1 then 0 else 1) (nI k) M2 = oB2 (f_X12_settle N K M3) (fun v5 M6 => some ((), M6)) ∧ fTh M M3 ∧ M3.1 59 31 = nI (cntI md x (M.1 (oLy l) 7).toInt.toNat) ∧ (∀ i, i < cntI md x (M.1 (oLy l) 7).toInt.toNat → isR M M3 l md x i) ∧ M3.1 59 29 = M1.1 59 29 ∧ M3.1 59 30 = M1.1 59 30 := by
        intro T M2 hT2 f2 hT3 hR2 k29 k30 hne hsr hcn
        have r77 : M2.1 77 = M.1 77 := f2.1 77 (by decide) (by decide)
        have r78 : M2.1 78 = M.1 78 := f2.1 78 (by decide) (by decide)
        have r79 : M2.1 79 = M.1 79 := f2.1 79 (by decide) (by decide)
        obtain ⟨M3, a1, a2, a3, a4, a5, a6, a7⟩ := add12 (N := N) (K := K) hT3 hT2 (M.1 77 (24 * l + k)) (M.1 78 (24 * l + k)) (M.1 79 (24 * l + k))
        unfold f_X12_thinkBut_66 f_X12_thinkBut_106
        rw [hx48, hx48, hx48, ns, r77, r78, r79, a1, oB2_p, nI_1]
        obtain ⟨M4, b1, b2, b3, b4, b5, b6⟩ := ih (k + 1) M3 (by omega) (by omega) (f2.tr (a2.weak (by decide) (by decide))) (by rw [a3, hcn]) (fun i hi => by
          by_cases q : i = T
          · subst q
            unfold isR
            rw [if_neg hne, hsr, a5, a6, a7]
            exact ⟨p1, p2, p3⟩
          · exact (hR2 i (by omega)).eq (a4 i q))
        exact ⟨M4, b1, b2, b3, b4, by rw [b5, ← k29]; exact a2.2.1 29 (by decide), by rw [b6, ← k30]; exact a2.2.1 30 (by decide)⟩
      have hcb : cntI md x k < 25 := by
        unfold cntI
        split
        · omega
        · split <;> omega
      by_cases c4 : k = x
      · have c4' : nI k = nI x := by rw [c4]
        rw [if_pos c4']
        have hc0 : cntI md x k = k := by unfold cntI; rw [if_neg (by omega), if_neg (by omega)]
        rw [hc0] at hT hR
        rcases hmd with hm | hm
        · rw [if_pos (by rw [if_pos hm])]
          unfold f_X12_thinkBut_56 f_X12_thinkBut_106
          rw [if_pos c4', if_pos (by rw [if_pos hm]), nI_1]
          have hc1 : cntI md x (k + 1) = k := by unfold cntI; rw [if_pos (by omega)]; omega
          exact ih (k + 1) M1 (by omega) (by omega) f (by rw [hc1]; exact hT) (by rw [hc1]; exact hR)
        · have z : ¬ (if md = 1 then (0 : Int32) else 1) = 0 := by rw [if_neg (by omega)]; decide
          rw [if_neg z]
          obtain ⟨M3, a1, a2, a3, a4, a5, a6, a7⟩ := add12 (N := N) (K := K) hT (by omega) 2 (-1) (-1)
          rw [a1, oB2_p]
          unfold f_X12_thinkBut_56
          rw [if_pos c4', if_neg z]
          refine step (k + 1) M3 (by omega) (f.tr (a2.weak (by decide) (by decide))) a3 (fun i hi => ?_) (a2.2.1 29 (by decide)) (a2.2.1 30 (by decide)) (by omega) ?_ ?_
          · by_cases q : i = k
            · subst q
              unfold isR
              rw [if_pos ⟨hm, c4⟩]
              exact a5
            · exact (hR i (by omega)).eq (a4 i q)
          · unfold srcI
            rw [if_neg (by omega), if_pos (by omega)]
            omega
          · unfold cntI
            rw [if_neg (by omega), if_pos (by omega)]
      · have c4' : ¬ nI k = nI x := by rw [nI_inj (by omega) (by omega)]; exact c4
        rw [if_neg c4']
        unfold f_X12_thinkBut_56
        rw [if_neg c4']
        rcases hmd with hm | hm
        · by_cases q : x < k
          · have h1 : cntI md x k = k - 1 := by unfold cntI; rw [if_pos ⟨hm, q⟩]
            rw [h1] at hT hR
            refine step (k - 1) M1 (by omega) f hT hR rfl rfl (by omega) ?_ ?_
            · unfold srcI; rw [if_pos (by omega)]; omega
            · unfold cntI; rw [if_pos (by omega)]; omega
          · have h1 : cntI md x k = k := by unfold cntI; rw [if_neg (by omega), if_neg (by omega)]
            rw [h1] at hT hR
            refine step k M1 (by omega) f hT hR rfl rfl (by omega) ?_ ?_
            · unfold srcI; rw [if_neg (by omega), if_neg (by omega)]
            · unfold cntI; rw [if_neg (by omega), if_neg (by omega)]
        · by_cases q : x < k
          · have h1 : cntI md x k = k + 1 := by unfold cntI; rw [if_neg (by omega), if_pos ⟨hm, q⟩]
            rw [h1] at hT hR
            refine step (k + 1) M1 (by omega) f hT hR rfl rfl (by omega) ?_ ?_
            · unfold srcI; rw [if_neg (by omega), if_pos (by omega)]; omega
            · unfold cntI; rw [if_neg (by omega), if_pos (by omega)]
          · have h1 : cntI md x k = k := by unfold cntI; rw [if_neg (by omega), if_neg (by omega)]
            rw [h1] at hT hR
            refine step k M1 (by omega) f hT hR rfl rfl (by omega) ?_ ?_
            · unfold srcI; rw [if_neg (by omega), if_neg (by omega)]
            · unfold cntI; rw [if_neg (by omega), if_neg (by omega)]
def laR (M : oM) : Nat → Int
  | 0 => -1
  | i + 1 => if M.1 81 i = 0 then i else laR M i
def cnvE (md x : Nat) (e : Int) : Int := if md = 1 ∧ (x : Int) < e then e - 1 else if md = 2 ∧ (x : Int) ≤ e then e + 1 else e
theorem laR_b (M : oM) : ∀ k : Nat, -1 ≤ laR M k ∧ laR M k < k := by
  intro k
  induction k with
  | zero => simp [laR]
  | succ k ih =>
    rw [laR]
    split <;> omega
theorem laR_ok {M M1 : oM} {l md x : Nat} : ∀ k : Nat, (∀ i, i < cntI md x k → isR M M1 l md x i) → laR M1 (cntI md x k) = cnvE md x (laE M l (if md = 1 then (x : Int) else -1) k) := by
  intro k
  induction k with
  | zero =>
    intro _
    have : cntI md x 0 = 0 := by unfold cntI; rw [if_neg (by omega), if_neg (by omega)]
    rw [this]
    show -1 = cnvE md x (-1)
    unfold cnvE
    rw [if_neg (by omega), if_neg (by omega)]
  | succ k ih =>
    intro hR
    have hb := laE_b M l (if md = 1 then (x : Int) else -1) k
    by_cases c1 : md = 1 ∧ k = x
    · have h1 : cntI md x (k + 1) = cntI md x k := by unfold cntI; rw [if_pos (by omega), if_neg (by omega), if_neg (by omega)]; omega
      rw [h1] at hR ⊢
      rw [ih hR, laE, if_neg (show ¬ (M.1 (oLy l + 1) k = 0 ∧ ¬ (k : Int) = (if md = 1 then (x : Int) else -1)) from fun q => q.2 (by rw [if_pos c1.1]; omega))]
    · have hc : ∃ T, cntI md x (k + 1) = T + 1 ∧ srcI md x T = k ∧ ¬ (md = 2 ∧ T = x) ∧ (T : Int) = cnvE md x k ∧ ((T = cntI md x k) ∨ (md = 2 ∧ k = x ∧ T = k + 1 ∧ cntI md x k = k)) := by
        unfold cntI srcI cnvE
        by_cases q1 : md = 1 ∧ x < k
        · exact ⟨k - 1, by rw [if_pos (by omega)]; omega, by rw [if_pos (by omega)]; omega, by omega, by rw [if_pos (by omega)]; omega, Or.inl (by rw [if_pos q1])⟩
        · by_cases q2 : md = 2 ∧ x < k
          · exact ⟨k + 1, by rw [if_neg (by omega), if_pos (by omega)], by rw [if_neg (by omega), if_pos (by omega)]; omega, by omega, by rw [if_neg (by omega), if_pos (by omega)]; omega, Or.inl (by rw [if_neg q1, if_pos q2])⟩
          · by_cases q3 : md = 2 ∧ x = k
            · exact ⟨k + 1, by rw [if_neg (by omega), if_pos (by omega)], by rw [if_neg (by omega), if_pos (by omega)]; omega, by omega, by rw [if_neg (by omega), if_pos (by omega)]; omega, Or.inr ⟨q3.1, q3.2.symm, rfl, by rw [if_neg (by omega), if_neg (by omega)]⟩⟩
            · exact ⟨k, by rw [if_neg (by omega), if_neg (by omega)], by rw [if_neg (by omega), if_neg (by omega)], by omega, by rw [if_neg (by omega), if_neg (by omega)], Or.inl (by rw [if_neg (by omega), if_neg (by omega)])⟩
      obtain ⟨T, h1, h2, h3, h4, h5⟩ := hc
      rw [h1] at hR ⊢
      have hRT := hR T (by omega)
      unfold isR at hRT
      rw [if_neg h3, h2] at hRT
      have prev : laR M1 T = cnvE md x (laE M l (if md = 1 then (x : Int) else -1) k) := by
        rcases h5 with h5 | ⟨m1, m2, m3, m4⟩
        · rw [h5]
          exact ih (fun i hi => hR i (by omega))
        · have e1 := ih (fun i hi => hR i (by omega))
          rw [m4] at e1
          rw [← e1, m3, laR]
          have hx := hR k (by omega)
          unfold isR at hx
          rw [if_pos ⟨m1, m2⟩] at hx
          rw [if_neg (by rw [hx]; decide)]
      rw [laR, laE, hRT.1, prev]
      by_cases c2 : M.1 (oLy l + 1) k = 0
      · rw [if_pos c2, if_pos (show M.1 (oLy l + 1) k = 0 ∧ ¬ (k : Int) = (if md = 1 then (x : Int) else -1) from ⟨c2, by split <;> omega⟩), h4]
      · rw [if_neg c2, if_neg (show ¬ (M.1 (oLy l + 1) k = 0 ∧ ¬ (k : Int) = (if md = 1 then (x : Int) else -1)) from fun q => c2 q.1)]
theorem set4 {N : Nat} {K : oK} {M : oM} {T : Nat} (hT : M.1 59 31 = nI T) (hT2 : T ≤ 25) : ∀ (n i : Nat), i ≤ T → T < i + n → f_X12_settle_4 N K n (iI (laR M i)) (nI i) M = f_X12_settle_40 N K N (iI (laR M T)) (M.1 59 30) 0 M := by
  intro n
  induction n with
  | zero => intro i h1 h2; omega
  | succ n ih =>
    intro i h1 h2
    have ei : (nI i).toInt = i := nI_toInt (by omega)
    have eT : (nI T).toInt = T := nI_toInt (by omega)
    rw [f_X12_settle_4]
    dsimp only
    rw [hT]
    by_cases c : T ≤ i
    · have : i = T := by omega
      rw [if_pos (by rw [oLeI, ei, eT]; omega), this]
    · rw [if_neg (by rw [oLeI, ei, eT]; omega), oIx_p (by omega) (by omega), nI_n (by omega)]
      unfold f_X12_settle_26
      rw [nI_1, ← ih (i + 1) (by omega) (by omega), laR]
      by_cases c2 : M.1 81 i = 0
      · rw [if_pos c2, if_pos c2, iI_nI]
      · rw [if_neg c2, if_neg c2]
theorem prev_k {M : oM} {l k : Nat} (hy : iLay1 M l) (hk : (k : Int) < (M.1 (oLy l) 7).toInt) (h1 : ¬ M.1 (oLy l + 1) k = 1) : prevP M l (k + 1) = prevP M l k := by
  obtain ⟨-, -, ho⟩ := hy.2.2.2.2 k hk
  unfold prevP
  rw [if_neg (by omega), show k + 1 - 1 = k by omega]
  rcases ho with ⟨q1, q2, q3, q4⟩ | ⟨q1, -⟩ | ⟨q1, q2, q3, q4, q5⟩
  · exact q4
  · exact absurd q1 h1
  · exact q5
theorem laE_n (M : oM) (l x : Nat) : ∀ q : Nat, ¬ laE M l (x : Int) q = x := by
  intro q
  induction q with
  | zero =>
    show ¬ (-1 : Int) = x
    omega
  | succ q ih =>
    rw [laE]
    by_cases c : M.1 (oLy l + 1) q = 0 ∧ ¬ (q : Int) = x
    · rw [if_pos c]; exact c.2
    · rw [if_neg c]; exact ih
theorem set40 {N : Nat} {K : oK} {M : oM} {l md x : Nat} (hg : iGnd M) (hge : iGear M) (hs : iSet M) (hy : iLay1 M l) (hmd : md ≤ 2) (hx : md = 1 ∨ md = 2 → (x : Int) < (M.1 (oLy l) 7).toInt) (hx1 : md = 1 → M.1 (oLy l + 1) x = 0) {T : Nat} (hT : T = cntI md x (M.1 (oLy l) 7).toInt.toNat) :
    ∀ (n i : Nat) (M1 : oM), i ≤ T → T < i + n → fTh M M1 → M1.1 59 31 = nI T → M1.1 59 29 = M.1 (oLy l) 1 → (∀ j, j < T → isR M M1 l md x j) → (∀ j, j < i → isM M1 j (coV M l md x j)) → 
    ∃ M2, f_X12_settle_40 N K n (iI (cnvE md x (laE M l (if md = 1 then (x : Int) else -1) (M.1 (oLy l) 7).toInt.toNat))) (prevP M l (srcI md x i)) (nI i) M1 = some ((), M2) ∧ fTh M M2 ∧ oMr M2 (coV M l md x) T := by
  have h24 := hy.2.2.1.2.2
  have h00 := hy.2.2.1.2.1
  have hTb : T ≤ 25 := by
    rw [hT]
    unfold cntI
    split
    · omega
    · split <;> omega
  intro n
  induction n with
  | zero => intro i M1 h1 h2; omega
  | succ n ih =>
    intro i M1 h1 h2 f h31 h29 hR hM
    have ei : (nI i).toInt = i := nI_toInt (by omega)
    have eT : (nI T).toInt = T := nI_toInt (by omega)
    rw [f_X12_settle_40]
    dsimp only
    rw [h31]
    by_cases c : T ≤ i
    · rw [if_pos (by rw [oLeI, ei, eT]; omega)]
      have : i = T := by omega
      subst this
      exact ⟨M1, rfl, f, h31, hM⟩
    · rw [if_neg (by rw [oLeI, ei, eT]; omega), h29]
      -- one step, with its lines
      have step : ∀ ln : Int32, (¬ (md = 2 ∧ i = x) → ln.toInt = lnC M l md x (srcI md x i)) → ∃ M2, f_X12_settle_79 N K (f_X12_settle_40 N K n) (iI (cnvE md x (laE M l (if md = 1 then (x : Int) else -1) (M.1 (oLy l) 7).toInt.toNat))) (prevP M l (srcI md x i)) (nI i) ln (nI i) M1 = some ((), M2) ∧ fTh M M2 ∧ oMr M2 (coV M l md x) T := by
        intro ln hln
        have hx25 : ∀ A : Option (Unit × oM), oIx (nI i) 25 A = A := fun A => oIx_p (by omega) (by omega)
        unfold f_X12_settle_79 f_X12_settle_158 f_X12_settle_133
        simp only [hx25, nI_n (show i < 2147483648 by omega)]
        generalize hM3 : oUp (oUp M1 84 i ln) 85 i 0 = M3
        have f3 : fTh M M3 := by rw [← hM3]; exact .up (by decide) (.up (by decide) f)
        have a31 : M3.1 59 31 = nI T := by rw [← hM3]; simp [oUp_at, h31]
        have a29 : M3.1 59 29 = M.1 (oLy l) 1 := by rw [← hM3]; simp [oUp_at, h29]
        have a81 : M3.1 81 = M1.1 81 := by rw [← hM3]; unfold oUp; simp
        have a82 : M3.1 82 = M1.1 82 := by rw [← hM3]; unfold oUp; simp
        have a83 : M3.1 83 = M1.1 83 := by rw [← hM3]; unfold oUp; simp
        have a84 : ∀ j, M3.1 84 j = if j = i then ln else M1.1 84 j := fun j => by rw [← hM3]; simp [oUp_at]
        have a85 : ∀ j, M3.1 85 j = if j = i then 0 else M1.1 85 j := fun j => by rw [← hM3]; simp [oUp_at]
        have a66 : M3.1 66 = M1.1 66 := by rw [← hM3]; unfold oUp; simp
        have hRi := hR i (by omega)
        have old : ∀ j, j < i → isM M3 j (coV M l md x j) := by
          intro j hj
          have := hM j hj
          unfold isM at this ⊢
          rw [a81, a82, a83, a84, a85, a66, if_neg (by omega), if_neg (by omega)]
          exact this
        have hR3 : ∀ j, j < T → isR M M3 l md x j := fun j hj => (hR j hj).eq ⟨by rw [a81], by rw [a82], by rw [a83]⟩
        have r64 : M3.1 64 = M.1 64 := f3.1 64 (by decide) (by decide)
        have r65 : M3.1 65 = M.1 65 := f3.1 65 (by decide) (by decide)
        have r66 : M3.1 66 = M.1 66 := f3.1 66 (by decide) (by decide)
        have r60 : M3.1 60 = M.1 60 := f3.1 60 (by decide) (by decide)
        rw [a81]
        by_cases ct : md = 2 ∧ i = x
        · unfold isR at hRi
          rw [if_pos ct] at hRi
          rw [if_neg (by rw [hRi]; decide), nI_1]
          have hs1 : srcI md x (i + 1) = srcI md x i := by
            unfold srcI
            rw [if_neg (by omega), if_pos (by omega), if_neg (by omega), if_neg (by omega)]
            omega
          have := ih (i + 1) M3 (by omega) (by omega) f3 a31 a29 hR3 (fun j hj => by
            by_cases q : j = i
            · subst q
              unfold coV
              rw [if_pos ct]
              exact Or.inr (Or.inr ⟨rfl, by rw [a81]; exact hRi⟩)
            · exact old j (by omega))
          rw [hs1] at this
          exact this
        · unfold isR at hRi
          rw [if_neg ct] at hRi
          obtain ⟨k81, k82, k83⟩ := hRi
          have hln' := hln ct
          have hco : coV M l md x i = paV M l (lnC M l md x (srcI md x i)) (srcI md x i) := by unfold coV; rw [if_neg ct]
          have hkn : (srcI md x i : Int) < (M.1 (oLy l) 7).toInt := by
            rw [hT] at c
            unfold srcI
            unfold cntI at c
            split at c
            · split
              · omega
              · split <;> omega
            · split at c
              · split
                · omega
                · split <;> omega
              · split
                · omega
                · split <;> omega
          have hsn : prevP M l (srcI md x (i + 1)) = prevP M l (srcI md x i + 1) := by
            by_cases q1 : md = 1 ∧ i + 1 = x
            · have e1 : srcI md x (i + 1) = x + 1 := by unfold srcI; rw [if_pos (by omega)]; omega
              have e2 : srcI md x i + 1 = x := by unfold srcI; rw [if_neg (by omega), if_neg (by omega)]; omega
              rw [e1, e2, prev_k hy (hx (Or.inl q1.1)) (by rw [hx1 q1.1]; decide)]
            · have : srcI md x (i + 1) = srcI md x i + 1 := by
                unfold srcI
                by_cases q2 : md = 1 ∧ x ≤ i
                · rw [if_pos (by omega), if_pos q2]
                · rw [if_neg (by omega), if_neg q2]
                  by_cases q3 : md = 2 ∧ x < i
                  · rw [if_pos (by omega), if_pos q3]; omega
                  · rw [if_neg (by omega), if_neg q3]
              rw [this]
          generalize hk : srcI md x i = k at *
          have hok := hy.2.2.2.2 k hkn
          obtain ⟨-, he, ho⟩ := hok
          have hp := pt_k hy (k := k) (by omega)
          have h12 := hg.1.2.2
          rw [k81]
          by_cases c1 : M.1 (oLy l + 1) k = 1
          · rcases ho with ⟨q1, -⟩ | ⟨q1, q2, q3, q4⟩ | ⟨q1, -⟩
            · rw [q1] at c1; exact absurd c1 (by decide)
            · have hw20 := hg.2.1.2.2
              have hwx : ∀ A : Option (Unit × oM), oIx (M.1 (oLy l + 2) k) 20 A = A := fun A => oIx_p q2.1 (by omega)
              have hw := hg.2.2.1 (M.1 (oLy l + 2) k).toInt.toNat (by omega)
              have fin : ∀ s0 : Int32, s0 = M.1 (oLy l + 4) k → ∃ M2, oIx s0 21 (oIx (prevP M l k) 21 (f_X12_settle_40 N K n (iI (cnvE md x (laE M l (if md = 1 then (x : Int) else -1) (M.1 (oLy l) 7).toInt.toNat))) s0 (nI i + 1) (oUp M3 85 i (M3.1 60 s0.toNatClampNeg - M3.1 60 (prevP M l k).toNatClampNeg)))) = some ((), M2) ∧ fTh M M2 ∧ oMr M2 (coV M l md x) T := by
                intro s0 es
                rw [oIx_p (by rw [es]; exact he.1) (by rw [es]; omega), oIx_p hp.1 (by omega), nI_1]
                have z : prevP M l (k + 1) = s0 := by
                  rw [es]
                  unfold prevP
                  rw [if_neg (by omega), show k + 1 - 1 = k by omega]
                have := ih (i + 1) (oUp M3 85 i (M3.1 60 s0.toNatClampNeg - M3.1 60 (prevP M l k).toNatClampNeg)) (by omega) (by omega) (.up (by decide) f3) (by rw [oUp_at, if_neg (by omega)]; exact a31) (by rw [oUp_at, if_neg (by omega)]; exact a29) (fun j hj => (hR3 j hj).eq (by simp [oUp_at])) (fun j hj => by
                  by_cases q : j = i
                  · subst q
                    rw [hco]
                    unfold paV
                    rw [if_neg (by rw [c1]; decide), if_pos c1]
                    refine Or.inr (Or.inl ⟨rfl, ?_, ?_, ?_, ?_, ?_⟩)
                    · rw [oUp_at, if_neg (by omega), a81, k81, c1]
                    · rw [oUp_at, if_neg (by omega), a83, k83]
                      exact oNI (by dsimp only; omega)
                    · rw [oUp_at, if_neg (by omega), a82, k82]
                      refine ⟨q2.1, by omega, ?_⟩
                      rw [oUp_at, if_neg (by omega), r66, hw.2.2]
                    · rw [oUp_at, if_neg (by omega), a84, if_pos rfl]
                      exact hln'
                    · rw [oUp_at, if_pos ⟨rfl, rfl⟩, r60, oTnn, oTnn, es]
                      have v1 := hs.2.2.1 (9 + (M.1 (oLy l + 4) k).toInt.toNat) (by omega)
                      have v2 := hs.2.2.1 (9 + (prevP M l k).toInt.toNat) (by omega)
                      have w1 := hs.2.1 (M.1 (oLy l + 4) k).toInt.toNat (by omega)
                      have w2 := hs.2.1 (prevP M l k).toInt.toNat (by omega)
                      unfold iVal at v1 v2
                      dsimp only
                      unfold htV
                      rw [w1, w2, Nat.add_comm _ 9, Nat.add_comm _ 9]
                      exact oSub (by omega) (by omega)
                  · have := old j (by omega)
                    unfold isM at this ⊢
                    rw [oUp_at, if_neg (by omega), oUp_at, if_neg (by omega), oUp_at, if_neg (by omega), oUp_at, if_neg (by omega), oUp_at, if_neg (by omega), oUp_at, if_neg (by omega)]
                    exact this)
                rw [hsn, z] at this
                exact this
              rw [if_pos c1, a82, k82, hwx, hwx, hwx, r64, r65, oTnn, hw.1, hw.2.1]
              rcases q4 with ⟨g1, g2⟩ | ⟨g1, g2, g3⟩
              · rw [if_pos (show _ = prevP M l k from g1)]
                exact fin _ g2.symm
              · rw [if_neg (show ¬ _ = prevP M l k from g1)]
                exact fin _ g3.symm
            · rw [q1] at c1; exact absurd c1 (by decide)
          · rw [if_neg c1, nI_1]
            have z := prev_k hy hkn c1
            have := ih (i + 1) M3 (by omega) (by omega) f3 a31 a29 hR3 (fun j hj => by
              by_cases q : j = i
              · subst q
                rw [hco]
                unfold paV
                rcases ho with ⟨q1, q2, -⟩ | ⟨q1, -⟩ | ⟨q1, -⟩
                · rw [if_pos q1]
                  refine Or.inl ⟨rfl, by rw [a81, k81, q1], ?_⟩
                  rw [a82, k82]
                  exact oNI (by dsimp only; omega)
                · exact absurd q1 c1
                · rw [if_neg (by rw [q1]; decide), if_neg c1]
                  exact Or.inr (Or.inr ⟨rfl, by rw [a81, k81, q1]⟩)
              · exact old j (by omega))
            rw [hsn, z] at this
            exact this
      -- lines
      have hcn : ¬ (md = 2 ∧ i = x) → ((i : Int) ≤ cnvE md x (laE M l (if md = 1 then (x : Int) else -1) (M.1 (oLy l) 7).toInt.toNat) ↔ (srcI md x i : Int) ≤ laE M l (if md = 1 then (x : Int) else -1) (M.1 (oLy l) 7).toInt.toNat) := by
        intro hne
        have hne2 : md = 1 → ¬ laE M l (if md = 1 then (x : Int) else -1) (M.1 (oLy l) 7).toInt.toNat = x := by
          intro hm
          rw [if_pos hm]
          exact laE_n M l x _
        generalize laE M l (if md = 1 then (x : Int) else -1) (M.1 (oLy l) 7).toInt.toNat = e at hne2 ⊢
        unfold cnvE srcI
        by_cases q1 : md = 1 ∧ x ≤ i
        · rw [if_pos q1]
          have := hne2 q1.1
          split
          · omega
          · split <;> omega
        · rw [if_neg q1]
          by_cases q2 : md = 2 ∧ x < i
          · rw [if_pos q2]
            split
            · omega
            · split <;> omega
          · rw [if_neg q2]
            by_cases q3 : md = 1
            · have := hne2 q3
              split
              · omega
              · split <;> omega
            · split
              · omega
              · split <;> omega
      have hbE := laE_b M l (if md = 1 then (x : Int) else -1) (M.1 (oLy l) 7).toInt.toNat
      have hbC : -1 ≤ cnvE md x (laE M l (if md = 1 then (x : Int) else -1) (M.1 (oLy l) 7).toInt.toNat) ∧ cnvE md x (laE M l (if md = 1 then (x : Int) else -1) (M.1 (oLy l) 7).toInt.toNat) ≤ 25 := by
        generalize laE M l (if md = 1 then (x : Int) else -1) (M.1 (oLy l) 7).toInt.toNat = e at hbE ⊢
        unfold cnvE
        split
        · omega
        · split <;> omega
      have hlC : lnC M l md x (srcI md x i) = lnV M l (if md = 1 then (x : Int) else -1) (srcI md x i) := by unfold lnC; rw [if_neg (by omega)]
      rw [hlC] at step
      unfold lnV at step
      by_cases d2 : M.1 (oLy l) 1 = 2
      · rw [if_pos d2]
        rw [if_pos d2] at step
        exact step 2 (fun _ => rfl)
      · rw [if_neg d2]
        rw [if_neg d2] at step
        by_cases d4 : M.1 (oLy l) 1 = 4
        · rw [if_pos d4]
          rw [if_pos d4] at step
          by_cases d5 : (i : Int) ≤ cnvE md x (laE M l (if md = 1 then (x : Int) else -1) (M.1 (oLy l) 7).toInt.toNat)
          · rw [if_pos (by rw [oLeI, ei, iI_t (by omega) (by omega)]; exact d5)]
            exact step 1 (fun hne => by rw [if_pos ((hcn hne).mp d5)]; rfl)
          · rw [if_neg (by rw [oLeI, ei, iI_t (by omega) (by omega)]; exact d5)]
            exact step 2 (fun hne => by rw [if_neg (fun q => d5 ((hcn hne).mpr q))]; rfl)
        · rw [if_neg d4]
          rw [if_neg d4] at step
          exact step 1 (fun _ => rfl)
