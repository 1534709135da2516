def srcI (md x i : Nat) : Nat := if md = 1 ∧ x ≤ i then i + 1 else if md = 2 ∧ x < i then i - 1 else i
def lnC (M : oM) (l md x k : Nat) : Int := if md = 3 ∧ k = x then 1 else lnV M l (if md = 1 then (x : Int) else -1) k
def coV (M : oM) (l md x i : Nat) : oStp := if md = 2 ∧ i = x then (2, 0, 0, 0, 0) else paV M l (lnC M l md x (srcI md x i)) (srcI md x i)
def cntI (md x k : Nat) : Nat := if md = 1 ∧ x < k then k - 1 else if md = 2 ∧ x < k then k + 1 else k
theorem fr_lay {M M' : oM} {R F : List Nat} {l : Nat} (f : oFr R F M M') (hR : ∀ a ∈ R, a < 101) : M'.1 (oLy l) = M.1 (oLy l) ∧ M'.1 (oLy l + 1) = M.1 (oLy l + 1) ∧ M'.1 (oLy l + 2) = M.1 (oLy l + 2) ∧ M'.1 (oLy l + 3) = M.1 (oLy l + 3) ∧ M'.1 (oLy l + 4) = M.1 (oLy l + 4) := by
  have hb : ∀ a, 101 ≤ a → M'.1 a = M.1 a := fun a ha => f.1 a (by omega) (fun q => by have := hR a q; omega)
  unfold oLy
  exact ⟨hb _ (by omega), hb _ (by omega), hb _ (by omega), hb _ (by omega), hb _ (by omega)⟩
theorem iLay1.same {M M' : oM} {l : Nat} (hy : iLay1 M l) {R F : List Nat} (f : oFr R F M M') (hR : ∀ a ∈ R, a < 101) (hR2 : ∀ a ∈ [6, 7, 8, 11, 73, 74, 75, 76, 77, 78, 79], a ∉ R) : iLay1 M' l := by
  obtain ⟨e0, e1, e2, e3, e4⟩ := fr_lay (l := l) f hR
  have g : ∀ a, a ∈ [6, 7, 8, 11, 73, 74, 75, 76, 77, 78, 79] → a ≠ 59 → M'.1 a = M.1 a := fun a ha h59 => f.1 a h59 (hR2 a ha)
  exact hy.grow e0 e1 e2 e3 e4 (by rw [g 6 (by decide) (by decide)]; omega) (by rw [g 11 (by decide) (by decide)]; omega) (fun k _ => by rw [g 7 (by decide) (by decide), g 8 (by decide) (by decide)]; exact ⟨rfl, rfl⟩) (g 73 (by decide) (by decide)) (g 74 (by decide) (by decide)) (g 75 (by decide) (by decide)) (g 76 (by decide) (by decide)) (g 77 (by decide) (by decide)) (g 78 (by decide) (by decide)) (g 79 (by decide) (by decide))
theorem laE_e {M M' : oM} {l : Nat} (e : M'.1 (oLy l + 1) = M.1 (oLy l + 1)) (but : Int) : ∀ k, laE M' l but k = laE M l but k := by
  intro k
  induction k with
  | zero => rfl
  | succ k ih => rw [laE, laE, ih, e]
theorem lnV_e {M M' : oM} {l : Nat} (e0 : M'.1 (oLy l) = M.1 (oLy l)) (e1 : M'.1 (oLy l + 1) = M.1 (oLy l + 1)) (but : Int) (k : Nat) : lnV M' l but k = lnV M l but k := by
  unfold lnV
  rw [laE_e e1, e0]
theorem paV_e {M M' : oM} {l : Nat} (e0 : M'.1 (oLy l) = M.1 (oLy l)) (e1 : M'.1 (oLy l + 1) = M.1 (oLy l + 1)) (e2 : M'.1 (oLy l + 2) = M.1 (oLy l + 2)) (e3 : M'.1 (oLy l + 3) = M.1 (oLy l + 3)) (e4 : M'.1 (oLy l + 4) = M.1 (oLy l + 4)) (h2 : M'.1 2 = M.1 2) (h9 : M'.1 9 = M.1 9) (ln : Int) (k : Nat) : paV M' l ln k = paV M l ln k := by
  unfold paV prevP htV
  rw [e0, e1, e2, e3, e4, h2, h9]
theorem lnC_b (M : oM) (l md x k : Nat) : lnC M l md x k = 1 ∨ lnC M l md x k = 2 := by
  unfold lnC
  split
  · left; rfl
  · exact lnV_b M l _ k
theorem lay20 {N : Nat} (hN : 100 ≤ N) {K : oK} {M : oM} {l md x : Nat} (hg : iGnd M) (hs : iSet M) (hy : iLay1 M l) (hmd : md ≤ 3) (hx : md = 1 ∨ md = 2 → (x : Int) < (M.1 (oLy l) 7).toInt) (hx2 : x < 100) : ∀ (n k : Nat) (M1 : oM), (k : Int) ≤ (M.1 (oLy l) 7).toInt → (M.1 (oLy l) 7).toInt < k + n → oFr [21, 22, 23, 24, 25, 26, 27] [] M M1 → M1.1 21 8 = nI (cntI md x k) → (∀ i, i < cntI md x k → isC M1 i (coV M l md x i)) →
    ∃ M', f_X2_lay_20 N K n (oLy l) (nI md) (nI x) (if md = 1 then nI x else -1) (nI k) M1 = some ((), M') ∧ oFr [21, 22, 23, 24, 25, 26, 27] [] M M' ∧ M'.1 21 8 = nI (cntI md x (M.1 (oLy l) 7).toInt.toNat) ∧ ∀ i, i < cntI md x (M.1 (oLy l) 7).toInt.toNat → isC M' i (coV M l md x i) := by
  have h24 := hy.2.2.1.2.2
  have h00 := hy.2.2.1.2.1
  intro n
  induction n with
  | zero => intro k M1 h1 h2; omega
  | succ n ih =>
    intro k M1 h1 h2 f hT hC
    have ek : (nI k).toInt = k := nI_toInt (by omega)
    have ex : (nI x).toInt = x := nI_toInt (by omega)
    obtain ⟨e0, e1, e2, e3, e4⟩ := fr_lay (l := l) f (by decide)
    rw [f_X2_lay_20]
    dsimp only
    rw [e0]
    by_cases c : (M.1 (oLy l) 7).toInt ≤ k
    · rw [if_pos (by rw [oLeI, ek]; exact c)]
      have : (M.1 (oLy l) 7).toInt.toNat = k := by omega
      rw [this]
      exact ⟨M1, rfl, f, hT, hC⟩
    · rw [if_neg (by rw [oLeI, ek]; exact c)]
      -- one part more
      have step : ∀ (T : Nat) (M2 : oM), T < 25 → oFr [21, 22, 23, 24, 25, 26, 27] [] M M2 → M2.1 21 8 = nI T → (∀ i, i < T → isC M2 i (coV M l md x i)) → ¬ (md = 1 ∧ k = x) → coV M l md x T = paV M l (lnC M l md x k) k → T + 1 = cntI md x (k + 1) →
          ∃ M', f_X2_lay_60 N K (f_X2_lay_20 N K n) (oLy l) (nI md) (nI x) (if md = 1 then nI x else -1) (nI k) M2 = some ((), M') ∧ oFr [21, 22, 23, 24, 25, 26, 27] [] M M' ∧ M'.1 21 8 = nI (cntI md x (M.1 (oLy l) 7).toInt.toNat) ∧ ∀ i, i < cntI md x (M.1 (oLy l) 7).toInt.toNat → isC M' i (coV M l md x i) := by
        intro T M2 hT2 f2 hT3 hC2 hne hco hcn
        obtain ⟨w0, w1, w2, w3, w4⟩ := fr_lay (l := l) f2 (by decide)
        have hg2 := hg.fr f2 (by decide) (by decide)
        have hs2 := hs.fr f2 (by decide) (by decide)
        have hy2 := hy.same f2 (by decide) (by decide)
        have r2 : M2.1 2 = M.1 2 := f2.1 _ (by decide) (by decide)
        have r9 : M2.1 9 = M.1 9 := f2.1 _ (by decide) (by decide)
        have hadd : ∃ M', f_X2_lay_106 N K (f_X2_lay_20 N K n) (oLy l) (nI md) (nI x) (if md = 1 then nI x else -1) (nI k) (iI (lnC M l md x k)) (nI k) (oLy l) M2 = some ((), M') ∧ oFr [21, 22, 23, 24, 25, 26, 27] [] M M' ∧ M'.1 21 8 = nI (cntI md x (M.1 (oLy l) 7).toInt.toNat) ∧ ∀ i, i < cntI md x (M.1 (oLy l) 7).toInt.toNat → isC M' i (coV M l md x i) := by
          obtain ⟨M3, a1, a2, a3, a4, a5⟩ := add2 (N := N) (K := K) hg2 hs2 hy2 (k := k) (by rw [w0]; omega) hT3 hT2 (lnC_b M l md x k)
          unfold f_X2_lay_106 f_X2_lay_109
          rw [a1, oB2_p, nI_1]
          refine ih (k + 1) M3 (by omega) (by omega) (f2.tr a2) (by rw [a3, hcn]) (fun i hi => ?_)
          by_cases q : i = T
          · rw [q, hco, ← paV_e w0 w1 w2 w3 w4 r2 r9]
            exact a5
          · exact (hC2 i (by omega)).eq (a4 i q)
        have hlin : ∀ M3 : oM, M3 = M2 → ¬ (md = 3 ∧ k = x) → f_X6_lines N K (oLy l) (nI k) (if md = 1 then nI x else -1) M2 = some (iI (lnC M l md x k), M2) := by
          intro M3 _ h3
          rw [lin6 hN (by omega) _ (by rw [w0]; exact h00) (by rw [w0]; exact h24), lnV_e w0 w1]
          unfold lnC
          rw [if_neg h3]
          congr 3
          by_cases q : md = 1
          · rw [if_pos q, if_pos q, ex]
          · rw [if_neg q, if_neg q]
            rfl
        have hbut : ¬ nI k = (if md = 1 then nI x else -1) := by
          by_cases q : md = 1
          · rw [if_pos q, nI_inj (by omega) (by omega)]
            exact fun z => hne ⟨q, z⟩
          · rw [if_neg q, oEqI, ek, tl_m1]
            omega
        unfold f_X2_lay_60
        rw [if_neg hbut]
        by_cases c3 : md = 3
        · have e3 : nI md = 3 := by rw [c3]; rfl
          rw [if_pos e3]
          by_cases c4 : k = x
          · have hl1 : lnC M l md x k = 1 := by unfold lnC; rw [if_pos ⟨c3, c4⟩]
            rw [if_pos (by rw [c4])]
            unfold f_X2_lay_83
            rw [if_neg (by decide)]
            rw [hl1] at hadd
            exact hadd
          · rw [if_neg (by rw [nI_inj (by omega) (by omega)]; exact c4)]
            unfold f_X2_lay_82 f_X2_lay_83
            rw [if_pos rfl, hlin M2 rfl (fun z => c4 z.2), oB2_p]
            exact hadd
        · have e3 : ¬ nI md = 3 := by rw [show (3 : Int32) = nI 3 from rfl, nI_inj (by omega) (by omega)]; exact c3
          rw [if_neg e3]
          unfold f_X2_lay_82 f_X2_lay_83
          rw [if_pos rfl, hlin M2 rfl (fun z => c3 z.1), oB2_p]
          exact hadd
      have hcb : cntI md x k ≤ k + 1 ∧ cntI md x k < 25 := by
        unfold cntI
        split
        · omega
        · split <;> omega
      by_cases c2 : md = 2
      · have e2' : nI md = 2 := by rw [c2]; rfl
        have hxx := hx (Or.inr c2)
        rw [if_pos e2']
        by_cases c4 : k = x
        · have hc0 : cntI md x k = k := by unfold cntI; rw [if_neg (by omega), if_neg (by omega)]
          rw [hc0] at hT hC
          have nk : (nI k).toNatClampNeg = k := nI_n (by omega)
          rw [if_pos (by rw [c4]), hT, oIx_p (by omega) (by omega), nk]
          refine step (k + 1) _ (by omega) (.up (by decide) (.up (by decide) f)) ?_ (fun i hi => ?_) (by omega) ?_ ?_
          · simp [oUp_at, hT, nI_1]
          · by_cases q : i = k
            · subst q
              unfold coV
              rw [if_pos ⟨c2, c4⟩]
              exact Or.inr (Or.inr ⟨rfl, by simp [oUp_at]⟩)
            · refine (hC i (by omega)).eq ?_
              simp [oUp_at, q]
          · unfold coV
            have : srcI md x (k + 1) = k := by unfold srcI; rw [if_neg (by omega), if_pos (by omega)]; omega
            rw [if_neg (by omega), this]
          · unfold cntI
            rw [if_neg (by omega), if_pos (by omega)]
        · rw [if_neg (by rw [nI_inj (by omega) (by omega)]; exact c4)]
          refine step (cntI md x k) M1 hcb.2 f hT hC (by omega) ?_ ?_
          · unfold coV
            have h1 : cntI md x k = if x < k then k + 1 else k := by unfold cntI; rw [if_neg (by omega)]; by_cases q : x < k
                                                                     · rw [if_pos ⟨c2, q⟩, if_pos q]
                                                                     · rw [if_neg (fun z => q z.2), if_neg q]
            have : srcI md x (cntI md x k) = k := by
              rw [h1]
              unfold srcI
              by_cases q : x < k
              · rw [if_pos q, if_neg (by omega), if_pos (by omega)]
                omega
              · rw [if_neg q, if_neg (by omega), if_neg (by omega)]
            rw [this, if_neg]
            rw [h1]
            split <;> omega
          · unfold cntI
            by_cases q : x < k
            · rw [if_neg (by omega), if_pos (by omega), if_neg (by omega), if_pos (by omega)]
            · rw [if_neg (by omega), if_neg (by omega), if_neg (by omega), if_neg (by omega)]
      · have e2' : ¬ nI md = 2 := by rw [show (2 : Int32) = nI 2 from rfl, nI_inj (by omega) (by omega)]; exact c2
        rw [if_neg e2']
        by_cases c5 : md = 1 ∧ k = x
        · unfold f_X2_lay_60 f_X2_lay_109
          rw [if_pos (by rw [if_pos c5.1, c5.2]), nI_1]
          have hc0 : cntI md x (k + 1) = cntI md x k := by unfold cntI; rw [if_pos (by omega), if_neg (by omega), if_neg (by omega)]; omega
          exact ih (k + 1) M1 (by omega) (by omega) f (by rw [hc0]; exact hT) (by rw [hc0]; exact hC)
        · have hc0 : cntI md x (k + 1) = cntI md x k + 1 := by
            unfold cntI
            by_cases q : md = 1 ∧ x < k
            · rw [if_pos (by omega), if_pos q]; omega
            · rw [if_neg (by omega), if_neg (by omega), if_neg q, if_neg (by omega)]
          refine step (cntI md x k) M1 hcb.2 f hT hC c5 ?_ hc0.symm
          unfold coV
          have : srcI md x (cntI md x k) = k := by
            by_cases q : md = 1 ∧ x < k
            · have hz : cntI md x k = k - 1 := by unfold cntI; rw [if_pos q]
              rw [hz]
              unfold srcI
              rw [if_pos (by omega)]
              omega
            · have hz : cntI md x k = k := by unfold cntI; rw [if_neg q, if_neg (by omega)]
              rw [hz]
              unfold srcI
              rw [if_neg (by omega), if_neg (by omega)]
          rw [if_neg (by omega), this]
/-- the course that lies in the class -/
def oCr (M : oM) (c : Nat → oStp) (T : Nat) : Prop := M.1 21 8 = nI T ∧ ∀ i, i < T → isC M i (c i)
theorem lay2 {N : Nat} (hN : 100 ≤ N) {K : oK} {M : oM} {l md x : Nat} (hg : iGnd M) (hs : iSet M) (hy : iLay1 M l) (hmd : md ≤ 3) (hx : md = 1 ∨ md = 2 → (x : Int) < (M.1 (oLy l) 7).toInt) (hx2 : x < 100) :
    ∃ M', f_X2_lay N K (oLy l) (nI md) (nI x) M = some ((), M') ∧ oFr [21, 22, 23, 24, 25, 26, 27] [] M M' ∧ oCr M' (coV M l md x) (cntI md x (M.1 (oLy l) 7).toInt.toNat) := by
  have h24 := hy.2.2.1.2.2
  have h00 := hy.2.2.1.2.1
  have hc0 : cntI md x 0 = 0 := by unfold cntI; rw [if_neg (by omega), if_neg (by omega)]
  obtain ⟨M', a1, a2, a3, a4⟩ := lay20 hN (K := K) hg hs hy hmd hx hx2 N 0 (oUp M 21 8 0) (by omega) (by omega) (.up (by decide) .rf) (by rw [hc0]; simp [oUp_at]; rfl) (fun i hi => by rw [hc0] at hi; omega)
  refine ⟨M', ?_, a2, a3, a4⟩
  unfold f_X2_lay f_X2_lay_10
  by_cases q : md = 1
  · rw [if_pos q] at a1
    rw [if_pos (by rw [q]; rfl)]
    exact a1
  · rw [if_neg q] at a1
    rw [if_neg (by rw [show (1 : Int32) = nI 1 from rfl, nI_inj (by omega) (by omega)]; exact q)]
    exact a1
theorem coV_ok {M : oM} {l md x : Nat} (hg : iGnd M) (hge : iGear M) (hs : iSet M) (hy : iLay1 M l) (hmd : md ≤ 3) (hx : md = 1 ∨ md = 2 → (x : Int) < (M.1 (oLy l) 7).toInt) : ∀ i, i < cntI md x (M.1 (oLy l) 7).toInt.toNat → okS (coV M l md x i) := by
  intro i hi
  unfold coV
  by_cases c : md = 2 ∧ i = x
  · rw [if_pos c]
    exact Or.inr (Or.inr rfl)
  · rw [if_neg c]
    refine paV_ok hg hge hs hy ?_ (lnC_b M l md x _)
    unfold srcI
    unfold cntI at hi
    have h00 := hy.2.2.1.2.1
    split at hi
    · split
      · omega
      · split <;> omega
    · split at hi
      · split
        · omega
        · split <;> omega
      · split
        · omega
        · split <;> omega
/-! water through a laying: the class reckons it -/
theorem half1 {f : Int32} (f0 : 0 ≤ f.toInt) (f1 : f.toInt ≤ 600) : ((f + 1) / 2).toInt = (f.toInt + 1) / 2 := by
  have e : (f + 1).toInt = f.toInt + 1 := add1 (by omega)
  rw [oDiv (by omega) (by rw [tl_2]; omega), e, tl_2]
theorem beh2 {N : Nat} {K : oK} {M : oM} (hg : iGear M) (hs : iSet M) {i : Nat} (hi : i < 25) {s : oStp} (hC : isC M i s) (ho : okS s) {p f : Int32} {P : Int} (hp : p.toInt = P) (b0 : -160000000 ≤ P) (b1 : P ≤ 160000000) (f0 : 0 ≤ f.toInt) (f1 : f.toInt ≤ 600) : f_X2_behind N K (nI i) p f M = some (iI (stV (liftV M) (lossV M) s P f.toInt), M) := by
  have hx : ∀ A : Option (Int32 × oM), oIx (nI i) 25 A = A := fun A => oIx_p (by rw [nI_toInt (by omega)]; omega) (by rw [nI_toInt (by omega)]; omega)
  unfold f_X2_behind f_X2_behind_68 stV
  simp only [hx, nI_n (show i < 2147483648 by omega)]
  rcases hC with ⟨s1, c1, c2⟩ | ⟨s1, c1, c2, c3, c4, c5⟩ | ⟨s1, c1⟩
  · have he : s.2.1 < 6 := by
      rcases ho with ⟨q1, q2⟩ | ⟨q1, q2⟩ | q1
      · exact q2
      · omega
      · omega
    have hb := liftV_b hg (e := s.2.1) he f0 f1
    have en : (nI s.2.1).toInt = s.2.1 := nI_toInt (by omega)
    rw [if_pos c1, c2, lift3 hg (by omega) (by omega) f0 f1, oB2_p, if_pos s1, nI_n (by omega)]
    congr 2
    refine iI_of ?_
    rw [oAdd (by rw [iI_t (by omega) (by omega)]; omega) (by rw [iI_t (by omega) (by omega)]; omega), iI_t (by omega) (by omega), hp]
  · rcases ho with ⟨q1, q2⟩ | ⟨q1, q2, ⟨q3, q4⟩, q5, q6, q7⟩ | q1
    · omega
    · have en : (nI s.2.1).toInt = s.2.1 := nI_toInt (by omega)
      have key : ∀ g : Int32, 0 ≤ g.toInt → g.toInt ≤ 600 → oB2 (f_X3_lost N K (M.1 24 i) g M) (fun v10 M11 => some (((p - ((M.1 25 i) * v10)) - (M11.1 27 i)), M11)) = some (iI (P - s.2.2.1 * lossV M s.2.1 g.toInt - 43 * s.2.2.2.2), M) := by
        intro g g0 g1
        have hb := lossV_b hg hs (b := s.2.1) q2 g0 g1
        rw [c2, lost3 hg hs (by omega) (by omega) g0 g1, oB2_p, nI_n (by omega)]
        congr 2
        refine iI_of ?_
        have ev : (iI (lossV M s.2.1 g.toInt)).toInt = lossV M s.2.1 g.toInt := iI_t (by omega) (by omega)
        have hm := mulB (show 0 ≤ s.2.2.1 by omega) q4 hb.1 hb.2
        have em : (M.1 25 i * iI (lossV M s.2.1 g.toInt)).toInt = s.2.2.1 * lossV M s.2.1 g.toInt := by rw [oMul (by rw [ev, c3]; omega) (by rw [ev, c3]; omega), ev, c3]
        have es : (p - M.1 25 i * iI (lossV M s.2.1 g.toInt)).toInt = P - s.2.2.1 * lossV M s.2.1 g.toInt := by rw [oSub (by rw [em]; omega) (by rw [em]; omega), em, hp]
        rw [oSub (by rw [es]; omega) (by rw [es]; omega), es, c5]
      have z10 : ¬ M.1 22 i = 0 := by rw [c1]; decide
      have n0 : ¬ s.1 = 0 := by omega
      rw [if_neg z10, if_pos c1, if_neg n0, if_pos s1]
      by_cases q : s.2.2.2.1 = 2
      · have e2 : M.1 26 i = 2 := by rw [oEqI, c4, q, tl_2]
        have hh := half1 f0 f1
        rw [if_pos e2, if_pos q, key _ (by omega) (by omega), hh]
      · have e2 : ¬ M.1 26 i = 2 := by rw [oEqI, c4, tl_2]; exact q
        rw [if_neg e2, if_neg q, key _ f0 f1]
    · omega
  · have n0 : ¬ s.1 = 0 := by omega
    have n1 : ¬ s.1 = 1 := by omega
    rw [if_neg (by rw [c1]; decide), if_neg (by rw [c1]; decide), if_neg n0, if_neg n1]
    rfl
theorem prB2 {N : Nat} {K : oK} {M : oM} (hg : iGear M) (hs : iSet M) {c : Nat → oStp} {T : Nat} (hT : T ≤ 25) (hC : oCr M c T) (ho : ∀ i, i < T → okS (c i)) {f : Int32} (f0 : 0 ≤ f.toInt) (f1 : f.toInt ≤ 600) {k : Nat} (hk : k < T) : ∀ (n i : Nat), i ≤ k + 1 → k + 1 < i + n → f_X2_pressureBehind_5 N K n (nI k) f (iI (prV (liftV M) (lossV M) c f.toInt i)) (nI i) M = some (iI (prV (liftV M) (lossV M) c f.toInt (k + 1)), M) := by
  have hb := fun i hi => prV_b (okT_M hg hs) ho f0 f1 i hi
  have ek : (nI k).toInt = k := nI_toInt (by omega)
  have eT : (nI T).toInt = T := nI_toInt (by omega)
  intro n
  induction n with
  | zero => intro i h1 h2; omega
  | succ n ih =>
    intro i h1 h2
    have ei : (nI i).toInt = i := nI_toInt (by omega)
    rw [f_X2_pressureBehind_5]
    dsimp only
    by_cases c1 : k < i
    · have : i = k + 1 := by omega
      rw [if_pos (by rw [oLtI, ek, ei]; omega), this]
    · have b := hb i (by omega)
      rw [if_neg (by rw [oLtI, ek, ei]; omega), hC.1, if_neg (by rw [oLeI, eT, ei]; omega), beh2 hg hs (by omega) (hC.2 i (by omega)) (ho i (by omega)) (iI_t (by omega) (by omega)) (by omega) (by omega) f0 f1, oB2_p, nI_1]
      exact ih (i + 1) (by omega) (by omega)
/-- what the judging answers -/
noncomputable def jdV (P : Nat → Prop) (T : Nat) (need e : Int) : Int := if 0 ≤ fstI P T then fstI P T else if need ≤ e then -2 else 100
theorem jud2 {N : Nat} {K : oK} {M : oM} (hg : iGear M) (hs : iSet M) {c : Nat → oStp} {T : Nat} (hT : T ≤ 25) (hC : oCr M c T) (ho : ∀ i, i < T → okS (c i)) {f need fl : Int32} (f0 : 0 ≤ f.toInt) (f1 : f.toInt ≤ 600) {P : Nat → Prop} (hP : (fl = 0 ∧ P = bad0 (liftV M) (lossV M) c f.toInt) ∨ (fl = 1 ∧ P = bad1 (liftV M) (lossV M) (fun b => (M.1 2 b).toInt) c f.toInt)) : ∀ (n i : Nat), i ≤ T → T < i + n → (∀ j, j < i → ¬ P j) → f_X2_judged_6 N K n f need fl (iI (prV (liftV M) (lossV M) c f.toInt i)) (nI i) M = some (iI (jdV P T need.toInt (prV (liftV M) (lossV M) c f.toInt T)), M) := by
  have hb := fun i hi => prV_b (okT_M hg hs) ho f0 f1 i hi
  have eT : (nI T).toInt = T := nI_toInt (by omega)
  intro n
  induction n with
  | zero => intro i h1 h2; omega
  | succ n ih =>
    intro i h1 h2 hn
    have ei : (nI i).toInt = i := nI_toInt (by omega)
    have b := hb i h1
    have eb : (iI (prV (liftV M) (lossV M) c f.toInt i)).toInt = prV (liftV M) (lossV M) c f.toInt i := iI_t (by omega) (by omega)
    rw [f_X2_judged_6]
    dsimp only
    rw [hC.1]
    by_cases c1 : T ≤ i
    · have : i = T := by omega
      subst this
      rw [if_pos (by rw [oLeI, eT]; omega)]
      unfold jdV
      rw [fstI_n hn, if_neg (show ¬ (0 : Int) ≤ -1 by omega)]
      by_cases c2 : need.toInt ≤ prV (liftV M) (lossV M) c f.toInt i
      · rw [if_pos (by rw [oLeI, eb]; exact c2), if_pos c2]
        rfl
      · rw [if_neg (by rw [oLeI, eb]; exact c2), if_neg c2]
        rfl
    · have hiT : i < T := by omega
      have b2 := hb (i + 1) (by omega)
      have eb2 : (iI (prV (liftV M) (lossV M) c f.toInt (i + 1))).toInt = prV (liftV M) (lossV M) c f.toInt (i + 1) := iI_t (by omega) (by omega)
      rw [if_neg (by rw [oLeI, eT, ei]; omega), beh2 hg hs (by omega) (hC.2 i hiT) (ho i hiT) eb (by omega) (by omega) f0 f1, oB2_p, oIx_p (by omega) (by omega), nI_n (by omega)]
      have hpr : stV (liftV M) (lossV M) (c i) (prV (liftV M) (lossV M) c f.toInt i) f.toInt = prV (liftV M) (lossV M) c f.toInt (i + 1) := rfl
      rw [hpr]
      have go : ¬ P i → f_X2_judged_81 N K (f_X2_judged_6 N K n) f need fl (nI i) (iI (prV (liftV M) (lossV M) c f.toInt (i + 1))) M = some (iI (jdV P T need.toInt (prV (liftV M) (lossV M) c f.toInt T)), M) := by
        intro hp
        unfold f_X2_judged_81
        rw [nI_1]
        refine ih (i + 1) (by omega) (by omega) (fun j hj => ?_)
        by_cases q : j = i
        · rw [q]; exact hp
        · exact hn j (by omega)
      have stop : P i → some (nI i, M) = some (iI (jdV P T need.toInt (prV (liftV M) (lossV M) c f.toInt T)), M) := by
        intro hp
        unfold jdV
        rw [fstI_u hiT hp hn, if_pos (by omega)]
        rfl
      by_cases cw : (c i).1 = 1
      · have hw : M.1 22 i = 1 ∧ M.1 24 i = nI (c i).2.1 ∧ (c i).2.1 < 3 := by
          rcases hC.2 i hiT with ⟨s1, -⟩ | ⟨s1, c1, c2, -⟩ | ⟨s1, -⟩
          · omega
          · rcases ho i hiT with ⟨q1, -⟩ | ⟨q1, q2, -⟩ | q1
            · omega
            · exact ⟨c1, c2, q2⟩
            · omega
          · omega
        rw [if_pos hw.1]
        rcases hP with ⟨h0, hP⟩ | ⟨h0, hP⟩
        · rw [if_pos h0]
          exact go (by rw [hP]; exact fun q => q.1 cw)
        · have en : (nI (c i).2.1).toInt = (c i).2.1 := nI_toInt (by omega)
          have e0 : (0 + nI (c i).2.1) = nI (c i).2.1 := Int32.zero_add _
          rw [if_neg (by rw [h0]; decide), hw.2.1, e0, oIx_p (by omega) (by omega), at8v (by omega) (by omega), oB2_p, en]
          have hPi : P i ↔ ((M.1 2 (c i).2.1).toInt < prV (liftV M) (lossV M) c f.toInt i ∨ (M.1 2 (c i).2.1).toInt < prV (liftV M) (lossV M) c f.toInt (i + 1)) := by
            rw [hP]
            unfold bad1 bad0
            constructor
            · rintro (q | q)
              · exact absurd cw q.1
              · exact q.2
            · exact fun q => Or.inr ⟨cw, q⟩
          have e3 : ((c i).2.1 : Int).toNat = (c i).2.1 := by omega
          rw [e3]
          by_cases c3 : P i
          · rw [if_neg, stop c3]
            rw [oLeI]
            rw [hPi] at c3
            split
            · rw [eb2]; rename_i q; rw [oLtI, eb, eb2] at q; omega
            · rw [eb]; rename_i q; rw [oLtI, eb, eb2] at q; omega
          · rw [if_pos, go c3]
            rw [oLeI]
            rw [hPi] at c3
            split
            · rw [eb2]; omega
            · rw [eb]; omega
      · have hw : ¬ M.1 22 i = 1 := by
          rcases hC.2 i hiT with ⟨s1, c1, -⟩ | ⟨s1, -⟩ | ⟨s1, c1⟩
          · rw [c1]; decide
          · omega
          · rw [c1]; decide
        have hPi : P i ↔ prV (liftV M) (lossV M) c f.toInt i < 0 := by
          rcases hP with ⟨h0, hP⟩ | ⟨h0, hP⟩
          · rw [hP]
            exact ⟨fun q => q.2, fun q => ⟨cw, q⟩⟩
          · rw [hP]
            constructor
            · rintro (q | q)
              · exact q.2
              · exact absurd q.1 cw
            · exact fun q => Or.inl ⟨cw, q⟩
        rw [if_neg hw]
        by_cases c3 : P i
        · rw [if_neg (by rw [oLeI, tl_0, eb]; rw [hPi] at c3; omega)]
          exact stop c3
        · rw [if_pos (by rw [oLeI, tl_0, eb]; rw [hPi] at c3; omega)]
          exact go c3
theorem jud2' {N : Nat} (hN : 100 ≤ N) {K : oK} {M : oM} (hg : iGear M) (hs : iSet M) {c : Nat → oStp} {T : Nat} (hT : T ≤ 25) (hC : oCr M c T) (ho : ∀ i, i < T → okS (c i)) {f need fl : Int32} (f0 : 0 ≤ f.toInt) (f1 : f.toInt ≤ 600) {P : Nat → Prop} (hP : (fl = 0 ∧ P = bad0 (liftV M) (lossV M) c f.toInt) ∨ (fl = 1 ∧ P = bad1 (liftV M) (lossV M) (fun b => (M.1 2 b).toInt) c f.toInt)) : f_X2_judged N K f need fl M = some (iI (jdV P T need.toInt (prV (liftV M) (lossV M) c f.toInt T)), M) :=
  jud2 hg hs hT hC ho f0 f1 hP N 0 (by omega) (by omega) (fun j hj => by omega)
theorem jdV_ok {P : Nat → Prop} {T : Nat} (hT : T ≤ 25) {need e : Int} : jdV P T need e = -2 ↔ ((∀ i, i < T → ¬ P i) ∧ need ≤ e) := by
  unfold jdV
  rcases fstI_c P T with ⟨h1, h2⟩ | ⟨h1, h2, h3, h4⟩
  · rw [if_neg (by omega)]
    split
    · exact ⟨fun _ => ⟨h2, by omega⟩, fun _ => rfl⟩
    · exact ⟨fun q => by omega, fun q => by omega⟩
  · rw [if_pos h1]
    exact ⟨fun q => by omega, fun q => absurd h3 (q.1 _ (by omega))⟩
theorem jdV_r {P : Nat → Prop} {T : Nat} (hT : T ≤ 25) {need e : Int} : -2 ≤ jdV P T need e ∧ jdV P T need e ≤ 100 := by
  unfold jdV
  rcases fstI_c P T with ⟨h1, h2⟩ | ⟨h1, h2, h3, h4⟩
  · rw [if_neg (by omega)]
    split <;> omega
  · rw [if_pos h1]
    omega
theorem gre2 {N : Nat} (hN : 100 ≤ N) {K : oK} {M : oM} (hg : iGear M) (hs : iSet M) {c : Nat → oStp} {T : Nat} (hT : T ≤ 25) (hC : oCr M c T) (ho : ∀ i, i < T → okS (c i)) {need : Int32} : ∀ (n t : Nat) (a b : Int32), t ≤ 10 → 10 < t + n → -1 ≤ a.toInt → a.toInt ≤ b.toInt → b.toInt ≤ 600 → b.toInt - a.toInt < 2 ^ (10 - t) → (a.toInt = -1 ∨ okF (liftV M) (lossV M) c T need.toInt a.toInt) → (∀ f, b.toInt < f → f ≤ 600 → ¬ okF (liftV M) (lossV M) c T need.toInt f) →
    ∃ g, f_X2_greatest_9 N K n need a b (nI t) M = some (iI g, M) ∧ isGr (okF (liftV M) (lossV M) c T need.toInt) g := by
  intro n
  induction n with
  | zero => intro t a b h1 h2; omega
  | succ n ih =>
    intro t a b h1 h2 ha hab hb hd h3 h4
    have et : (nI t).toInt = t := nI_toInt (by omega)
    have fin : a.toInt = b.toInt → ∃ g, f_X2_greatest_60 N K a M = some (iI g, M) ∧ isGr (okF (liftV M) (lossV M) c T need.toInt) g := by
      intro e
      unfold f_X2_greatest_60
      by_cases q : 0 ≤ a.toInt
      · rw [if_pos (by rw [oLeI, tl_0]; exact q)]
        refine ⟨a.toInt, by rw [← iI_of rfl], Or.inr ⟨⟨q, by omega⟩, ?_, fun f q1 q2 => h4 f (by omega) q2⟩⟩
        rcases h3 with h3 | h3
        · omega
        · exact h3
      · rw [if_neg (by rw [oLeI, tl_0]; exact q)]
        exact ⟨-2, rfl, Or.inl ⟨rfl, fun f q1 q2 => h4 f (by omega) q2⟩⟩
    rw [f_X2_greatest_9]
    dsimp only
    by_cases c1 : 10 ≤ t
    · rw [if_pos (by rw [oLeI, et, tl_10]; omega)]
      have : t = 10 := by omega
      rw [this] at hd
      exact fin (by omega)
    · rw [if_neg (by rw [oLeI, et, tl_10]; omega)]
      by_cases c2 : b.toInt ≤ a.toInt
      · rw [if_pos (by rw [oLeI]; exact c2)]
        exact fin (by omega)
      · rw [if_neg (by rw [oLeI]; exact c2)]
        have e1 : (a + b).toInt = a.toInt + b.toInt := oAdd (by omega) (by omega)
        have e2 : (a + b + 1).toInt = a.toInt + b.toInt + 1 := by rw [add1 (by omega), e1]
        have e3 : ((a + b + 1) / 2).toInt = (a.toInt + b.toInt + 1) / 2 := by rw [oDiv (by omega) (by rw [tl_2]; omega), e2, tl_2]
        have hpow : (2 : Int) ^ (10 - t) = 2 * 2 ^ (10 - (t + 1)) := by
          rw [show 10 - t = (10 - (t + 1)) + 1 by omega, Int.pow_succ]
          omega
        generalize hm : (a + b + 1) / 2 = m at *
        rw [jud2' hN hg hs hT hC ho (by omega) (by omega) (Or.inl ⟨rfl, rfl⟩), oB2_p]
        unfold f_X2_greatest_54
        rw [nI_1]
        have hr := jdV_r (P := bad0 (liftV M) (lossV M) c m.toInt) hT (need := need.toInt) (e := prV (liftV M) (lossV M) c m.toInt T)
        have hj := jdV_ok (P := bad0 (liftV M) (lossV M) c m.toInt) hT (need := need.toInt) (e := prV (liftV M) (lossV M) c m.toInt T)
        by_cases c3 : jdV (bad0 (liftV M) (lossV M) c m.toInt) T need.toInt (prV (liftV M) (lossV M) c m.toInt T) = -2
        · rw [if_pos (by rw [c3]; rfl)]
          exact ih (t + 1) m b (by omega) (by omega) (by omega) (by omega) hb (by omega) (Or.inr (hj.mp c3)) h4
        · rw [if_neg (by rw [oEqI, iI_t (by omega) (by omega), tl_m2]; exact c3)]
          have e4 : (m - 1).toInt = m.toInt - 1 := sub1 (by omega)
          refine ih (t + 1) a (m - 1) (by omega) (by omega) ha (by omega) (by omega) (by omega) h3 (fun f q1 q2 q3 => ?_)
          have := okF_m (okT_M hg hs) ho (f := m.toInt) (f' := f) (by omega) (by omega) q2 q3
          exact c3 (hj.mpr this)
theorem gre2' {N : Nat} (hN : 100 ≤ N) {K : oK} {M : oM} (hg : iGear M) (hs : iSet M) {c : Nat → oStp} {T : Nat} (hT : T ≤ 25) (hC : oCr M c T) (ho : ∀ i, i < T → okS (c i)) {need : Int32} : ∃ g, f_X2_greatest N K need M = some (iI g, M) ∧ isGr (okF (liftV M) (lossV M) c T need.toInt) g :=
  gre2 hN hg hs hT hC ho N 0 (-1) 600 (by omega) (by omega) (by decide) (by decide) (by decide) (by decide) (Or.inl rfl) (fun f q1 q2 => by rw [tl_600] at q1; omega)
