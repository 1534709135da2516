/-! the most: the sums of the other half -/
abbrev fSu (M M' : oM) : Prop := oFr [87, 88, 89] [44, 45] M M'
def mHasK (M M1 : oM) (l k : Nat) : Prop := (M1.1 59 44 = nI (wnM (M.1 (oLy l + 1)) k) ∧ M1.1 59 45 = nI (enM (M.1 (oLy l + 1)) k)) ∧ (∀ w, w < wnM (M.1 (oLy l + 1)) k → M1.1 87 w = M.1 (oLy l + 2) (wpM (M.1 (oLy l + 1)) k w)) ∧ (∀ w, w < 7 → M1.1 88 w = nI (tbM (M.1 (oLy l + 1)) k w)) ∧ ∀ e, e < enM (M.1 (oLy l + 1)) k → M1.1 89 e = M.1 (oLy l + 2) (epM (M.1 (oLy l + 1)) k e)
theorem su36 {N : Nat} {K : oK} {M : oM} {l : Nat} (hl : l < 20) (hy : iLay1 M l) : ∀ (n k : Nat) (M1 : oM), (k : Int) ≤ (M.1 (oLy l) 7).toInt → (M.1 (oLy l) 7).toInt < k + n → fSu M M1 → mHasK M M1 l k → wnM (M.1 (oLy l + 1)) k ≤ 6 → enM (M.1 (oLy l + 1)) k ≤ 4 →
    ∃ b M2, f_X12_sums_36 N K n (nI l) (nI (24 * l + k)) M1 = some (b, M2) ∧ fSu M M2 ∧ (b = true ↔ wnM (M.1 (oLy l + 1)) (M.1 (oLy l) 7).toInt.toNat ≤ 6 ∧ enM (M.1 (oLy l + 1)) (M.1 (oLy l) 7).toInt.toNat ≤ 4) ∧ (b = true → mHasK M M2 l (M.1 (oLy l) 7).toInt.toNat) := by
  have h24 := hy.2.2.1.2
  have el : (nI l).toInt = l := nI_toInt (by omega)
  intro n
  induction n with
  | zero => intro k M1 h1 h2; omega
  | succ n ih =>
    intro k M1 h1 h2 F hS hw he
    have ek : (nI (24 * l + k)).toInt = ((24 * l + k : Nat) : Int) := nI_toInt (by omega)
    have e24 : ((24 : Int32) * nI l).toInt = 24 * (l : Int) := by rw [oMul (by rw [tl_24, el]; omega) (by rw [tl_24, el]; omega), tl_24, el]
    have e76 : M1.1 76 l = M.1 (oLy l) 7 := by rw [F.1 76 (by decide) (by decide)]; exact hy.2.2.1.1
    have es : ((24 : Int32) * nI l + M.1 (oLy l) 7).toInt = 24 * (l : Int) + (M.1 (oLy l) 7).toInt := by rw [oAdd (by omega) (by omega), e24]
    obtain ⟨s1, s2, s3, s4⟩ := id hS
    rw [f_X12_sums_36]
    dsimp only
    rw [oIx_p (by omega) (by omega), nI_n (by omega), e76]
    by_cases c : (k : Int) = (M.1 (oLy l) 7).toInt
    · rw [if_pos (by rw [oLeI, es, ek]; omega)]
      have ek2 : k = (M.1 (oLy l) 7).toInt.toNat := by omega
      rw [← ek2]
      exact ⟨true, M1, rfl, F, ⟨fun _ => ⟨hw, he⟩, fun _ => rfl⟩, fun _ => hS⟩
    · have hx : ∀ A : Option (Bool × oM), oIx (nI (24 * l + k)) 480 A = A := fun A => oIx_p (by omega) (by omega)
      obtain ⟨⟨e77, e78, -⟩, -, ho⟩ := hy.2.2.2.2 k (by omega)
      have f77 : M1.1 77 (24 * l + k) = M.1 (oLy l + 1) k := by rw [F.1 77 (by decide) (by decide)]; exact e77
      have f78 : M1.1 78 (24 * l + k) = M.1 (oLy l + 2) k := by rw [F.1 78 (by decide) (by decide)]; exact e78
      have ew : (nI (wnM (M.1 (oLy l + 1)) k)).toInt = wnM (M.1 (oLy l + 1)) k := nI_toInt (by omega)
      have ee : (nI (enM (M.1 (oLy l + 1)) k)).toInt = enM (M.1 (oLy l + 1)) k := nI_toInt (by omega)
      have stop : ¬ (wnM (M.1 (oLy l + 1)) (k + 1) ≤ 6 ∧ enM (M.1 (oLy l + 1)) (k + 1) ≤ 4) → ∃ b M2, (some (false, M1) : Option (Bool × oM)) = some (b, M2) ∧ fSu M M2 ∧ (b = true ↔ wnM (M.1 (oLy l + 1)) (M.1 (oLy l) 7).toInt.toNat ≤ 6 ∧ enM (M.1 (oLy l + 1)) (M.1 (oLy l) 7).toInt.toNat ≤ 4) ∧ (b = true → mHasK M M2 l (M.1 (oLy l) 7).toInt.toNat) := by
        intro hno
        refine ⟨false, M1, rfl, F, ⟨fun z => absurd z (by decide), fun z => absurd ?_ hno⟩, fun z => absurd z (by decide)⟩
        have m := wn_m (M.1 (oLy l + 1)) (k + 1) ((M.1 (oLy l) 7).toInt.toNat - (k + 1))
        rw [show k + 1 + ((M.1 (oLy l) 7).toInt.toNat - (k + 1)) = (M.1 (oLy l) 7).toInt.toNat by omega] at m
        exact ⟨by omega, by omega⟩
      have nx : nI (24 * l + k) + 1 = nI (24 * l + (k + 1)) := by rw [nI_1]; rfl
      have z10 : ¬ (1 : Int32) = 0 := by decide
      have z01 : ¬ (0 : Int32) = 1 := by decide
      have z20 : ¬ (2 : Int32) = 0 := by decide
      have z21 : ¬ (2 : Int32) = 1 := by decide
      have s44 := s1.1
      have s45 := s1.2
      rw [if_neg (by rw [oLeI, es, ek]; omega)]
      unfold f_X12_sums_70 f_X12_sums_89 f_X12_sums_177
      simp only [hx, nI_n (show 24 * l + k < 2147483648 by omega), f77, f78, s44, s45, nx]
      rcases ho with ⟨q1, -⟩ | ⟨q1, -⟩ | ⟨q1, -⟩
      · have e1 : wnM (M.1 (oLy l + 1)) (k + 1) = wnM (M.1 (oLy l + 1)) k := by rw [wnM, if_neg (by rw [q1]; decide)]
        have e2 : enM (M.1 (oLy l + 1)) (k + 1) = enM (M.1 (oLy l + 1)) k + 1 := by rw [enM, if_pos q1]
        simp only [q1, if_neg z01, if_true]
        by_cases d : enM (M.1 (oLy l + 1)) k = 4
        · rw [if_pos (by rw [d]; rfl)]
          exact stop (by omega)
        · rw [if_neg (by rw [oEqI, ee, tl_4]; omega), oIx_p (by omega) (by omega), nI_n (by omega), oUp_at, if_neg (by omega), s45, nI_1]
          refine ih (k + 1) _ (by omega) (by omega) (.up59 (by decide) (.up (by decide) F)) ⟨⟨?_, ?_⟩, fun w hw' => ?_, fun w hw' => ?_, fun e he' => ?_⟩ (by omega) (by omega)
          · rw [oUp_at, if_neg (by omega), oUp_at, if_neg (by omega), e1]
            exact s44
          · rw [oUp_at, if_pos ⟨rfl, rfl⟩, e2]
          · rw [e1] at hw'
            rw [oUp_ro _ _ _ _ (show (87 : Nat) ≠ 59 by decide), oUp_ro _ _ _ _ (show (87 : Nat) ≠ 89 by decide), wpM, if_neg (fun z => by rw [q1] at z; exact absurd z.1 (by decide))]
            exact s2 w hw'
          · rw [oUp_ro _ _ _ _ (show (88 : Nat) ≠ 59 by decide), oUp_ro _ _ _ _ (show (88 : Nat) ≠ 89 by decide), tb_s (fun z => z.1.1 q1)]
            exact s3 w hw'
          · rw [e2] at he'
            rw [oUp_ro _ _ _ _ (show (89 : Nat) ≠ 59 by decide), oUp_at, epM]
            by_cases z : e = enM (M.1 (oLy l + 1)) k
            · rw [if_pos ⟨rfl, z⟩, if_pos ⟨q1, z⟩]
            · rw [if_neg (fun y => z y.2), if_neg (fun y => z y.2)]
              exact s4 e (by omega)
      · have e1 : wnM (M.1 (oLy l + 1)) (k + 1) = wnM (M.1 (oLy l + 1)) k + 1 := by rw [wnM, if_pos q1]
        have e2 : enM (M.1 (oLy l + 1)) (k + 1) = enM (M.1 (oLy l + 1)) k := by rw [enM, if_neg (by rw [q1]; decide)]
        simp only [q1, if_neg z10, if_true]
        by_cases d : wnM (M.1 (oLy l + 1)) k = 6
        · rw [if_pos (by rw [d]; rfl)]
          exact stop (by omega)
        · rw [if_neg (by rw [oEqI, ew, tl_6]; omega), oIx_p (by omega) (by omega), nI_n (by omega), oUp_at, if_neg (by omega), s44, nI_1]
          refine ih (k + 1) _ (by omega) (by omega) (.up59 (by decide) (.up (by decide) F)) ⟨⟨?_, ?_⟩, fun w hw' => ?_, fun w hw' => ?_, fun e he' => ?_⟩ (by omega) (by omega)
          · rw [oUp_at, if_pos ⟨rfl, rfl⟩, e1]
          · rw [oUp_at, if_neg (by omega), oUp_at, if_neg (by omega), e2]
            exact s45
          · rw [e1] at hw'
            rw [oUp_ro _ _ _ _ (show (87 : Nat) ≠ 59 by decide), oUp_at, wpM]
            by_cases z : w = wnM (M.1 (oLy l + 1)) k
            · rw [if_pos ⟨rfl, z⟩, if_pos ⟨q1, z⟩]
            · rw [if_neg (fun y => z y.2), if_neg (fun y => z y.2)]
              exact s2 w (by omega)
          · rw [oUp_ro _ _ _ _ (show (88 : Nat) ≠ 59 by decide), oUp_ro _ _ _ _ (show (88 : Nat) ≠ 87 by decide), tb_s (fun z => z.1.2 q1)]
            exact s3 w hw'
          · rw [e2] at he'
            rw [oUp_ro _ _ _ _ (show (89 : Nat) ≠ 59 by decide), oUp_ro _ _ _ _ (show (89 : Nat) ≠ 87 by decide), epM, if_neg (fun z => by rw [q1] at z; exact absurd z.1 (by decide))]
            exact s4 e he'
      · have e1 : wnM (M.1 (oLy l + 1)) (k + 1) = wnM (M.1 (oLy l + 1)) k := by rw [wnM, if_neg (by rw [q1]; decide)]
        have e2 : enM (M.1 (oLy l + 1)) (k + 1) = enM (M.1 (oLy l + 1)) k := by rw [enM, if_neg (by rw [q1]; decide)]
        simp only [q1, if_neg z20, if_neg z21]
        rw [oIx_p (by omega) (by omega), oIx_p (by omega) (by omega), nI_n (by omega), s3 _ (by omega), nI_1]
        refine ih (k + 1) _ (by omega) (by omega) (.up (by decide) F) ⟨⟨?_, ?_⟩, fun w hw' => ?_, fun w hw' => ?_, fun e he' => ?_⟩ (by omega) (by omega)
        · rw [oUp_at, if_neg (by omega), e1]
          exact s44
        · rw [oUp_at, if_neg (by omega), e2]
          exact s45
        · rw [e1] at hw'
          rw [oUp_ro _ _ _ _ (show (87 : Nat) ≠ 88 by decide), wpM, if_neg (fun z => by rw [q1] at z; exact absurd z.1 (by decide))]
          exact s2 w hw'
        · rw [oUp_at]
          by_cases z : w = wnM (M.1 (oLy l + 1)) k
          · rw [if_pos ⟨rfl, z⟩, tb_p ⟨⟨by rw [q1]; decide, by rw [q1]; decide⟩, z⟩, z]
          · rw [if_neg (fun y => z y.2), tb_s (fun y => z y.2)]
            exact s3 w hw'
        · rw [e2] at he'
          rw [oUp_ro _ _ _ _ (show (89 : Nat) ≠ 88 by decide), epM, if_neg (fun z => by rw [q1] at z; exact absurd z.1 (by decide))]
          exact s4 e he'
theorem sums12 {N : Nat} (hN : 100 ≤ N) {K : oK} {M : oM} {l : Nat} (hl : l < 20) (hy : iLay1 M l) : ∃ b M2, f_X12_sums N K (nI l) M = some (b, M2) ∧ fSu M M2 ∧ (b = true ↔ wnM (M.1 (oLy l + 1)) (M.1 (oLy l) 7).toInt.toNat ≤ 6 ∧ enM (M.1 (oLy l + 1)) (M.1 (oLy l) 7).toInt.toNat ≤ 4) ∧ (b = true → mHasK M M2 l (M.1 (oLy l) 7).toInt.toNat) := by
  have h24 := hy.2.2.1.2
  have el : (nI l).toInt = l := nI_toInt (by omega)
  have e24 : (24 : Int32) * nI l = nI (24 * l + 0) := oNI (by rw [oMul (by rw [tl_24, el]; omega) (by rw [tl_24, el]; omega), tl_24, el]; omega)
  have loop : ∀ (n j : Nat) (M1 : oM), j ≤ 7 → 7 < j + n → fSu M M1 → (M1.1 59 44 = 0 ∧ M1.1 59 45 = 0) → (∀ w, w < j → M1.1 88 w = 0) → ∃ M2, f_X12_sums_12 N K n (nI l) (nI j) M1 = f_X12_sums_36 N K N (nI l) (nI (24 * l + 0)) M2 ∧ fSu M M2 ∧ (M2.1 59 44 = 0 ∧ M2.1 59 45 = 0) ∧ ∀ w, w < 7 → M2.1 88 w = 0 := by
    intro n
    induction n with
    | zero => intro j M1 h1 h2; omega
    | succ n ih =>
      intro j M1 h1 h2 F hz hw
      have ej : (nI j).toInt = j := nI_toInt (by omega)
      rw [f_X12_sums_12]
      dsimp only
      by_cases c : j = 7
      · subst c
        rw [if_pos (by decide), e24]
        exact ⟨M1, rfl, F, hz, hw⟩
      · rw [if_neg (by rw [oLeI, ej, tl_7]; omega), oIx_p (by omega) (by omega), nI_n (by omega), nI_1]
        refine ih (j + 1) _ (by omega) (by omega) (.up (by decide) F) ⟨by rw [oUp_at, if_neg (by omega)]; exact hz.1, by rw [oUp_at, if_neg (by omega)]; exact hz.2⟩ (fun w hw' => ?_)
        rw [oUp_at]
        by_cases z : w = j
        · rw [if_pos ⟨rfl, z⟩]
        · rw [if_neg (fun y => z y.2)]
          exact hw w (by omega)
  obtain ⟨M1, a1, a2, a3, a4⟩ := loop N 0 (oUp (oUp M 59 44 0) 59 45 0) (by omega) (by omega) (.up59 (by decide) (.up59 (by decide) .rf)) ⟨by rw [oUp_at, if_neg (by omega), oUp_at, if_pos ⟨rfl, rfl⟩], by rw [oUp_at, if_pos ⟨rfl, rfl⟩]⟩ (fun w hw => by omega)
  have a1' : f_X12_sums N K (nI l) M = f_X12_sums_36 N K N (nI l) (nI (24 * l + 0)) M1 := a1
  rw [a1']
  exact su36 hl hy N 0 M1 (by omega) (by omega) a2 ⟨a3, fun w hw => absurd hw (Nat.not_lt_zero _), fun w hw => a4 w hw, fun e he => absurd he (Nat.not_lt_zero _)⟩ (Nat.zero_le _) (Nat.zero_le _)
