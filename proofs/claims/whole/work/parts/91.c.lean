def newM (M : oM) (l c : Nat) (s n b e : Int32) : oM :=
  if s = 1 then oUp (oUp (oUp (oUp (oUp M 77 (24 * l + c) s) 78 (24 * l + c) (if s = 2 then -1 else n)) 79 (24 * l + c) (if s = 1 then b else -1)) 76 l (nI (c + 1))) 75 l e
  else if s = 0 then oUp (oUp (oUp (oUp (oUp M 77 (24 * l + c) s) 78 (24 * l + c) (if s = 2 then -1 else n)) 79 (24 * l + c) (if s = 1 then b else -1)) 76 l (nI (c + 1))) 80 n.toNatClampNeg 1
  else oUp (oUp (oUp (oUp M 77 (24 * l + c) s) 78 (24 * l + c) (if s = 2 then -1 else n)) 79 (24 * l + c) (if s = 1 then b else -1)) 76 l (nI (c + 1))
theorem m_part {N : Nat} {K : oK} {M : oM} {l c : Nat} (hl : (l : Int) < (M.1 59 20).toInt) (h20 : (M.1 59 20).toInt ≤ 20) (hc : M.1 76 l = nI c) (h24 : c ≤ 24) (hw0 : 0 ≤ (M.1 59 7).toInt) (hw : (M.1 59 7).toInt ≤ 20) (he0 : 0 ≤ (M.1 59 11).toInt) (he : (M.1 59 11).toInt ≤ 6) (hE : 0 ≤ (M.1 75 l).toInt)
    (hp : ∀ i : Nat, (i : Int) < (M.1 59 7).toInt → 0 ≤ (M.1 64 i).toInt ∧ 0 ≤ (M.1 65 i).toInt) (s n b : Int32) :
    f_X12_part N K (nI l) s n b M = if 0 ≤ (enP (M.1 59 7) (M.1 59 11) (M.1 73 l) (othP M 64 65) (M.1 75 l) s n b).toInt then (if s = 0 ∧ ¬ M.1 80 n.toNatClampNeg = 0 then some (-5, M) else if c < 24 then some (nI (c + 1), newM M l c s n b (enP (M.1 59 7) (M.1 59 11) (M.1 73 l) (othP M 64 65) (M.1 75 l) s n b)) else some (-3, M)) else some (-1, M) := by
  have ec : (nI c).toInt = c := nI_toInt (by omega)
  have el : (nI l).toInt = l := nI_toInt (by omega)
  have nl : (nI l).toNatClampNeg = l := nI_n (by omega)
  have hxl : ∀ A : Option (Int32 × oM), oIx (nI l) 20 A = A := fun A => oIx_p (by omega) (by omega)
  have s10 : ¬ (1 : Int32) = 0 := by decide
  have s12 : ¬ (1 : Int32) = 2 := by decide
  have s01 : ¬ (0 : Int32) = 1 := by decide
  have s02 : ¬ (0 : Int32) = 2 := by decide
  have s20 : ¬ (2 : Int32) = 0 := by decide
  have s21 : ¬ (2 : Int32) = 1 := by decide
  have nr : vp_nar .boolean (1 : Int32) = 1 := rfl
  have e24 : (24 * nI l).toInt = 24 * l := by rw [oMul (by rw [tl_24]; omega) (by rw [tl_24]; omega), tl_24, el]
  have ei : (24 * nI l + nI c).toInt = 24 * l + c := by rw [oAdd (by omega) (by omega), e24, ec]
  have ni : (24 * nI l + nI c).toNatClampNeg = 24 * l + c := by rw [oTnn, ei]; omega
  -- behind the tests
  have h109 : ∀ e : Int32, (s = 0 → 0 ≤ n.toInt ∧ n.toInt < 6) → (s = 1 → (0 ≤ n.toInt ∧ n.toInt < 20) ∧ e = if M.1 64 n.toNatClampNeg = M.1 75 l then M.1 65 n.toNatClampNeg else M.1 64 n.toNatClampNeg) → f_X12_part_109 N K (nI l) s n b M = if c < 24 then some (nI (c + 1), newM M l c s n b e) else some (-3, M) := by
    intro e g0 g1
    unfold f_X12_part_109 f_X12_part_160 f_X12_part_178 f_X12_part_200 f_X12_part_240 f_X12_part_241 newM
    simp only [hxl, nl, hc]
    by_cases q : c < 24
    · have hxi : ∀ A : Option (Int32 × oM), oIx (24 * nI l + nI c) 480 A = A := fun A => oIx_p (by omega) (by omega)
      have h76 : ∀ (x y z : Int32), (oUp (oUp (oUp M 77 (24 * l + c) x) 78 (24 * l + c) y) 79 (24 * l + c) z).1 76 l = nI c := fun x y z => by rw [oUp_ro _ _ _ _ (by decide), oUp_ro _ _ _ _ (by decide), oUp_ro _ _ _ _ (by decide)]; exact hc
      rw [if_neg (by rw [show (24 : Int32) = nI 24 from rfl, nI_inj (by omega) (by omega)]; omega), if_pos q]
      simp only [hxi, ni, h76, nI_1, nr]
      by_cases q1 : s = 1
      · subst q1
        have hxn : ∀ A : Option (Int32 × oM), oIx n 20 A = A := fun A => oIx_p (g1 rfl).1.1 (by have := (g1 rfl).1.2; omega)
        simp only [if_neg s12, if_neg s10, if_true, hxn]
        have r : ∀ (a : Nat) (x y z w : Int32), a ≠ 76 → a ≠ 77 → a ≠ 78 → a ≠ 79 → (oUp (oUp (oUp (oUp M 77 (24 * l + c) x) 78 (24 * l + c) y) 79 (24 * l + c) z) 76 l w).1 a = M.1 a := fun a x y z w k1 k2 k3 k4 => by rw [oUp_ro _ _ _ _ k1, oUp_ro _ _ _ _ k4, oUp_ro _ _ _ _ k3, oUp_ro _ _ _ _ k2]
        rw [r 64 _ _ _ _ (by decide) (by decide) (by decide) (by decide), r 65 _ _ _ _ (by decide) (by decide) (by decide) (by decide), r 75 _ _ _ _ (by decide) (by decide) (by decide) (by decide), (g1 rfl).2]
        by_cases qq : M.1 64 n.toNatClampNeg = M.1 75 l
        · simp only [if_pos qq]
          rw [oUp_ro _ _ _ _ (show (76 : Nat) ≠ 75 by decide), oUp_at, if_pos ⟨rfl, rfl⟩]
        · simp only [if_neg qq]
          rw [oUp_ro _ _ _ _ (show (76 : Nat) ≠ 75 by decide), oUp_at, if_pos ⟨rfl, rfl⟩]
      · by_cases q0 : s = 0
        · subst q0
          have hxn : ∀ A : Option (Int32 × oM), oIx n 6 A = A := fun A => oIx_p (g0 rfl).1 (by have := (g0 rfl).2; omega)
          simp only [if_neg s02, if_neg s01, if_true, hxn]
          rw [oUp_ro _ _ _ _ (show (76 : Nat) ≠ 80 by decide), oUp_at, if_pos ⟨rfl, rfl⟩]
        · by_cases q2 : s = 2
          · subst q2
            simp only [if_neg s20, if_neg s21, if_true]
            rw [oUp_at, if_pos ⟨rfl, rfl⟩]
          · simp only [if_neg q0, if_neg q1, if_neg q2]
            rw [oUp_at, if_pos ⟨rfl, rfl⟩]
    · rw [if_pos (by rw [show (24 : Int32) = nI 24 from rfl, nI_inj (by omega) (by omega)]; omega), if_neg q]
  have h84 : ∀ e : Int32, 0 ≤ e.toInt → (s = 0 → 0 ≤ n.toInt ∧ n.toInt < 6) → (s = 1 → (0 ≤ n.toInt ∧ n.toInt < 20) ∧ e = if M.1 64 n.toNatClampNeg = M.1 75 l then M.1 65 n.toNatClampNeg else M.1 64 n.toNatClampNeg) → enP (M.1 59 7) (M.1 59 11) (M.1 73 l) (othP M 64 65) (M.1 75 l) s n b = e → f_X12_part_84 N K (nI l) s n b 1 M = if 0 ≤ (enP (M.1 59 7) (M.1 59 11) (M.1 73 l) (othP M 64 65) (M.1 75 l) s n b).toInt then (if s = 0 ∧ ¬ M.1 80 n.toNatClampNeg = 0 then some (-5, M) else if c < 24 then some (nI (c + 1), newM M l c s n b (enP (M.1 59 7) (M.1 59 11) (M.1 73 l) (othP M 64 65) (M.1 75 l) s n b)) else some (-3, M)) else some (-1, M) := by
    intro e h0 g0 g1 h1
    unfold f_X12_part_84
    rw [if_neg s10, h1, if_pos h0]
    by_cases q0 : s = 0
    · rw [if_pos q0, oIx_p (g0 q0).1 (by have := (g0 q0).2; omega)]
      by_cases q14 : M.1 80 n.toNatClampNeg = 0
      · rw [if_pos q14, if_neg (fun z => z.2 q14), h109 e g0 g1]
      · rw [if_neg q14, if_pos ⟨q0, q14⟩]
    · rw [if_neg q0, if_neg (fun z => q0 z.1), h109 e g0 g1]
  have h0 : enP (M.1 59 7) (M.1 59 11) (M.1 73 l) (othP M 64 65) (M.1 75 l) s n b = -1 → f_X12_part_84 N K (nI l) s n b 0 M = if 0 ≤ (enP (M.1 59 7) (M.1 59 11) (M.1 73 l) (othP M 64 65) (M.1 75 l) s n b).toInt then (if s = 0 ∧ ¬ M.1 80 n.toNatClampNeg = 0 then some (-5, M) else if c < 24 then some (nI (c + 1), newM M l c s n b (enP (M.1 59 7) (M.1 59 11) (M.1 73 l) (othP M 64 65) (M.1 75 l) s n b)) else some (-3, M)) else some (-1, M) := by
    intro h1
    unfold f_X12_part_84
    rw [if_pos rfl, h1, if_neg (by decide)]
  have hx1 : enP (M.1 59 7) (M.1 59 11) (M.1 73 l) (othP M 64 65) (M.1 75 l) s n b = -1 → some (-1, M) = if 0 ≤ (enP (M.1 59 7) (M.1 59 11) (M.1 73 l) (othP M 64 65) (M.1 75 l) s n b).toInt then (if s = 0 ∧ ¬ M.1 80 n.toNatClampNeg = 0 then some (-5, M) else if c < 24 then some (nI (c + 1), newM M l c s n b (enP (M.1 59 7) (M.1 59 11) (M.1 73 l) (othP M 64 65) (M.1 75 l) s n b)) else some (-3, M)) else some (-1, M) := by
    intro h1
    rw [h1, if_neg (by decide)]
  have hlo : f_X12_leadsOn N K n (M.1 75 l) M = some (decide ((0 ≤ n.toInt ∧ n.toInt < (M.1 59 7).toInt) ∧ (M.1 64 n.toNatClampNeg = M.1 75 l ∨ M.1 65 n.toNatClampNeg = M.1 75 l)), M) := by
    unfold f_X12_leadsOn
    rw [isWy12 _ _ _ _ hw0, oB2_p]
    by_cases qn : 0 ≤ n.toInt ∧ n.toInt < (M.1 59 7).toInt
    · rw [decide_eq_true qn, cond_true, oIx_p qn.1 (by omega), oIx_p qn.1 (by omega)]
      by_cases a1 : M.1 64 n.toNatClampNeg = M.1 75 l
      · rw [if_pos a1, decide_eq_true ⟨qn, Or.inl a1⟩]
      · rw [if_neg a1]
        by_cases a2 : M.1 65 n.toNatClampNeg = M.1 75 l
        · rw [if_pos a2, decide_eq_true ⟨qn, Or.inr a2⟩]
        · rw [if_neg a2, decide_eq_false]
          rintro ⟨-, z | z⟩
          · exact a1 z
          · exact a2 z
    · rw [decide_eq_false qn, cond_false, decide_eq_false (fun z => qn z.1)]
  unfold f_X12_part f_X12_part_65
  rw [isLy12 _ _ _ _ (by omega), oB2_p, el, decide_eq_true (by omega), cond_true, w12, oB2_p, oLg, show (0 : Int64).toInt = 0 from rfl, show (2 : Int64).toInt = 2 from rfl]
  by_cases qs : 0 ≤ s.toInt ∧ s.toInt ≤ 2
  · rw [decide_eq_true qs, cond_true, hxl, nl, hlo, oB2_p, isBo12, oB2_p, isEn12 _ _ _ _ he0, oB2_p, hxl]
    by_cases q0 : s = 0
    · have q1 : ¬ s = 1 := by rw [q0]; exact s01
      rw [if_pos q0]
      by_cases qn : 0 ≤ n.toInt ∧ n.toInt < (M.1 59 11).toInt
      · rw [decide_eq_true qn, cond_true]
        refine h84 (M.1 75 l) hE (fun _ => ⟨qn.1, by omega⟩) (fun z => absurd z q1) ?_
        unfold enP
        rw [if_neg q1, if_pos q0, if_pos qn]
      · rw [decide_eq_false qn, cond_false]
        refine h0 ?_
        unfold enP
        rw [if_neg q1, if_pos q0, if_neg qn]
    · rw [if_neg q0]
      by_cases q1 : s = 1
      · rw [if_pos q1]
        by_cases qn : (0 ≤ n.toInt ∧ n.toInt < (M.1 59 7).toInt) ∧ (M.1 64 n.toNatClampNeg = M.1 75 l ∨ M.1 65 n.toNatClampNeg = M.1 75 l)
        · rw [decide_eq_true qn, cond_true]
          by_cases qb : 0 ≤ b.toInt ∧ b.toInt ≤ 2
          · have hpn := hp n.toNatClampNeg (by rw [oTnn]; omega)
            rw [decide_eq_true qb, cond_true]
            refine h84 (if M.1 64 n.toNatClampNeg = M.1 75 l then M.1 65 n.toNatClampNeg else M.1 64 n.toNatClampNeg) ?_ (fun z => absurd z q0) (fun _ => ⟨⟨qn.1.1, by omega⟩, rfl⟩) ?_
            · by_cases z : M.1 64 n.toNatClampNeg = M.1 75 l
              · rw [if_pos z]; exact hpn.2
              · rw [if_neg z]; exact hpn.1
            · unfold enP othP
              rw [if_pos q1, if_pos ⟨qb, qn.1⟩]
              by_cases z : M.1 64 n.toNatClampNeg = M.1 75 l
              · rw [if_pos z, if_pos z]
              · rw [if_neg z, if_neg z, if_pos (qn.2.resolve_left z)]
          · rw [decide_eq_false qb, cond_false]
            refine h0 ?_
            unfold enP
            rw [if_pos q1, if_neg (fun z => qb z.1)]
        · rw [decide_eq_false qn, cond_false]
          refine h0 ?_
          unfold enP othP
          rw [if_pos q1]
          by_cases z : (0 ≤ b.toInt ∧ b.toInt ≤ 2) ∧ 0 ≤ n.toInt ∧ n.toInt < (M.1 59 7).toInt
          · rw [if_pos z, if_neg (fun y => qn ⟨z.2, Or.inl y⟩), if_neg (fun y => qn ⟨z.2, Or.inr y⟩)]
          · rw [if_neg z]
      · have q2 : s = 2 := by rw [oEqI, tl_2]; rw [oEqI, tl_0] at q0; rw [oEqI, tl_1] at q1; omega
        rw [if_neg q1]
        by_cases qk : M.1 73 l = 3
        · rw [if_pos qk]
          refine h84 (M.1 75 l) hE (fun z => absurd z q0) (fun z => absurd z q1) ?_
          unfold enP
          rw [if_neg q1, if_neg q0, if_pos ⟨q2, qk⟩]
        · rw [if_neg qk]
          refine h0 ?_
          unfold enP
          rw [if_neg q1, if_neg q0, if_neg (fun z => qk z.2)]
  · rw [decide_eq_false qs, cond_false]
    refine hx1 ?_
    unfold enP
    rw [if_neg (fun z => qs (by rw [z, tl_1]; omega)), if_neg (fun z => qs (by rw [z, tl_0]; omega)), if_neg (fun z => qs (by rw [z.1, tl_2]; omega))]
