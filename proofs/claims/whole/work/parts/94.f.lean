theorem ag_parts {K : oK} {M : oM} (h : oInv K M) {N : Nat} (hN : 100 ≤ N) (a s i n : Int32) : oAg K M (f_X11_parts N K a s i n M) (f_X12_parts N K a s i n) := by
  obtain ⟨N0, rfl⟩ : ∃ m, N = m + 1 := ⟨N - 1, by omega⟩
  have hl := h.2.2.2.2.2.2.2.2.1
  have c1 := hl.1.2.2
  have hsh := h.2.2.2.2.2.2.2.2.2
  have m0 : ∀ M1 : oM, M1.1 59 20 = M.1 0 11 → f_X12_parts (N0 + 1) K a s i n M1 = cond (decide (0 ≤ a.toInt ∧ a.toInt < (M.1 0 11).toInt)) (cond (decide (0 ≤ s.toInt ∧ s.toInt ≤ 5)) (cond (decide (1 ≤ n.toInt ∧ n.toInt ≤ 20)) (oIx s 6 (if M1.1 97 s.toNatClampNeg < 0 then f_X12_parts_53 (N0 + 1) K a s i n M1 else oIx s 6 (if M1.1 97 s.toNatClampNeg = 20 then f_X12_parts_53 (N0 + 1) K a s i n M1 else some (-12, M1)))) (some (-1, M1))) (some (-1, M1))) (some (-1, M1)) := by
    intro M1 e
    unfold f_X12_parts
    rw [isLy12 _ _ _ _ (by rw [e]; exact hl.1.2.1), oB2_p, e, isSh12, oB2_p, w12, oB2_p, oLg]
    rfl
  unfold f_X11_parts
  rw [lyAt hl, oB2_p, shAt]
  by_cases c : 0 ≤ a.toInt ∧ a.toInt < (M.1 0 11).toInt
  · have na : a.toNatClampNeg = a.toInt.toNat := rfl
    rw [if_pos c, oCs_s]
    rw [decide_eq_true c] at m0
    by_cases cs : 0 ≤ s.toInt ∧ s.toInt ≤ 5
    · have ns : s.toNatClampNeg = s.toInt.toNat := rfl
      rw [if_pos cs, oB2_p, oCs_s, w11, oB2_p, tl_1, tl_20]
      rw [decide_eq_true cs] at m0
      by_cases cn : 1 ≤ n.toInt ∧ n.toInt ≤ 20
      · rw [decide_eq_true cn, cond_true]
        rw [decide_eq_true cn] at m0
        generalize hq : a.toNatClampNeg = l at *
        have la : a = nI l := oNI (by omega)
        have hx6 : ∀ A : Option (Int32 × oM), oIx s 6 A = A := fun A => oIx_p cs.1 (by omega)
        simp only [cond_true, hx6] at m0
        have hs1 := hsh s.toNatClampNeg (by omega)
        have hdI : s = nI s.toNatClampNeg := oNI (by omega)
        generalize hd : s.toNatClampNeg = d at *
        have z75 : ∀ M1, f_X12_parts_75 (N0 + 1) K a s i n 0 M1 = some (0, M1) := fun M1 => rfl
        rcases id hs1 with ⟨g1, g2, g3⟩ | ⟨g1, ⟨g2, g3⟩, g4⟩ | ⟨g1, g2, ⟨g3, g4⟩, g5, g6, ⟨g7, g8⟩, g9⟩
        · rw [if_neg (by rw [g1]; decide), if_neg (by rw [g1]; decide)]
          unfold f_X11_parts_66
          rw [if_pos g1]
          refine oAg.mk M rfl ?_ h
          rw [m0 M hl.1.1, if_pos (by rw [g3]; decide)]
          unfold f_X12_parts_53
          rw [hx6, hd, if_neg (by rw [g3]; decide), z75]
        · rw [if_pos g1]
          refine oAg.mk M rfl ?_ h
          rw [m0 M hl.1.1, if_neg (by rw [oLtI, tl_0]; omega), if_neg (by rw [oEqI, tl_20]; omega)]
        · have e97 : (M.1 97 d).toInt = (M.1 (47 + 2 * d) 3).toInt + 20 := by rw [g5, oAdd (by rw [tl_20]; omega) (by rw [tl_20]; omega), tl_20]
          rw [if_neg (by rw [g1]; decide), if_pos g1]
          by_cases c0 : M.1 (47 + 2 * d) 3 = 0
          · have x97 : M.1 97 d = 20 := by rw [oEqI, e97, c0, tl_0, tl_20]; omega
            rw [if_pos c0]
            unfold f_X11_parts_66 f_X11_addParts
            rw [if_neg (by rw [g1]; decide)]
            by_cases ci : i.toInt < 0
            · have q1 : f_X11_addParts_6 (N0 + 1) K (N0 + 1) (oLy l) (47 + 2 * d) n 0 i M = some (0, M) := by
                rw [f_X11_addParts_6]
                dsimp only
                rw [if_neg (by rw [oLeI, tl_0]; omega), if_pos (by rw [oLtI, tl_0]; exact ci)]
              rw [q1, oB2_p]
              refine oAg.mk M rfl ?_ h
              rw [m0 M hl.1.1, if_neg (by rw [x97]; decide), if_pos x97]
              unfold f_X12_parts_53
              rw [hx6, hd, if_pos x97, if_pos (by rw [oLtI, tl_0]; exact ci), z75]
            · obtain ⟨r, Mf, f1, f2, f3⟩ := pt_loop (K := K) (N := N0 + 1) (l := l) (d := d) (by omega) (p := n) (i := i) ⟨by omega, cn.2⟩ (by omega) hdI N0 0 M h (by omega) g1 (by omega) (Or.inr rfl) (by omega)
              have e0 : i + 3 * nI 0 = i := by
                rw [show 3 * nI 0 = 0 from rfl, Int32.add_zero]
              obtain ⟨M1, a1, a2, a3⟩ := f2 M (.rf M)
              obtain ⟨M2, b1, b2, b3⟩ := f3 M1 a3
              have e2 : M2 = Mf := eq_CM (b3.tr a2) b2
              rw [e0] at a1
              have a1' : f_X11_addParts_6 (N0 + 1) K (N0 + 1) (oLy l) (47 + 2 * d) n 0 i M = some (r, M1) := a1
              rw [a1', oB2_p]
              refine oAg.mk M2 rfl ?_ (by rw [e2]; exact f1)
              have y97 : M1.1 97 d = 20 := by rw [(a3 97 (by omega) (by omega)).1]; exact x97
              rw [m0 M1 (by rw [(a3 59 (by omega) (by omega)).1]; exact hl.1.1), if_neg (by rw [y97]; decide), if_pos y97]
              unfold f_X12_parts_53 f_X12_parts_76
              rw [hx6, hd, if_pos y97, if_neg (by rw [oLtI, tl_0]; exact ci), la]
              exact b1
          · rw [if_neg c0]
            refine oAg.mk M rfl ?_ h
            have : ¬ (M.1 (47 + 2 * d) 3).toInt = 0 := fun z => c0 (by rw [oEqI, tl_0]; exact z)
            rw [m0 M hl.1.1, if_neg (by rw [oLtI, tl_0]; omega), if_neg (by rw [oEqI, tl_20]; omega)]
      · rw [decide_eq_false cn, cond_false]
        refine oAg.mk M rfl ?_ h
        rw [m0 M hl.1.1, decide_eq_false cn, cond_true, cond_true, cond_false]
    · rw [if_neg cs, oB2_p, oCs_n]
      refine oAg.mk M rfl ?_ h
      rw [m0 M hl.1.1, decide_eq_false cs, cond_true, cond_false]
  · rw [if_neg c, oCs_n, oB2_p]
    have x : ∀ o : Option Nat, oCs o (some ((-1 : Int32), M)) (fun _ => some (-1, M)) = some (-1, M) := fun o => by cases o <;> rfl
    rw [x]
    refine oAg.mk M rfl ?_ h
    rw [m0 M hl.1.1, decide_eq_false c, cond_false]
