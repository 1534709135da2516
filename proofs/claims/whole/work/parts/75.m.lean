theorem ref9n {N : Nat} {K : oK} {M : oM} {h : Nat} (h2 : M.1 h 1 = 2) (b0 : 0 ≤ (M.1 h 4).toInt) (b1 : (M.1 h 4).toInt ≤ 60) (i n : Int32) : f_X9_refusal N K h i n M = some (if 0 ≤ i.toInt ∧ 0 ≤ n.toInt ∧ i.toInt + n.toInt ≤ (M.1 h 4).toInt then 0 else -13, M) := by
  unfold f_X9_refusal
  have hi := oRng i
  have hn := oRng n
  rw [if_neg (by rw [h2]; decide), if_pos h2]
  by_cases c1 : i.toInt < 0
  · rw [if_pos (by rw [oLtI, tl_0]; exact c1), if_neg (by omega)]
  · rw [if_neg (by rw [oLtI, tl_0]; exact c1)]
    by_cases c2 : n.toInt < 0
    · rw [if_pos (by rw [oLtI, tl_0]; exact c2), if_neg (by omega)]
    · rw [if_neg (by rw [oLtI, tl_0]; exact c2)]
      by_cases c3 : (M.1 h 4).toInt < i.toInt
      · rw [if_pos (by rw [oLtI]; exact c3), if_neg (by omega)]
      · have es : (M.1 h 4 - i).toInt = (M.1 h 4).toInt - i.toInt := oSub (by omega) (by omega)
        rw [if_neg (by rw [oLtI]; exact c3)]
        by_cases c4 : i.toInt + n.toInt ≤ (M.1 h 4).toInt
        · rw [if_pos (by rw [oLeI, es]; omega), if_pos (by omega)]
        · rw [if_neg (by rw [oLeI, es]; omega), if_neg (by omega)]
theorem ix60n {a i : Int32} {k : Nat} (a0 : 0 ≤ a.toInt) (a1 : a.toInt ≤ 5) (i0 : 0 ≤ i.toInt) (i1 : i.toInt + k < 60) : (60 * a + i + nI k).toInt = 60 * a.toInt + i.toInt + k ∧ (60 * a + i + nI k).toNatClampNeg = 60 * a.toNatClampNeg + i.toNatClampNeg + k := by
  obtain ⟨e1, -⟩ := ix60 (a := a) (i := i) a0 a1 i0 (by omega)
  have ek : (nI k).toInt = k := nI_toInt (by omega)
  have e2 : (60 * a + i + nI k).toInt = 60 * a.toInt + i.toInt + k := by rw [oAdd (by rw [e1, ek]; omega) (by rw [e1, ek]; omega), e1, ek]
  refine ⟨e2, ?_⟩
  rw [oTnn, oTnn, oTnn, e2]
  omega
theorem sh_out {N : Nat} {K : oK} {a i n : Int32} (a0 : 0 ≤ a.toInt) (a1 : a.toInt ≤ 5) (i0 : 0 ≤ i.toInt) (n0 : 0 ≤ n.toInt) (i1 : i.toInt + n.toInt ≤ 60) : ∀ (f k : Nat) (M : oM), (k : Int) ≤ n.toInt → n.toInt < k + f → ∃ M', f_X12_shift_150 N K f a i n (nI k) M = some (n, M') ∧ M'.1 = M.1 ∧ (∀ r, r ≠ 99 → M'.2 r = M.2 r) ∧ ∀ q, M'.2 99 q = if 60 * a.toNatClampNeg + i.toNatClampNeg + k ≤ q ∧ q < 60 * a.toNatClampNeg + i.toNatClampNeg + n.toNatClampNeg then M.2 100 (q - (60 * a.toNatClampNeg + i.toNatClampNeg)) else M.2 99 q := by
  have nn : n.toNatClampNeg = n.toInt.toNat := rfl
  intro f
  induction f with
  | zero => intro k M h1 h2; omega
  | succ f ih =>
    intro k M h1 h2
    have ek : (nI k).toInt = k := nI_toInt (by omega)
    have nk : (nI k).toNatClampNeg = k := by rw [oTnn, ek]; rfl
    rw [f_X12_shift_150]
    dsimp only
    by_cases c : n.toInt ≤ k
    · rw [if_pos (by rw [oLeI, ek]; exact c)]
      exact ⟨M, rfl, rfl, fun _ _ => rfl, fun q => by rw [if_neg (by omega)]⟩
    · obtain ⟨e1, e2⟩ := ix60n (a := a) (i := i) (k := k) a0 a1 i0 (by omega)
      rw [if_neg (by rw [oLeI, ek]; exact c), oIx_p (by omega) (by omega), oIx_p (by omega) (by omega), nI_1, e2, nk]
      obtain ⟨M', m1, m2, m3, m4⟩ := ih (k + 1) (oUpL M 99 (60 * a.toNatClampNeg + i.toNatClampNeg + k) (M.2 100 k)) (by omega) (by omega)
      refine ⟨M', m1, m2, fun r hr => ?_, fun q => ?_⟩
      · rw [m3 r hr]
        unfold oUpL vp_updL
        simp [hr]
      · rw [m4, oUpL_at, oUpL_at, if_neg (show ¬ ((100 : Nat) = 99 ∧ _) by omega)]
        by_cases c2 : q = 60 * a.toNatClampNeg + i.toNatClampNeg + k
        · rw [if_neg (by omega), if_pos (by omega), if_pos (by omega)]
          exact congrArg (M.2 100) (by omega)
        · by_cases c3 : 60 * a.toNatClampNeg + i.toNatClampNeg + (k + 1) ≤ q ∧ q < 60 * a.toNatClampNeg + i.toNatClampNeg + n.toNatClampNeg
          · rw [if_pos c3, if_pos (by omega)]
          · rw [if_neg c3, if_neg (by omega), if_neg (by omega)]
theorem sh_in {N : Nat} (hN : 100 ≤ N) {K : oK} {a i b j n : Int32} (a0 : 0 ≤ a.toInt) (a1 : a.toInt ≤ 5) (i0 : 0 ≤ i.toInt) (n0 : 0 ≤ n.toInt) (i1 : i.toInt + n.toInt ≤ 60) (b0 : 0 ≤ b.toInt) (b1 : b.toInt ≤ 5) (j0 : 0 ≤ j.toInt) (j1 : j.toInt + n.toInt ≤ 60) (F : Nat → Int64) : ∀ (f k : Nat) (M : oM), (k : Int) ≤ n.toInt → n.toInt < k + f → (∀ q, q < k → M.2 100 q = F (60 * a.toNatClampNeg + i.toNatClampNeg + q)) → M.2 99 = F → ∃ M', f_X12_shift_113 N K f a i b j n (nI k) M = some (n, M') ∧ M'.1 = M.1 ∧ (∀ r, r ≠ 99 → r ≠ 100 → M'.2 r = M.2 r) ∧ ∀ q, M'.2 99 q = if 60 * b.toNatClampNeg + j.toNatClampNeg ≤ q ∧ q < 60 * b.toNatClampNeg + j.toNatClampNeg + n.toNatClampNeg then F (60 * a.toNatClampNeg + i.toNatClampNeg + (q - (60 * b.toNatClampNeg + j.toNatClampNeg))) else F q := by
  have nn : n.toNatClampNeg = n.toInt.toNat := rfl
  intro f
  induction f with
  | zero => intro k M h1 h2; omega
  | succ f ih =>
    intro k M h1 h2 hM hF
    have ek : (nI k).toInt = k := nI_toInt (by omega)
    have nk : (nI k).toNatClampNeg = k := by rw [oTnn, ek]; rfl
    rw [f_X12_shift_113]
    dsimp only
    by_cases c : n.toInt ≤ k
    · rw [if_pos (by rw [oLeI, ek]; exact c)]
      obtain ⟨M', m1, m2, m3, m4⟩ := sh_out (N := N) (K := K) b0 b1 j0 n0 j1 N 0 M (by omega) (by omega)
      refine ⟨M', m1, m2, fun r h1 _ => m3 r h1, fun q => ?_⟩
      rw [m4, hF]
      by_cases c2 : 60 * b.toNatClampNeg + j.toNatClampNeg + 0 ≤ q ∧ q < 60 * b.toNatClampNeg + j.toNatClampNeg + n.toNatClampNeg
      · rw [if_pos c2, if_pos (by omega), hM _ (by omega)]
      · rw [if_neg c2, if_neg (by omega)]
    · obtain ⟨e1, e2⟩ := ix60n (a := a) (i := i) (k := k) a0 a1 i0 (by omega)
      rw [if_neg (by rw [oLeI, ek]; exact c), oIx_p (by omega) (by omega), oIx_p (by omega) (by omega), nI_1, e2, nk]
      obtain ⟨M', m1, m2, m3, m4⟩ := ih (k + 1) (oUpL M 100 k (M.2 99 (60 * a.toNatClampNeg + i.toNatClampNeg + k))) (by omega) (by omega) (fun q hq => by
        rw [oUpL_at]
        by_cases c2 : q = k
        · rw [if_pos (by omega), hF, c2]
        · rw [if_neg (by omega), hM q (by omega)]) (by
        rw [← hF]; unfold oUpL vp_updL; simp)
      refine ⟨M', m1, m2, fun r hr hr2 => ?_, m4⟩
      rw [m3 r hr hr2]
      unfold oUpL vp_updL
      simp [hr2]
theorem sh_k {K : oK} {M : oM} {d : Nat} (h : iShelf1 K M d) (hc : (M.1 0 11).toInt ≤ 20) : (M.1 (47 + 2 * d) 1 = 0 ∧ (M.1 97 d).toInt = -1) ∨ (M.1 (47 + 2 * d) 1 = 1 ∧ 0 ≤ (M.1 97 d).toInt ∧ (M.1 97 d).toInt < 20) ∨ (M.1 (47 + 2 * d) 1 = 2 ∧ (M.1 97 d).toInt = (M.1 (47 + 2 * d) 3).toInt + 20 ∧ (0 ≤ (M.1 (47 + 2 * d) 3).toInt ∧ (M.1 (47 + 2 * d) 3).toInt ≤ 4) ∧ M.1 98 d = M.1 (47 + 2 * d) 4 ∧ 0 ≤ (M.1 (47 + 2 * d) 4).toInt ∧ (M.1 (47 + 2 * d) 4).toInt ≤ 60) := by
  rcases h with ⟨g1, g2, g3⟩ | ⟨g1, ⟨g2, g3⟩, g4⟩ | ⟨g1, g2, ⟨g3, g4⟩, g5, g6, ⟨g7, g8⟩, -⟩
  · exact Or.inl ⟨g1, by rw [g3]; rfl⟩
  · exact Or.inr (Or.inl ⟨g1, g2, by omega⟩)
  · have e97 : (M.1 97 d).toInt = (M.1 (47 + 2 * d) 3).toInt + 20 := by rw [g5, oAdd (by rw [tl_20]; omega) (by rw [tl_20]; omega), tl_20]
    exact Or.inr (Or.inr ⟨g1, e97, ⟨g3, g4⟩, g6, g7, g8⟩)
theorem ag_shift {K : oK} {M : oM} (h : oInv K M) {N : Nat} (hN : 100 ≤ N) (a i b j n : Int32) : oAg K M (f_X11_shift N K a i b j n M) (f_X12_shift N K a i b j n) := by
  have hl := h.2.2.2.2.2.2.2.2.1
  obtain ⟨e20, c0, c1⟩ := hl.1
  have hsh := h.2.2.2.2.2.2.2.2.2
  unfold f_X11_shift
  rw [shAt, oB2_p]
  by_cases ca : 0 ≤ a.toInt ∧ a.toInt ≤ 5
  · have na : a.toNatClampNeg = a.toInt.toNat := rfl
    rw [if_pos ca, oCs_s, shAt, oB2_p]
    by_cases cb : 0 ≤ b.toInt ∧ b.toInt ≤ 5
    · have nb : b.toNatClampNeg = b.toInt.toNat := rfl
      rw [if_pos cb, oCs_s]
      have ha := hsh a.toNatClampNeg (by omega)
      have hb := hsh b.toNatClampNeg (by omega)
      have ka := sh_k ha c1
      have kb := sh_k hb c1
      have hxa : ∀ A : Option (Int32 × oM), oIx a 6 A = A := fun A => oIx_p ca.1 (by omega)
      have hxb : ∀ A : Option (Int32 × oM), oIx b 6 A = A := fun A => oIx_p cb.1 (by omega)
      generalize hda : a.toNatClampNeg = da at *
      generalize hdb : b.toNatClampNeg = db at *
      have m0 : ∀ M', f_X12_shift N K a i b j n M' = (if M'.1 97 da < 0 then some (-11, M') else if 0 ≤ M'.1 97 db then (if M'.1 97 da < 20 then some (-12, M') else if M'.1 97 da = M'.1 97 db then (if n < 0 then some (-13, M') else if i < 0 then some (-13, M') else if j < 0 then some (-13, M') else if M'.1 98 da - n < i then some (-13, M') else if j ≤ M'.1 98 db - n then f_X12_shift_113 N K N a i b j n 0 M' else some (-13, M')) else some (-12, M')) else some (-11, M')) := by
        intro M'
        unfold f_X12_shift
        rw [isSh12, oB2_p, decide_eq_true ca, cond_true, isSh12, oB2_p, decide_eq_true cb, cond_true]
        simp only [hxa, hxb, hda, hdb]
      rcases ka with ⟨x1, x2⟩ | ⟨x1, x2, x3⟩ | ⟨x1, x2, ⟨x3, x4⟩, x5, x6, x7⟩
      · rw [if_pos x1]
        refine oAg.mk M rfl ?_ h
        rw [m0, if_pos (by rw [oLtI, tl_0]; omega)]
      · rw [if_neg (by rw [x1]; decide)]
        rcases kb with ⟨z1, z2⟩ | ⟨z1, z2, z3⟩ | ⟨z1, z2, ⟨z3, z4⟩, z5, z6, z7⟩
        · rw [if_pos z1]
          refine oAg.mk M rfl ?_ h
          rw [m0, if_neg (by rw [oLtI, tl_0]; omega), if_neg (by rw [oLeI, tl_0]; omega)]
        · rw [if_neg (by rw [z1]; decide), if_neg (by rw [x1]; decide)]
          refine oAg.mk M rfl ?_ h
          rw [m0, if_neg (by rw [oLtI, tl_0]; omega), if_pos (by rw [oLeI, tl_0]; omega), if_pos (by rw [oLtI, tl_20]; omega)]
        · rw [if_neg (by rw [z1]; decide), if_neg (by rw [x1]; decide)]
          refine oAg.mk M rfl ?_ h
          rw [m0, if_neg (by rw [oLtI, tl_0]; omega), if_pos (by rw [oLeI, tl_0]; omega), if_pos (by rw [oLtI, tl_20]; omega)]
      · rw [if_neg (by rw [x1]; decide)]
        rcases kb with ⟨z1, z2⟩ | ⟨z1, z2, z3⟩ | ⟨z1, z2, ⟨z3, z4⟩, z5, z6, z7⟩
        · rw [if_pos z1]
          refine oAg.mk M rfl ?_ h
          rw [m0, if_neg (by rw [oLtI, tl_0]; omega), if_neg (by rw [oLeI, tl_0]; omega)]
        · rw [if_neg (by rw [z1]; decide), if_pos x1, if_neg (by rw [z1]; decide)]
          refine oAg.mk M rfl ?_ h
          rw [m0, if_neg (by rw [oLtI, tl_0]; omega), if_pos (by rw [oLeI, tl_0]; omega), if_neg (by rw [oLtI, tl_20]; omega), if_neg (by rw [oEqI]; omega)]
        · rw [if_neg (by rw [z1]; decide), if_pos x1, if_pos z1]
          by_cases cs : M.1 (47 + 2 * da) 3 = M.1 (47 + 2 * db) 3
          · have es := congrArg Int32.toInt cs
            have hn := oRng n
            have hi := oRng i
            have hj := oRng j
            have m1 : ∀ M' : oM, M'.1 = M.1 → f_X12_shift N K a i b j n M' = if (0 ≤ i.toInt ∧ 0 ≤ n.toInt ∧ i.toInt + n.toInt ≤ (M.1 (47 + 2 * da) 4).toInt) ∧ 0 ≤ j.toInt ∧ 0 ≤ n.toInt ∧ j.toInt + n.toInt ≤ (M.1 (47 + 2 * db) 4).toInt then f_X12_shift_113 N K N a i b j n 0 M' else some (-13, M') := by
              intro M' hM'
              rw [m0, hM', if_neg (by rw [oLtI, tl_0]; omega), if_pos (by rw [oLeI, tl_0]; omega), if_neg (by rw [oLtI, tl_20]; omega), if_pos (by rw [oEqI]; omega), x5, z5]
              by_cases q1 : n.toInt < 0
              · rw [if_pos (by rw [oLtI, tl_0]; exact q1), if_neg (by omega)]
              · rw [if_neg (by rw [oLtI, tl_0]; exact q1)]
                by_cases q2 : i.toInt < 0
                · rw [if_pos (by rw [oLtI, tl_0]; exact q2), if_neg (by omega)]
                · rw [if_neg (by rw [oLtI, tl_0]; exact q2)]
                  by_cases q3 : j.toInt < 0
                  · rw [if_pos (by rw [oLtI, tl_0]; exact q3), if_neg (by omega)]
                  · rw [if_neg (by rw [oLtI, tl_0]; exact q3)]
                    have s1 : (M.1 (47 + 2 * da) 4 - n).toInt = (M.1 (47 + 2 * da) 4).toInt - n.toInt := oSub (by omega) (by omega)
                    have s2 : (M.1 (47 + 2 * db) 4 - n).toInt = (M.1 (47 + 2 * db) 4).toInt - n.toInt := oSub (by omega) (by omega)
                    by_cases q4 : i.toInt + n.toInt ≤ (M.1 (47 + 2 * da) 4).toInt
                    · rw [if_neg (by rw [oLtI, s1]; omega)]
                      by_cases q5 : j.toInt + n.toInt ≤ (M.1 (47 + 2 * db) 4).toInt
                      · rw [if_pos (by rw [oLeI, s2]; omega), if_pos (by omega)]
                      · rw [if_neg (by rw [oLeI, s2]; omega), if_neg (by omega)]
                    · rw [if_pos (by rw [oLtI, s1]; omega), if_neg (by omega)]
            rw [if_pos cs, ref9n x1 x6 x7, oB2_p]
            by_cases q1 : 0 ≤ i.toInt ∧ 0 ≤ n.toInt ∧ i.toInt + n.toInt ≤ (M.1 (47 + 2 * da) 4).toInt
            · rw [if_pos q1, if_pos rfl, ref9n z1 z6 z7, oB2_p]
              by_cases q2 : 0 ≤ j.toInt ∧ 0 ≤ n.toInt ∧ j.toInt + n.toInt ≤ (M.1 (47 + 2 * db) 4).toInt
              · rw [if_pos q2, if_pos rfl]
                have ni : i.toNatClampNeg = i.toInt.toNat := rfl
                have nj : j.toNatClampNeg = j.toInt.toNat := rfl
                have nn : n.toNatClampNeg = n.toInt.toNat := rfl
                have hcp : ∀ A : Option (Int32 × oM), oCpOk i j n 60 60 A = A := fun A => by
                  unfold oCpOk
                  rw [if_neg]
                  simp only [oLtI, tl_0]
                  omega
                rw [hcp]
                generalize hM1 : oRowL M (47 + 2 * db + 1) (va_cpy (M.2 (47 + 2 * da + 1)) (M.2 (47 + 2 * db + 1)) i.toNatClampNeg j.toNatClampNeg n.toNatClampNeg) = M1
                have r1 : M1.1 = M.1 := by rw [← hM1]; rfl
                have r99 : M1.2 99 = M.2 99 := by rw [← hM1]; unfold oRowL; simp; omega
                obtain ⟨M', k1, k2, k3, k4⟩ := sh_in (N := N) hN (K := K) ca.1 ca.2 q1.1 q1.2.1 (by omega) cb.1 cb.2 q2.1 (by omega) (M.2 99) N 0 M1 (by omega) (by omega) (fun q hq => by omega) r99
                refine oAg.mk M' rfl ?_ (h.long (by rw [k2, r1]) ?_)
                · rw [m1 M1 r1, if_pos ⟨q1, q2⟩]
                  exact k1
                · intro d hd
                  have hd' := hsh d hd
                  unfold iShelf1 at hd' ⊢
                  rw [k2, r1]
                  rcases hd' with w | w | ⟨w1, w2, w3, w4, w5, w6, w7⟩
                  · exact Or.inl w
                  · exact Or.inr (Or.inl w)
                  · refine Or.inr (Or.inr ⟨w1, w2, w3, w4, w5, w6, fun p hp => ?_⟩)
                    rw [k4, k3 (48 + 2 * d) (by omega) (by omega), hda, hdb]
                    have hrow : M1.2 (48 + 2 * d) = if d = db then va_cpy (M.2 (47 + 2 * da + 1)) (M.2 (47 + 2 * db + 1)) i.toNatClampNeg j.toNatClampNeg n.toNatClampNeg else M.2 (48 + 2 * d) := by
                      rw [← hM1]
                      unfold oRowL
                      by_cases qd : d = db
                      · subst qd
                        rw [if_pos rfl]
                        simp [show 47 + 2 * d + 1 = 48 + 2 * d by omega]
                      · rw [if_neg qd]
                        simp [show ¬ 48 + 2 * d = 47 + 2 * db + 1 by omega]
                    rw [hrow]
                    have w6' := w6.2
                    by_cases qd : d = db
                    · subst qd
                      rw [if_pos rfl]
                      have hva : ∀ i : Nat, (i : Int) < (M.1 (47 + 2 * da) 4).toInt → M.2 99 (60 * da + i) = M.2 (47 + 2 * da + 1) i := by
                        intro i hi
                        rcases ha with ⟨v1, -⟩ | ⟨v1, -⟩ | ⟨v1, v2, v3, v4, v5, v6, v7⟩
                        · rw [x1] at v1; exact absurd v1 (by decide)
                        · rw [x1] at v1; exact absurd v1 (by decide)
                        · rw [show 47 + 2 * da + 1 = 48 + 2 * da by omega]
                          exact v7 i hi
                      unfold va_cpy
                      by_cases qp : j.toNatClampNeg ≤ p ∧ p < j.toNatClampNeg + n.toNatClampNeg
                      · rw [if_pos (by omega), if_pos (by omega)]
                        have := hva (i.toNatClampNeg + (p - j.toNatClampNeg)) (by omega)
                        exact Eq.trans (congrArg (M.2 99) (by omega)) (this.trans (congrArg (M.2 (47 + 2 * da + 1)) (by omega)))
                      · rw [if_neg (by omega), if_neg (by omega), show 47 + 2 * d + 1 = 48 + 2 * d by omega]
                        exact w7 p hp
                    · rw [if_neg qd, if_neg (by omega)]
                      exact w7 p hp
              · rw [if_neg q2, if_neg (by decide)]
                refine oAg.mk M rfl ?_ h
                rw [m1 M rfl, if_neg (fun q => q2 q.2)]
            · rw [if_neg q1, if_neg (by decide)]
              refine oAg.mk M rfl ?_ h
              rw [m1 M rfl, if_neg (fun q => q1 q.1)]
          · rw [if_neg cs]
            refine oAg.mk M rfl ?_ h
            rw [m0, if_neg (by rw [oLtI, tl_0]; omega), if_pos (by rw [oLeI, tl_0]; omega), if_neg (by rw [oLtI, tl_20]; omega), if_neg (by rw [oEqI] at cs ⊢; omega)]
    · rw [if_neg cb, oCs_n]
      refine oAg.mk M rfl ?_ h
      unfold f_X12_shift
      rw [isSh12, oB2_p, decide_eq_true ca, cond_true, isSh12, oB2_p, decide_eq_false cb, cond_false]
  · rw [if_neg ca, oCs_n, shAt, oB2_p]
    refine oAg.mk (r := -1) (M1 := M) M ?_ ?_ h
    · by_cases cb : 0 ≤ b.toInt ∧ b.toInt ≤ 5
      · rw [if_pos cb, oCs_s]
      · rw [if_neg cb, oCs_n]
    · unfold f_X12_shift
      rw [isSh12, oB2_p, decide_eq_false ca, cond_false]
