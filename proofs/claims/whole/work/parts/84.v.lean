/-! the numbers of a table, one behind the other -/
theorem nb_loop {N : Nat} (hN : 100 ≤ N) {K : oK} (fl : Int32) {L : Nat} (hL : L ≤ 120) : ∀ (f n p : Nat) (M : oM), n ≤ 12 → 13 < n + f → p ≤ L → M.1 17 2 = nI L → M.1 17 3 = nI p → gdN fl M n →
    ∃ r M', f_X10_readNumbers_2 N K f fl (nI n) M = some (r, M') ∧ oFr [17, 19] [] M M' ∧ M'.1 17 2 = nI L ∧ ((r = -1 ∧ ∃ q : Nat, q ≤ 120 ∧ M'.1 17 3 = nI q) ∨ (∃ m : Nat, 1 ≤ m ∧ m ≤ 13 ∧ r = nI m ∧ gdN fl M' m)) ∧
    ∀ M2 : oM, M2.1 59 15 = nI L → M2.1 59 19 = nI n → btM M2 = btC M → (∀ j, j < n → M2.1 72 j = M.1 19 j) → ∃ r2 M2', f_X12_readNumbers_7 N K f fl (nI p) M2 = some (r2, M2') ∧ oFr [72] [19] M2 M2' ∧ ((r = -1 ∧ M'.1 17 3 = r2) ∨ (0 < r.toInt ∧ r2 = -1 ∧ M2'.1 59 19 = r ∧ ∀ j : Nat, (j : Int) < r.toInt → M2'.1 72 j = M'.1 19 j)) := by
  intro f
  induction f with
  | zero => intro n p M h1 h2; omega
  | succ f ih =>
    intro n p M h1 h2 h3 h4 h5 hg
    have en : (nI n).toInt = n := nI_toInt (by omega)
    have eL : (nI L).toInt = L := nI_toInt (by omega)
    have hB : ∀ i, L ≤ i → btC M i = -1 := fun i hi => by unfold btC; rw [h4, eL, if_neg (by omega)]
    have hb := rdI_b hB 5 p 0 1 h3 (by decide) (by decide) (by decide)
    have hd := dg10 (N := N) (K := K) (nI n) fl (nI p) 5 N p 0 M (by omega) (by omega) (by omega) (by rw [h4, eL]; omega) h5
    rw [show nI (5 - 5) = 0 from rfl] at hd
    have hmd : ∀ M2 : oM, M2.1 59 15 = nI L → btM M2 = btC M → f_X12_readNumbers_7 N K (f + 1) fl (nI p) M2 = f_X12_readNumbers_51 N K (f_X12_readNumbers_7 N K f) fl (nI (rdI (btC M) 5 p 0).1) (nI p) (rdI (btC M) 5 p 0).2 M2 := by
      intro M2 g1 g2
      rw [f_X12_readNumbers_7]
      dsimp only
      rw [dg12 (N := N) (K := K) (f_X12_readNumbers_7 N K f) fl (p0 := p) (M := M2) (by rw [g1, eL]; omega) 5 N p 0 (by omega) (by omega) (by omega) (by omega), g2]
    generalize hq : (rdI (btC M) 5 p 0).1 = q at *
    generalize hv : (rdI (btC M) 5 p 0).2 = v at *
    have eq : (nI q).toInt = q := nI_toInt (by omega)
    have eb : btC (oUp M 17 3 (nI q)) = btC M := btC_e (by rw [oUp_at, if_neg (by omega)]) (oUp_ro _ _ _ _ (by decide))
    rw [f_X10_readNumbers_2]
    dsimp only
    rw [if_neg (by rw [oLeI, en, show (Int32.ofNat 13).toInt = 13 from rfl]; omega)]
    unfold f_X10_readNumber
    rw [h5, hd]
    -- a number that may not be
    have bad : f_X10_readNumber_66 N K (nI n) fl (nI p) v (oUp M 17 3 (nI q)) = some (false, oUp M 17 3 (nI p)) → (∀ M2 : oM, M2.1 59 19 = nI n → (∀ j, j < n → M2.1 72 j = M.1 19 j) → f_X12_readNumbers_51 N K (f_X12_readNumbers_7 N K f) fl (nI q) (nI p) v M2 = some (nI p, M2)) →
        ∃ r M', oB2 (f_X10_readNumber_66 N K (nI n) fl (nI p) v (oUp M 17 3 (nI q))) (fun v2 M3 => cond v2 (if M3.1 17 3 < M3.1 17 2 then oB2 (f_X10_byteAt N K (M3.1 17 3) M3) (fun v6 M7 => if v6 = 44 then if nI n = Int32.ofNat 13 - 1 then some (-1, M7) else f_X10_readNumbers_2 N K f fl (nI n + 1) (oUp M7 17 3 (M7.1 17 3 + 1)) else some (-1, M7)) else some (nI n + 1, M3)) (some (-1, M3))) = some (r, M') ∧ oFr [17, 19] [] M M' ∧ M'.1 17 2 = nI L ∧ ((r = -1 ∧ ∃ q : Nat, q ≤ 120 ∧ M'.1 17 3 = nI q) ∨ (∃ m : Nat, 1 ≤ m ∧ m ≤ 13 ∧ r = nI m ∧ gdN fl M' m)) ∧
        ∀ M2 : oM, M2.1 59 15 = nI L → M2.1 59 19 = nI n → btM M2 = btC M → (∀ j, j < n → M2.1 72 j = M.1 19 j) → ∃ r2 M2', f_X12_readNumbers_7 N K (f + 1) fl (nI p) M2 = some (r2, M2') ∧ oFr [72] [19] M2 M2' ∧ ((r = -1 ∧ M'.1 17 3 = r2) ∨ (0 < r.toInt ∧ r2 = -1 ∧ M2'.1 59 19 = r ∧ ∀ j : Nat, (j : Int) < r.toInt → M2'.1 72 j = M'.1 19 j)) := by
      intro k1 k2
      rw [k1, oB2_p, cond_false]
      refine ⟨-1, _, rfl, .up (by decide) .rf, by rw [oUp_at, if_neg (by omega)]; exact h4, Or.inl ⟨rfl, p, by omega, by rw [oUp_at, if_pos ⟨rfl, rfl⟩]⟩, fun M2 g1 g2 g3 g4 => ⟨nI p, M2, ?_, .rf, Or.inl ⟨rfl, by rw [oUp_at, if_pos ⟨rfl, rfl⟩]⟩⟩⟩
      rw [hmd M2 g1 g3, k2 M2 g2 g4]
    by_cases cq : q = p
    · refine bad ?_ (fun M2 _ _ => ?_)
      · unfold f_X10_readNumber_66
        rw [cq, if_pos (by rw [oUp_at, if_pos ⟨rfl, rfl⟩])]
      · unfold f_X12_readNumbers_51
        rw [cq, if_pos rfl]
    · -- a number that may be
      have good : f_X10_readNumber_66 N K (nI n) fl (nI p) v (oUp M 17 3 (nI q)) = f_X10_readNumber_120 N K (nI n) v (oUp M 17 3 (nI q)) → (∀ M2 : oM, M2.1 59 19 = nI n → (∀ j, j < n → M2.1 72 j = M.1 19 j) → f_X12_readNumbers_51 N K (f_X12_readNumbers_7 N K f) fl (nI q) (nI p) v M2 = f_X12_readNumbers_108 N K (f_X12_readNumbers_7 N K f) fl (nI q) v M2) → gdN fl (oUp (oUp M 17 3 (nI q)) 19 n v) (n + 1) →
          ∃ r M', oB2 (f_X10_readNumber_66 N K (nI n) fl (nI p) v (oUp M 17 3 (nI q))) (fun v2 M3 => cond v2 (if M3.1 17 3 < M3.1 17 2 then oB2 (f_X10_byteAt N K (M3.1 17 3) M3) (fun v6 M7 => if v6 = 44 then if nI n = Int32.ofNat 13 - 1 then some (-1, M7) else f_X10_readNumbers_2 N K f fl (nI n + 1) (oUp M7 17 3 (M7.1 17 3 + 1)) else some (-1, M7)) else some (nI n + 1, M3)) (some (-1, M3))) = some (r, M') ∧ oFr [17, 19] [] M M' ∧ M'.1 17 2 = nI L ∧ ((r = -1 ∧ ∃ q : Nat, q ≤ 120 ∧ M'.1 17 3 = nI q) ∨ (∃ m : Nat, 1 ≤ m ∧ m ≤ 13 ∧ r = nI m ∧ gdN fl M' m)) ∧
          ∀ M2 : oM, M2.1 59 15 = nI L → M2.1 59 19 = nI n → btM M2 = btC M → (∀ j, j < n → M2.1 72 j = M.1 19 j) → ∃ r2 M2', f_X12_readNumbers_7 N K (f + 1) fl (nI p) M2 = some (r2, M2') ∧ oFr [72] [19] M2 M2' ∧ ((r = -1 ∧ M'.1 17 3 = r2) ∨ (0 < r.toInt ∧ r2 = -1 ∧ M2'.1 59 19 = r ∧ ∀ j : Nat, (j : Int) < r.toInt → M2'.1 72 j = M'.1 19 j)) := by
        intro k1 k2 k3
        have k4 : f_X10_readNumber_120 N K (nI n) v (oUp M 17 3 (nI q)) = some (true, oUp (oUp M 17 3 (nI q)) 19 n v) := by
          unfold f_X10_readNumber_120
          rw [oIx_p (by omega) (by omega), nI_n (by omega)]
        have w3 : (oUp (oUp M 17 3 (nI q)) 19 n v).1 17 3 = nI q := by rw [oUp_at, if_neg (by omega), oUp_at, if_pos ⟨rfl, rfl⟩]
        have w2 : (oUp (oUp M 17 3 (nI q)) 19 n v).1 17 2 = nI L := by rw [oUp_at, if_neg (by omega), oUp_at, if_neg (by omega)]; exact h4
        have wb : btC (oUp (oUp M 17 3 (nI q)) 19 n v) = btC M := btC_e (by rw [w2, h4]) (by rw [oUp_ro _ _ _ _ (by decide), oUp_ro _ _ _ _ (by decide)])
        have wf : oFr [17, 19] [] M (oUp (oUp M 17 3 (nI q)) 19 n v) := .up (by decide) (.up (by decide) .rf)
        have w19 : ∀ j, j < n → (oUp (oUp M 17 3 (nI q)) 19 n v).1 19 j = M.1 19 j := fun j hj => by rw [oUp_at, if_neg (by omega), oUp_at, if_neg (by omega)]
        have w19n : (oUp (oUp M 17 3 (nI q)) 19 n v).1 19 n = v := by rw [oUp_at, if_pos ⟨rfl, rfl⟩]
        rw [k1, k4, oB2_p, cond_true]
        generalize hM3 : oUp (oUp M 17 3 (nI q)) 19 n v = M3 at *
        -- the reference, behind the number
        have hm4 : ∀ M2 : oM, M2.1 59 15 = nI L → M2.1 59 19 = nI n → btM M2 = btC M → (∀ j, j < n → M2.1 72 j = M.1 19 j) → ∃ M4, oFr [72] [19] M2 M4 ∧ M4.1 59 15 = nI L ∧ M4.1 59 19 = nI (n + 1) ∧ btM M4 = btC M3 ∧ (∀ j, j < n + 1 → M4.1 72 j = M3.1 19 j) ∧
            f_X12_readNumbers_7 N K (f + 1) fl (nI p) M2 = if btC M q = 44 then (if n + 1 = 13 then f_X12_readNumbers_148 N K (nI q) M4 else f_X12_readNumbers_7 N K f fl (nI (q + 1)) M4) else f_X12_readNumbers_148 N K (nI q) M4 := by
          intro M2 g1 g2 g3 g4
          refine ⟨oUp (oUp M2 72 n v) 59 19 (nI (n + 1)), .up59 (by decide) (.up (by decide) .rf), ?_, ?_, ?_, ?_, ?_⟩
          · rw [oUp_at, if_neg (by omega), oUp_at, if_neg (by omega)]; exact g1
          · rw [oUp_at, if_pos ⟨rfl, rfl⟩]
          · rw [wb, ← g3]
            exact btM_e (by rw [oUp_at, if_neg (by omega), oUp_at, if_neg (by omega)]) (by rw [oUp_ro _ _ _ _ (by decide), oUp_ro _ _ _ _ (by decide)])
          · intro j hj
            rw [oUp_at, if_neg (by omega), oUp_at]
            by_cases z : j = n
            · rw [if_pos ⟨rfl, z⟩, z, w19n]
            · rw [if_neg (fun y => z y.2), w19 j (by omega)]
              exact g4 j (by omega)
          · have e15 : (oUp (oUp M2 72 n v) 59 19 (nI (n + 1))).1 59 15 = nI L := by rw [oUp_at, if_neg (by omega), oUp_at, if_neg (by omega)]; exact g1
            have e19 : (oUp (oUp M2 72 n v) 59 19 (nI (n + 1))).1 59 19 = nI (n + 1) := by rw [oUp_at, if_pos ⟨rfl, rfl⟩]
            have ebm : btM (oUp (oUp M2 72 n v) 59 19 (nI (n + 1))) = btC M := by
              rw [← g3]
              exact btM_e (by rw [oUp_at, if_neg (by omega), oUp_at, if_neg (by omega)]) (by rw [oUp_ro _ _ _ _ (by decide), oUp_ro _ _ _ _ (by decide)])
            rw [hmd M2 g1 g3, k2 M2 g2 g4]
            unfold f_X12_readNumbers_108
            rw [g2, oIx_p (by omega) (by omega), nI_n (by omega), oUp_ro _ _ _ _ (show (59 : Nat) ≠ 72 by decide), g2, nI_1, byt12 (by omega) (by rw [e15, eL]; omega), oB2_p, ebm, e19, nI_1]
            by_cases z : btC M q = 44
            · rw [if_pos z, if_pos z]
              by_cases z2 : n + 1 = 13
              · rw [if_pos z2, if_pos (by rw [z2]; rfl)]
              · rw [if_neg z2, if_neg (by rw [show (13 : Int32) = nI 13 from rfl, nI_inj (by omega) (by omega)]; exact z2)]
            · rw [if_neg z, if_neg z]
        rw [w3, w2]
        by_cases cl : q < L
        · rw [if_pos (by rw [oLtI, eq, eL]; omega), byt10 (by omega) (by rw [w2, eL]; omega), oB2_p, wb]
          -- what the reference says of a place ahead of the end
          have h148 : ∀ M4 : oM, M4.1 59 15 = nI L → f_X12_readNumbers_148 N K (nI q) M4 = some (nI q, M4) := by
            intro M4 g
            unfold f_X12_readNumbers_148
            rw [g, if_neg (by rw [oLeI, eq, eL]; omega)]
          by_cases z : btC M q = 44
          · rw [if_pos z]
            by_cases z2 : n + 1 = 13
            · rw [if_pos (by rw [show n = 12 by omega]; rfl)]
              refine ⟨-1, M3, rfl, wf, w2, Or.inl ⟨rfl, q, by omega, w3⟩, fun M2 g1 g2 g3 g4 => ?_⟩
              obtain ⟨M4, m1, m2, m3, m4, m5, m6⟩ := hm4 M2 g1 g2 g3 g4
              refine ⟨nI q, M4, ?_, m1, Or.inl ⟨rfl, w3⟩⟩
              rw [m6, if_pos z, if_pos z2, h148 M4 m2]
            · rw [if_neg (by rw [show (Int32.ofNat 13 - 1 : Int32) = nI 12 from rfl, nI_inj (by omega) (by omega)]; omega), w3, nI_1, nI_1]
              have wb5 : btC (oUp M3 17 3 (nI (q + 1))) = btC M3 := btC_e (by rw [oUp_at, if_neg (by omega)]) (oUp_ro _ _ _ _ (by decide))
              obtain ⟨r, M', a1, a2, a3, a4, a5⟩ := ih (n + 1) (q + 1) (oUp M3 17 3 (nI (q + 1))) (by omega) (by omega) (by omega) (by rw [oUp_at, if_neg (by omega)]; exact w2) (by rw [oUp_at, if_pos ⟨rfl, rfl⟩]) (by
                unfold gdN at k3 ⊢
                rw [oUp_ro _ _ _ _ (show (19 : Nat) ≠ 17 by decide)]
                exact k3)
              refine ⟨r, M', a1, wf.tr (oFr.tr (.up (by decide) .rf) a2), a3, a4, fun M2 g1 g2 g3 g4 => ?_⟩
              obtain ⟨M4, m1, m2, m3, m4, m5, m6⟩ := hm4 M2 g1 g2 g3 g4
              obtain ⟨r2, M5, d1, d2, d3⟩ := a5 M4 m2 m3 (by rw [wb5]; exact m4) (fun j hj => by rw [oUp_ro _ _ _ _ (show (19 : Nat) ≠ 17 by decide)]; exact m5 j hj)
              refine ⟨r2, M5, ?_, m1.tr d2, d3⟩
              rw [m6, if_pos z, if_neg z2, d1]
          · rw [if_neg z]
            refine ⟨-1, M3, rfl, wf, w2, Or.inl ⟨rfl, q, by omega, w3⟩, fun M2 g1 g2 g3 g4 => ?_⟩
            obtain ⟨M4, m1, m2, m3, m4, m5, m6⟩ := hm4 M2 g1 g2 g3 g4
            refine ⟨nI q, M4, ?_, m1, Or.inl ⟨rfl, w3⟩⟩
            rw [m6, if_neg z, h148 M4 m2]
        · rw [if_neg (by rw [oLtI, eq, eL]; omega), nI_1]
          have e1 : (nI (n + 1)).toInt = ((n + 1 : Nat) : Int) := nI_toInt (by omega)
          refine ⟨nI (n + 1), M3, rfl, wf, w2, Or.inr ⟨n + 1, by omega, by omega, rfl, k3⟩, fun M2 g1 g2 g3 g4 => ?_⟩
          obtain ⟨M4, m1, m2, m3, m4, m5, m6⟩ := hm4 M2 g1 g2 g3 g4
          refine ⟨-1, M4, ?_, m1, Or.inr ⟨by omega, rfl, m3, fun j hj => m5 j (by omega)⟩⟩
          rw [m6, hB q (by omega), if_neg (by decide)]
          unfold f_X12_readNumbers_148
          rw [m2, if_pos (by rw [oLeI, eq, eL]; omega)]
      have wq : (oUp M 17 3 (nI q)).1 17 3 = nI q := by rw [oUp_at, if_pos ⟨rfl, rfl⟩]
      have nqp : ¬ nI q = nI p := by rw [nI_inj (by omega) (by omega)]; exact cq
      have w19' : ∀ j, (oUp M 17 3 (nI q)).1 19 j = M.1 19 j := fun j => by rw [oUp_at, if_neg (by omega)]
      have gd1 : (n = 0 ∨ (if fl = 0 then v.toInt ≤ (M.1 19 (n - 1)).toInt else (M.1 19 (n - 1)).toInt ≤ v.toInt)) → gdN fl (oUp (oUp M 17 3 (nI q)) 19 n v) (n + 1) := by
        intro ho
        refine ⟨fun j hj => ?_, fun j hj => ?_⟩
        · by_cases z : j = n
          · rw [oUp_at, if_pos ⟨rfl, z⟩]; omega
          · rw [oUp_at, if_neg (fun y => z y.2), w19']
            exact hg.1 j (by omega)
        · by_cases z : j + 1 = n
          · have u1 : (oUp (oUp M 17 3 (nI q)) 19 n v).1 19 (j + 1) = v := by rw [oUp_at, if_pos ⟨rfl, z⟩]
            have u2 : (oUp (oUp M 17 3 (nI q)) 19 n v).1 19 j = M.1 19 j := by rw [oUp_at, if_neg (fun y => by omega), w19']
            rw [u1, u2]
            rcases ho with ho | ho
            · omega
            · rw [show n - 1 = j by omega] at ho
              exact ho
          · have u1 : (oUp (oUp M 17 3 (nI q)) 19 n v).1 19 (j + 1) = M.1 19 (j + 1) := by rw [oUp_at, if_neg (fun y => z y.2), w19']
            have u2 : (oUp (oUp M 17 3 (nI q)) 19 n v).1 19 j = M.1 19 j := by rw [oUp_at, if_neg (fun y => by omega), w19']
            rw [u1, u2]
            exact hg.2 j (by omega)
      by_cases cn : n = 0
      · refine good ?_ (fun M2 g2 g4 => ?_) (gd1 (Or.inl cn))
        · unfold f_X10_readNumber_66
          rw [wq, if_neg nqp, if_pos (by rw [oLeI, en, tl_0]; omega)]
        · unfold f_X12_readNumbers_51
          rw [if_neg nqp, g2, if_pos (by rw [oLeI, en, tl_0]; omega)]
      · have e1 : nI n - 1 = nI (n - 1) := pk_sub (a := n) (b := 1) (by omega)
        have en1 : (nI (n - 1)).toInt = ((n - 1 : Nat) : Int) := nI_toInt (by omega)
        have u1 : f_X10_readNumber_66 N K (nI n) fl (nI p) v (oUp M 17 3 (nI q)) = if fl = 0 then (if v ≤ M.1 19 (n - 1) then f_X10_readNumber_120 N K (nI n) v (oUp M 17 3 (nI q)) else f_X10_readNumber_113 N K (nI p) (oUp M 17 3 (nI q))) else (if M.1 19 (n - 1) ≤ v then f_X10_readNumber_120 N K (nI n) v (oUp M 17 3 (nI q)) else f_X10_readNumber_113 N K (nI p) (oUp M 17 3 (nI q))) := by
          unfold f_X10_readNumber_66
          rw [wq, if_neg nqp, if_neg (by rw [oLeI, en, tl_0]; omega), e1, oIx_p (by omega) (by omega), oIx_p (by omega) (by omega), nI_n (by omega), w19']
        have u2 : ∀ M2 : oM, M2.1 59 19 = nI n → (∀ j, j < n → M2.1 72 j = M.1 19 j) → f_X12_readNumbers_51 N K (f_X12_readNumbers_7 N K f) fl (nI q) (nI p) v M2 = if fl = 0 then (if v ≤ M.1 19 (n - 1) then f_X12_readNumbers_108 N K (f_X12_readNumbers_7 N K f) fl (nI q) v M2 else some (nI p, M2)) else (if M.1 19 (n - 1) ≤ v then f_X12_readNumbers_108 N K (f_X12_readNumbers_7 N K f) fl (nI q) v M2 else some (nI p, M2)) := by
          intro M2 g2 g4
          unfold f_X12_readNumbers_51
          rw [if_neg nqp, g2, if_neg (by rw [oLeI, en, tl_0]; omega), e1, oIx_p (by omega) (by omega), oIx_p (by omega) (by omega), nI_n (by omega), g4 _ (by omega)]
        have u3 : f_X10_readNumber_113 N K (nI p) (oUp M 17 3 (nI q)) = some (false, oUp M 17 3 (nI p)) := by
          unfold f_X10_readNumber_113
          rw [oUp_oUp]
        by_cases cf : fl = 0
        · rw [if_pos cf] at u1
          by_cases co : v ≤ M.1 19 (n - 1)
          · rw [if_pos co] at u1
            exact good u1 (fun M2 g2 g4 => by rw [u2 M2 g2 g4, if_pos cf, if_pos co]) (gd1 (Or.inr (by rw [if_pos cf]; exact oLeI.mp co)))
          · rw [if_neg co, u3] at u1
            exact bad u1 (fun M2 g2 g4 => by rw [u2 M2 g2 g4, if_pos cf, if_neg co])
        · rw [if_neg cf] at u1
          by_cases co : M.1 19 (n - 1) ≤ v
          · rw [if_pos co] at u1
            exact good u1 (fun M2 g2 g4 => by rw [u2 M2 g2 g4, if_neg cf, if_pos co]) (gd1 (Or.inr (by rw [if_neg cf]; exact oLeI.mp co)))
          · rw [if_neg co, u3] at u1
            exact bad u1 (fun M2 g2 g4 => by rw [u2 M2 g2 g4, if_neg cf, if_neg co])
