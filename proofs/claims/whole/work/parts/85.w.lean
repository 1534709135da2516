/-! a table told: the head, and what is kept -/
theorem oInv.gt {K : oK} {M M' : oM} (h : oInv K M) (f : oFr [11, 12, 13, 14, 15, 16, 17, 18, 19, 67, 68, 69, 70, 71, 72, 80] [11, 15, 19] M M') (hge : iGear M') (g11 : (M.1 11 6).toInt ≤ (M'.1 11 6).toInt) (ht : iTape M') : oInv K M' := by
  obtain ⟨hs, hg, hst, -, -, hlo, hth, hac, hl, hsh⟩ := h
  exact ⟨hs, hg.fr f (by decide) (by decide), hst.fr f (by decide) (by decide), hge, ht, hlo.fr f (by decide) (by decide), hth.fr f (by decide) (by rw [f.1 40 (by decide) (by decide)]) (by decide), hac.fr f (by decide) (by decide), hl.grow f (by decide) (by decide) (by decide) (by rw [f.1 6 (by decide) (by decide)]; omega) g11 (fun k _ => by rw [f.1 7 (by decide) (by decide), f.1 8 (by decide) (by decide)]; exact ⟨rfl, rfl⟩), hsh.fr f (by decide)⟩
theorem bt_inv {M : oM} (h : iTape M) : btM M = btC M := by
  obtain ⟨⟨e1, b0, b1⟩, hv⟩ := h
  funext i
  unfold btM btC
  rw [e1]
  by_cases c : (i : Int) < (M.1 17 2).toInt
  · rw [if_pos c, if_pos c, hv i c]
  · rw [if_neg c, if_neg c]
theorem cp123 {N : Nat} {K : oK} {t m : Nat} (ht : t < 9) (hm : m ≤ 13) : ∀ (n k : Nat) (M : oM), k ≤ m → m < k + n → M.1 59 19 = nI m → ∃ M', f_X12_readTable_123 N K n (nI t) (nI k) M = some (-1, M') ∧ oFr [71] [] M M' ∧ ∀ i, M'.1 71 i = if 13 * t + k ≤ i ∧ i < 13 * t + m then M.1 72 (i - 13 * t) else M.1 71 i := by
  intro n
  induction n with
  | zero => intro k M h1 h2; omega
  | succ n ih =>
    intro k M h1 h2 h3
    have ek : (nI k).toInt = k := nI_toInt (by omega)
    have em : (nI m).toInt = m := nI_toInt (by omega)
    have et : (nI t).toInt = t := nI_toInt (by omega)
    rw [f_X12_readTable_123]
    dsimp only
    rw [h3]
    by_cases c : k = m
    · rw [if_pos (by rw [oLeI, ek, em]; omega)]
      exact ⟨M, rfl, .rf, fun i => by rw [if_neg (by omega)]⟩
    · have e1 : (13 * nI t).toInt = 13 * t := by rw [oMul (by rw [tl_13]; omega) (by rw [tl_13]; omega), tl_13, et]
      have e2 : (13 * nI t + nI k).toInt = 13 * t + k := by rw [oAdd (by omega) (by omega), e1, ek]
      have e3 : (13 * nI t + nI k).toNatClampNeg = 13 * t + k := by rw [oTnn, e2]; omega
      rw [if_neg (by rw [oLeI, ek, em]; omega), oIx_p (by omega) (by omega), oIx_p (by omega) (by omega), nI_n (by omega), e3, nI_1]
      obtain ⟨M', a1, a2, a3⟩ := ih (k + 1) (oUp M 71 (13 * t + k) (M.1 72 k)) (by omega) (by omega) (by rw [oUp_at, if_neg (by omega)]; exact h3)
      refine ⟨M', a1, oFr.tr (.up (by decide) .rf) a2, fun i => ?_⟩
      rw [a3, oUp_ro _ _ _ _ (show (72 : Nat) ≠ 71 by decide), oUp_at]
      by_cases d : i = 13 * t + k
      · rw [if_neg (by omega), if_pos (by omega), if_pos (by omega), show i - 13 * t = k by omega]
      · by_cases d2 : 13 * t + k ≤ i ∧ i < 13 * t + m
        · rw [if_pos (by omega), if_pos d2]
        · rw [if_neg (by omega), if_neg (by omega), if_neg d2]
theorem tb_fin {K : oK} {M : oM} (h : oInv K M) {N : Nat} (hN : 100 ≤ N) {fl : Int32} {t : Nat} (ht : t < 9) (hfl : fl = if t < 3 then 1 else 0) (hL3 : 3 ≤ (M.1 17 2).toInt) : ∃ r Mc, f_X10_readInto_28 N K (nI t) fl (oUp M 17 3 3) = some (r, Mc) ∧ Mc.1 59 = M.1 59 ∧ Mc.1 69 = M.1 69 ∧
    ∃ v Mm, oB2 (f_X12_readNumbers N K 3 fl Mc) (fun v17 M18 => if v17 < 0 then f_X12_readTable_107 N K (nI t) M18 else some (v17, M18)) = some (v, Mm) ∧ (if v < 0 then (some ((oUp Mm 59 15 0).1 59 19, oUp Mm 59 15 0) : Option (Int32 × oM)) else some (-100 - v, oUp Mm 59 15 0)) = some (r, oUp Mm 59 15 0) ∧ oInv K (oUp Mm 59 15 0) := by
  have hbt := bt_inv h.2.2.2.2.1
  obtain ⟨⟨e1, b0, b1⟩, hv⟩ := id h.2.2.2.2.1
  obtain ⟨⟨ge1, ge2, ge3⟩, gr, gv, g4, g5, g6, g7⟩ := id h.2.2.2.1
  have hLL : M.1 17 2 = nI (M.1 17 2).toInt.toNat := oNI (by omega)
  obtain ⟨r, M', a1, a2, a3, a4, a5⟩ := nb_loop hN (K := K) fl (L := (M.1 17 2).toInt.toNat) (by omega) N 0 3 (oUp M 17 3 3) (by omega) (by omega) (by omega) (by rw [oUp_at, if_neg (by omega)]; exact hLL) (by rw [oUp_at, if_pos ⟨rfl, rfl⟩]; rfl) ⟨fun j hj => by omega, fun j hj => by omega⟩
  have fA : oFr [17, 19] [] M M' := oFr.tr (.up (by decide) .rf) a2
  have a1' : f_X10_readNumbers N K fl (oUp M 17 3 3) = some (r, M') := a1
  have hb17 : btC (oUp M 17 3 3) = btC M := btC_e (by rw [oUp_at, if_neg (by omega)]) (oUp_ro _ _ _ _ (by decide))
  -- the reference's numbers, from a state that the class leaves
  have ref : ∀ Mc : oM, Mc.1 59 = M.1 59 → Mc.1 69 = M.1 69 → ∃ r2 M2', f_X12_readNumbers N K 3 fl Mc = some (r2, M2') ∧ oFr [72] [19] Mc M2' ∧ ((r = -1 ∧ M'.1 17 3 = r2) ∨ (0 < r.toInt ∧ r2 = -1 ∧ M2'.1 59 19 = r ∧ ∀ j : Nat, (j : Int) < r.toInt → M2'.1 72 j = M'.1 19 j)) := by
    intro Mc c1 c2
    have c15 : (oUp Mc 59 19 0).1 59 15 = nI (M.1 17 2).toInt.toNat := by rw [oUp_at, if_neg (by omega), c1, e1]; exact hLL
    obtain ⟨r2, M2', d1, d2, d3⟩ := a5 (oUp Mc 59 19 0) c15 (by rw [oUp_at, if_pos ⟨rfl, rfl⟩]; rfl) (by
      rw [hb17, ← hbt]
      exact btM_e (by rw [oUp_at, if_neg (by omega), c1]) (by rw [oUp_ro _ _ _ _ (by decide), c2])) (fun j hj => by omega)
    exact ⟨r2, M2', d1, oFr.tr (.up59 (by decide) .rf) d2, d3⟩
  unfold f_X10_readInto_28
  rw [a1', oB2_p]
  unfold f_X10_readInto_31
  rcases a4 with ⟨hr, q, hq1, hq2⟩ | ⟨m, hm1, hm2, hr, hgd⟩
  · rw [hr, if_neg (by decide)]
    have c59 : (oUp M' 17 2 0).1 59 = M.1 59 := by rw [oUp_ro _ _ _ _ (by decide)]; funext j; exact fA.2.1 j (by simp)
    have c69 : (oUp M' 17 2 0).1 69 = M.1 69 := by rw [oUp_ro _ _ _ _ (by decide)]; exact fA.1 69 (by decide) (by decide)
    obtain ⟨r2, M2', d1, d2, d3⟩ := ref (oUp M' 17 2 0) c59 c69
    have d3' : M'.1 17 3 = r2 := by
      rcases d3 with ⟨-, z⟩ | ⟨z, -⟩
      · exact z
      · rw [hr, tl_m1] at z; omega
    have er2 : (r2).toInt = q := by rw [← d3', hq2]; exact nI_toInt (by omega)
    refine ⟨-100 - (oUp M' 17 2 0).1 17 3, oUp M' 17 2 0, rfl, c59, c69, r2, M2', ?_, ?_, ?_⟩
    · rw [d1, oB2_p, if_neg (by rw [oLtI, tl_0]; omega)]
    · rw [if_neg (by rw [oLtI, tl_0]; omega), oUp_at, if_neg (by omega), d3']
    · have F : oFr [17, 18, 19, 69, 72] [15, 19] M (oUp M2' 59 15 0) := .up59 (by decide) (oFr.tr (.up (by decide) (fA.weak (by decide) (by decide))) (d2.weak (by decide) (by decide)))
      have z17 : (oUp M2' 59 15 0).1 17 2 = 0 := by rw [oUp_at, if_neg (by omega), d2.1 17 (by decide) (by decide), oUp_at, if_pos ⟨rfl, rfl⟩]
      refine h.tape F ⟨⟨?_, ?_, ?_⟩, fun i hi => ?_⟩
      · rw [z17, oUp_at, if_pos ⟨rfl, rfl⟩]
      · rw [z17]; decide
      · rw [z17]; decide
      · rw [z17, tl_0] at hi; omega
  · have em : (nI m).toInt = m := nI_toInt (by omega)
    have et : (nI t).toInt = t := nI_toInt (by omega)
    have e13 : (nI t * 13).toInt = t * 13 := by rw [oMul (by rw [tl_13]; omega) (by rw [tl_13]; omega), tl_13, et]
    have n13 : (nI t * 13).toNatClampNeg = 13 * t := by rw [oTnn, e13]; omega
    have htl : f_X3_tellTable N K (nI t) (nI m) (oUp M' 17 2 0) = some ((), oUp (oRow (oUp M' 17 2 0) 15 (va_cpy (M'.1 19) (M'.1 15) 0 (13 * t) m)) 16 t (nI m)) := by
      unfold f_X3_tellTable oCpOk
      rw [n13, nI_n (show m < 2147483648 by omega), nI_n (show t < 2147483648 by omega), if_neg, oIx_p (by omega) (by omega)]
      · rfl
      · simp only [oLtI, tl_0, e13, em]
        have : (0 : Int32).toNatClampNeg = 0 := rfl
        omega
    rw [hr, if_pos (by rw [oLeI, tl_0, em]; omega), htl, oB2_p]
    generalize hMc : oUp (oRow (oUp M' 17 2 0) 15 (va_cpy (M'.1 19) (M'.1 15) 0 (13 * t) m)) 16 t (nI m) = Mc
    have fB : oFr [15, 16, 17, 19] [] M Mc := by rw [← hMc]; exact .up (by decide) (.row (by decide) (.up (by decide) (fA.weak (by decide) (by decide))))
    have c59 : Mc.1 59 = M.1 59 := by funext j; exact fB.2.1 j (by simp)
    have c69 : Mc.1 69 = M.1 69 := fB.1 69 (by decide) (by decide)
    have c15 : Mc.1 15 = va_cpy (M'.1 19) (M'.1 15) 0 (13 * t) m := by rw [← hMc, oUp_ro _ _ _ _ (by decide), oRow_row]
    have c16 : ∀ i, Mc.1 16 i = if i = t then nI m else M.1 16 i := by
      intro i
      rw [← hMc, oUp_at, oRow_ro _ _ _ (by decide), oUp_ro _ _ _ _ (by decide), fA.1 16 (by decide) (by decide)]
      by_cases z : i = t
      · rw [if_pos ⟨rfl, z⟩, if_pos z]
      · rw [if_neg (fun y => z y.2), if_neg z]
    have c17 : Mc.1 17 2 = 0 := by rw [← hMc, oUp_at, if_neg (by omega), oRow_ro _ _ _ (by decide), oUp_at, if_pos ⟨rfl, rfl⟩]
    have o15 : M'.1 15 = M.1 15 := fA.1 15 (by decide) (by decide)
    obtain ⟨r2, M2', d1, d2, d3⟩ := ref Mc c59 c69
    obtain ⟨-, d4, d5, d6⟩ : 0 < r.toInt ∧ r2 = -1 ∧ M2'.1 59 19 = r ∧ ∀ j : Nat, (j : Int) < r.toInt → M2'.1 72 j = M'.1 19 j := by
      rcases d3 with ⟨z, -⟩ | z
      · rw [hr] at z
        have := congrArg Int32.toInt z
        rw [em, tl_m1] at this
        omega
      · exact z
    rw [hr] at d5 d6
    obtain ⟨M5, k1, k2, k3⟩ := cp123 (N := N) (K := K) ht hm2 N 0 (oUp M2' 70 t (nI m)) (by omega) (by omega) (by rw [oUp_at, if_neg (by omega)]; exact d5)
    have k1' : f_X12_readTable_107 N K (nI t) M2' = some (-1, M5) := by
      unfold f_X12_readTable_107
      rw [oIx_p (by omega) (by omega), nI_n (by omega), d5]
      exact k1
    have fC : oFr [70, 71, 72] [19] Mc M5 := oFr.tr (.up (by decide) (d2.weak (by decide) (by decide))) (k2.weak (by decide) (by decide))
    have F : oFr [11, 12, 13, 14, 15, 16, 17, 18, 19, 67, 68, 69, 70, 71, 72, 80] [11, 15, 19] M (oUp M5 59 15 0) := .up59 (by decide) (oFr.tr (fB.weak (by decide) (by decide)) (fC.weak (by decide) (by decide)))
    have r19 : (oUp M5 59 15 0).1 59 19 = nI m := by
      rw [oUp_at, if_neg (by omega), k2.2.1 19 (by simp), oUp_at, if_neg (by omega)]
      exact d5
    refine ⟨nI m, Mc, rfl, c59, c69, -1, M5, ?_, ?_, ?_⟩
    · rw [d1, oB2_p, d4, if_pos (by decide), k1']
    · rw [if_pos (by decide), r19]
    · have x : ∀ a, a ≠ 59 → a ∉ [70, 71, 72] → (oUp M5 59 15 0).1 a = Mc.1 a := fun a h1 h2 => by rw [oUp_ro _ _ _ _ h1]; exact fC.1 a h1 h2
      have y : ∀ a, a ≠ 59 → a ∉ [15, 16, 17, 19, 70, 71, 72] → (oUp M5 59 15 0).1 a = M.1 a := fun a h1 h2 => by
        rw [x a h1 (fun q => h2 (by simp only [List.mem_cons, List.not_mem_nil, or_false] at q ⊢; omega))]
        exact fB.1 a h1 (fun q => h2 (by simp only [List.mem_cons, List.not_mem_nil, or_false] at q ⊢; omega))
      have x15 : ∀ i, (oUp M5 59 15 0).1 15 i = if 13 * t ≤ i ∧ i < 13 * t + m then M'.1 19 (i - 13 * t) else M.1 15 i := by
        intro i
        rw [x 15 (by decide) (by decide), c15, o15]
        unfold va_cpy
        by_cases z : 13 * t ≤ i ∧ i < 13 * t + m
        · rw [if_pos z, if_pos z, Nat.zero_add]
        · rw [if_neg z, if_neg z]
      have x16 : ∀ i, (oUp M5 59 15 0).1 16 i = if i = t then nI m else M.1 16 i := fun i => by rw [x 16 (by decide) (by decide)]; exact c16 i
      have x70 : ∀ i, (oUp M5 59 15 0).1 70 i = if i = t then nI m else M.1 70 i := by
        intro i
        rw [oUp_ro _ _ _ _ (by decide), k2.1 70 (by decide) (by decide), oUp_at, d2.1 70 (by decide) (by decide), fB.1 70 (by decide) (by decide)]
        by_cases z : i = t
        · rw [if_pos ⟨rfl, z⟩, if_pos z]
        · rw [if_neg (fun y => z y.2), if_neg z]
      have x71 : ∀ i, (oUp M5 59 15 0).1 71 i = if 13 * t ≤ i ∧ i < 13 * t + m then M'.1 19 (i - 13 * t) else M.1 71 i := by
        intro i
        rw [oUp_ro _ _ _ _ (by decide), k3, oUp_ro _ _ _ _ (show (72 : Nat) ≠ 70 by decide), oUp_ro _ _ _ _ (show (71 : Nat) ≠ 70 by decide), Nat.add_zero]
        by_cases z : 13 * t ≤ i ∧ i < 13 * t + m
        · rw [if_pos z, if_pos z, d6 _ (by omega)]
        · rw [if_neg z, if_neg z, d2.1 71 (by decide) (by decide), fB.1 71 (by decide) (by decide)]
      refine h.gt F ⟨⟨?_, ?_, ?_⟩, ?_, ?_, ?_, ?_, ?_, ?_⟩ ?_ ⟨⟨?_, ?_, ?_⟩, fun i hi => ?_⟩
      · rw [y 11 (by decide) (by decide), oUp_at, if_neg (by omega), fC.2.1 11 (by decide), fB.2.1 11 (by decide)]
        exact ge1
      · rw [y 11 (by decide) (by decide)]; exact ge2
      · rw [y 11 (by decide) (by decide)]; exact ge3
      · intro i hi
        rw [y 67 (by decide) (by decide), y 12 (by decide) (by decide), y 68 (by decide) (by decide), y 13 (by decide) (by decide), y 80 (by decide) (by decide), y 14 (by decide) (by decide)]
        exact gr i hi
      · intro i hi
        rw [y 11 (by decide) (by decide)] at hi
        rw [y 12 (by decide) (by decide), y 13 (by decide) (by decide)]
        exact gv i hi
      · intro i hi
        rw [x70, x16]
        by_cases z : i = t
        · rw [if_pos z, if_pos z, em]
          exact ⟨rfl, by omega, by omega⟩
        · rw [if_neg z, if_neg z]
          exact g4 i hi
      · intro i hi
        rw [x71, x15]
        by_cases z : 13 * t ≤ i ∧ i < 13 * t + m
        · rw [if_pos z, if_pos z]
        · rw [if_neg z, if_neg z]
          exact g5 i hi
      · intro u hu j hj
        rw [x16] at hj
        rw [x15]
        by_cases z : u = t
        · rw [if_pos z, em] at hj
          rw [if_pos (by omega), show 13 * u + j - 13 * t = j by omega]
          exact hgd.1 j (by omega)
        · rw [if_neg z] at hj
          have := (g4 u hu).2.2
          rw [if_neg (by omega)]
          exact g6 u hu j hj
      · intro u hu j hj
        rw [x16] at hj
        by_cases z : u = t
        · rw [if_pos z, em] at hj
          have i1 : (oUp M5 59 15 0).1 15 (13 * u + j) = M'.1 19 j := by rw [x15, if_pos (by omega), show 13 * u + j - 13 * t = j by omega]
          have i2 : (oUp M5 59 15 0).1 15 (13 * u + j + 1) = M'.1 19 (j + 1) := by rw [x15, if_pos (by omega), show 13 * u + j + 1 - 13 * t = j + 1 by omega]
          rw [i1, i2]
          have := hgd.2 j (by omega)
          rw [hfl] at this
          by_cases z3 : t < 3
          · rw [if_pos z3, if_neg (by decide)] at this
            rw [if_pos (by omega)]
            exact this
          · rw [if_neg z3, if_pos rfl] at this
            rw [if_neg (by omega)]
            exact this
        · rw [if_neg z] at hj
          have := (g4 u hu).2.2
          have i1 : (oUp M5 59 15 0).1 15 (13 * u + j) = M.1 15 (13 * u + j) := by rw [x15, if_neg (by omega)]
          have i2 : (oUp M5 59 15 0).1 15 (13 * u + j + 1) = M.1 15 (13 * u + j + 1) := by rw [x15, if_neg (by omega)]
          rw [i1, i2]
          exact g7 u hu j hj
      · rw [y 11 (by decide) (by decide)]; omega
      · rw [oUp_at, if_pos ⟨rfl, rfl⟩, x 17 (by decide) (by decide), c17]
      · rw [x 17 (by decide) (by decide), c17]; decide
      · rw [x 17 (by decide) (by decide), c17]; decide
      · rw [x 17 (by decide) (by decide), c17, tl_0] at hi; omega
theorem hd10 {N : Nat} {K : oK} {M : oM} (hL : (M.1 17 2).toInt ≤ 120) (e : Int32) : f_X10_readHead N K e M = if btC M 0 = 98 then (if 0 ≤ (btC M 1 - 48).toInt ∧ (btC M 1 - 48).toInt < 3 then (if btC M 2 = 58 then some (btC M 1 - 48, oUp M 17 3 3) else some (-1, oUp M 17 3 2)) else some (-1, oUp M 17 3 1))
    else if btC M 0 = 101 then (if 0 ≤ (btC M 1 - 48).toInt ∧ (btC M 1 - 48).toInt < e.toInt then (if btC M 2 = 58 then some (3 + (btC M 1 - 48), oUp M 17 3 3) else some (-1, oUp M 17 3 2)) else some (-1, oUp M 17 3 1)) else some (-1, oUp M 17 3 0) := by
  have eb : ∀ x, btC (oUp M 17 3 x) = btC M := fun x => btC_e (by rw [oUp_at, if_neg (by omega)]) (oUp_ro _ _ _ _ (by decide))
  have hb : ∀ (p : Nat) (x : Int32), p ≤ 125 → f_X10_byteAt N K (nI p) (oUp M 17 3 x) = some (btC M p, oUp M 17 3 x) := fun p x hp => by rw [byt10 hp (by rw [oUp_at, if_neg (by omega)]; exact hL), eb]
  have tail : ∀ (p2 s0 : Int32), f_X10_readHead_55 N K p2 (btC M 1 - 48) s0 (btC M 1 - 48) (oUp M 17 3 1) = if (btC M 1 - 48).toInt < s0.toInt then (if btC M 2 = 58 then (if p2 = 98 then some (btC M 1 - 48, oUp M 17 3 3) else some (3 + (btC M 1 - 48), oUp M 17 3 3)) else some (-1, oUp M 17 3 2)) else some (-1, oUp M 17 3 1) := by
    intro p2 s0
    unfold f_X10_readHead_55
    rw [oUp_oUp, show (2 : Int32) = nI 2 from rfl, hb 2 _ (by omega), oB2_p, oUp_oUp]
    by_cases c : (btC M 1 - 48).toInt < s0.toInt
    · rw [if_pos (by rw [oLtI]; exact c), if_pos c]
    · rw [if_neg (by rw [oLtI]; exact c), if_neg c]
  have h25 : ∀ p2 : Int32, f_X10_readHead_25 N K e p2 (oUp M 17 3 0) = if 0 ≤ (btC M 1 - 48).toInt then (if p2 = 98 then f_X10_readHead_55 N K p2 (btC M 1 - 48) 3 (btC M 1 - 48) (oUp M 17 3 1) else f_X10_readHead_55 N K p2 (btC M 1 - 48) e (btC M 1 - 48) (oUp M 17 3 1)) else some (-1, oUp M 17 3 1) := by
    intro p2
    unfold f_X10_readHead_25
    rw [oUp_oUp, show (1 : Int32) = nI 1 from rfl, hb 1 _ (by omega), oB2_p]
    by_cases c : 0 ≤ (btC M 1 - 48).toInt
    · rw [if_neg (by rw [oLtI, tl_0]; omega), if_pos c]
    · rw [if_pos (by rw [oLtI, tl_0]; omega), if_neg c]
  unfold f_X10_readHead
  have hb0 := hb 0 0 (by omega)
  rw [show (nI 0 : Int32) = 0 from rfl] at hb0
  rw [hb0, oB2_p]
  by_cases c98 : btC M 0 = 98
  · rw [if_pos c98, if_pos c98, h25, c98, if_pos rfl, tail, tl_3, if_pos rfl]
    by_cases c0 : 0 ≤ (btC M 1 - 48).toInt
    · rw [if_pos c0]
      by_cases c3 : (btC M 1 - 48).toInt < 3
      · rw [if_pos c3, if_pos (show 0 ≤ (btC M 1 - 48).toInt ∧ (btC M 1 - 48).toInt < 3 from ⟨c0, c3⟩)]
      · rw [if_neg c3, if_neg (show ¬ (0 ≤ (btC M 1 - 48).toInt ∧ (btC M 1 - 48).toInt < 3) from fun z => c3 z.2)]
    · rw [if_neg c0, if_neg (show ¬ (0 ≤ (btC M 1 - 48).toInt ∧ (btC M 1 - 48).toInt < 3) from fun z => c0 z.1)]
  · rw [if_neg c98, if_neg c98]
    by_cases c101 : btC M 0 = 101
    · rw [if_pos c101, if_pos c101, h25, c101, if_neg (show ¬ (101 : Int32) = 98 by decide), tail, if_neg (show ¬ (101 : Int32) = 98 by decide)]
      by_cases c0 : 0 ≤ (btC M 1 - 48).toInt
      · rw [if_pos c0]
        by_cases c3 : (btC M 1 - 48).toInt < e.toInt
        · rw [if_pos c3, if_pos (show 0 ≤ (btC M 1 - 48).toInt ∧ (btC M 1 - 48).toInt < e.toInt from ⟨c0, c3⟩)]
        · rw [if_neg c3, if_neg (show ¬ (0 ≤ (btC M 1 - 48).toInt ∧ (btC M 1 - 48).toInt < e.toInt) from fun z => c3 z.2)]
      · rw [if_neg c0, if_neg (show ¬ (0 ≤ (btC M 1 - 48).toInt ∧ (btC M 1 - 48).toInt < e.toInt) from fun z => c0 z.1)]
    · rw [if_neg c101, if_neg c101]
theorem hd12 {N : Nat} {K : oK} {M : oM} (hL : (M.1 59 15).toInt ≤ 120) (he : 0 ≤ (M.1 59 11).toInt) : f_X12_readTable N K M = if btM M 0 = 98 then (if 0 ≤ (btM M 1 - 48).toInt ∧ (btM M 1 - 48).toInt < 3 then (if btM M 2 = 58 then f_X12_readTable_84 N K 98 (btM M 1 - 48) 1 3 M else some (2, M)) else some (1, M))
    else if btM M 0 = 101 then (if 0 ≤ (btM M 1 - 48).toInt ∧ (btM M 1 - 48).toInt < (M.1 59 11).toInt then (if btM M 2 = 58 then f_X12_readTable_84 N K 101 (btM M 1 - 48) 0 3 M else some (2, M)) else some (1, M)) else some (0, M) := by
  have hb : ∀ p : Nat, p ≤ 125 → f_X12_byteAt N K (nI p) M = some (btM M p, M) := fun p hp => byt12 hp hL
  have b0 := hb 0 (by omega)
  have b1 := hb 1 (by omega)
  have b2 := hb 2 (by omega)
  rw [show (nI 0 : Int32) = 0 from rfl] at b0
  rw [show (nI 1 : Int32) = 1 from rfl] at b1
  rw [show (nI 2 : Int32) = 2 from rfl] at b2
  have es := sub1 he
  unfold f_X12_readTable f_X12_readTable_20 f_X12_readTable_51
  rw [b0, oB2_p]
  simp only [b1, b2, oB2_p, w12, oLg, l64_0, show (2 : Int64).toInt = 2 from rfl, es]
  by_cases c98 : btM M 0 = 98
  · rw [if_pos c98, if_pos c98, c98, if_pos rfl]
    by_cases c3 : 0 ≤ (btM M 1 - 48).toInt ∧ (btM M 1 - 48).toInt < 3
    · rw [decide_eq_true (by omega), cond_true, if_pos c3, if_pos rfl]
    · rw [decide_eq_false (by omega), cond_false, if_neg c3, if_pos rfl]
  · rw [if_neg c98, if_neg c98]
    by_cases c101 : btM M 0 = 101
    · rw [if_pos c101, if_pos c101, c101, if_neg (show ¬ (101 : Int32) = 98 by decide)]
      by_cases c3 : 0 ≤ (btM M 1 - 48).toInt ∧ (btM M 1 - 48).toInt < (M.1 59 11).toInt
      · rw [decide_eq_true (by omega), cond_true, if_pos c3, if_neg (show ¬ (101 : Int32) = 98 by decide)]
      · rw [decide_eq_false (by omega), cond_false, if_neg c3, if_neg (show ¬ (101 : Int32) = 98 by decide)]
    · rw [if_neg c101, if_neg c101, if_neg c98]
theorem ag_table {K : oK} {M : oM} (h : oInv K M) {N : Nat} (hN : 100 ≤ N) : oAg K M (f_X11_table N K M) (f_X12_table N K) := by
  have hbt := bt_inv h.2.2.2.2.1
  obtain ⟨⟨e1, b0, b1⟩, hv⟩ := id h.2.2.2.2.1
  obtain ⟨⟨ge1, ge2, ge3⟩, -⟩ := id h.2.2.2.1
  unfold f_X11_table f_X10_readInto
  rw [hd10 (by omega)]
  -- a fault in the head, at a place
  have bad : ∀ (p : Nat), p ≤ 2 → (f_X12_readTable N K (oUp (oUp M 17 3 (nI p)) 17 2 0) = some (nI p, oUp (oUp M 17 3 (nI p)) 17 2 0)) → oAg K M (oB2 (oB2 (some ((-1 : Int32), oUp M 17 3 (nI p))) (fun v1 M2 => if 0 ≤ v1 then if 3 ≤ v1 then f_X10_readInto_28 N K v1 0 M2 else f_X10_readInto_28 N K v1 1 M2 else f_X10_readInto_31 N K v1 (-1) M2)) (fun v1 M2 => some (v1, M2))) (f_X12_table N K) := by
    intro p hp hm
    have ep : (nI p).toInt = p := nI_toInt (by omega)
    rw [oB2_p, if_neg (by decide)]
    unfold f_X10_readInto_31
    rw [if_neg (by decide), oB2_p, oUp_at, if_neg (by omega), oUp_at, if_pos ⟨rfl, rfl⟩]
    refine oAg.mk (oUp (oUp (oUp M 17 3 (nI p)) 17 2 0) 59 15 0) rfl ?_ (h.tape (.up59 (by decide) (.up (by decide) (.up (by decide) .rf))) ⟨⟨?_, ?_, ?_⟩, fun i hi => ?_⟩)
    · unfold f_X12_table
      rw [hm, oB2_p, if_neg (by rw [oLtI, tl_0]; omega)]
    · simp [oUp_at]
    · simp [oUp_at]
    · simp [oUp_at]
    · simp [oUp_at] at hi
      omega
  have mM : ∀ p : Nat, btM (oUp (oUp M 17 3 (nI p)) 17 2 0) = btC M := fun p => by rw [← hbt]; exact btM_e (by rw [oUp_at, if_neg (by omega), oUp_at, if_neg (by omega)]) (by rw [oUp_ro _ _ _ _ (by decide), oUp_ro _ _ _ _ (by decide)])
  have m11 : ∀ p : Nat, (oUp (oUp M 17 3 (nI p)) 17 2 0).1 59 11 = M.1 11 6 := fun p => by rw [oUp_at, if_neg (by omega), oUp_at, if_neg (by omega)]; exact ge1
  have m15 : ∀ p : Nat, (oUp (oUp M 17 3 (nI p)) 17 2 0).1 59 15 = M.1 17 2 := fun p => by rw [oUp_at, if_neg (by omega), oUp_at, if_neg (by omega)]; exact e1
  have hm : ∀ p : Nat, _ := fun p => hd12 (N := N) (K := K) (M := oUp (oUp M 17 3 (nI p)) 17 2 0) (by rw [m15]; omega) (by rw [m11]; omega)
  -- a good head
  have go : ∀ (t : Nat) (fl d c : Int32), t < 9 → (fl = if t < 3 then 1 else 0) → 3 ≤ (M.1 17 2).toInt → ((c = 98 ∧ d = nI t ∧ t < 3) ∨ (¬ c = 98 ∧ 3 + d = nI t ∧ 3 ≤ t)) → (∀ Mc : oM, Mc.1 59 = M.1 59 → Mc.1 69 = M.1 69 → f_X12_readTable N K Mc = f_X12_readTable_84 N K c d fl 3 Mc) → oAg K M (oB2 (oB2 (some (nI t, oUp M 17 3 3)) (fun v1 M2 => if 0 ≤ v1 then if 3 ≤ v1 then f_X10_readInto_28 N K v1 0 M2 else f_X10_readInto_28 N K v1 1 M2 else f_X10_readInto_31 N K v1 (-1) M2)) (fun v1 M2 => some (v1, M2))) (f_X12_table N K) := by
    intro t fl d c ht hfl h3 hc hmm
    have et : (nI t).toInt = t := nI_toInt (by omega)
    obtain ⟨r, Mc, a1, a2, a3, v, Mm, a4, a5, a6⟩ := tb_fin h hN ht hfl h3
    have e28 : (if (3 : Int32) ≤ nI t then f_X10_readInto_28 N K (nI t) 0 (oUp M 17 3 3) else f_X10_readInto_28 N K (nI t) 1 (oUp M 17 3 3)) = some (r, Mc) := by
      by_cases z : t < 3
      · rw [if_pos z] at hfl
        rw [if_neg (by rw [oLeI, tl_3, et]; omega), ← hfl]
        exact a1
      · rw [if_neg z] at hfl
        rw [if_pos (by rw [oLeI, tl_3, et]; omega), ← hfl]
        exact a1
    rw [oB2_p, if_pos (by rw [oLeI, tl_0, et]; omega), e28, oB2_p]
    refine oAg.mk (oUp Mm 59 15 0) rfl ?_ a6
    unfold f_X12_table
    rw [hmm Mc a2 a3]
    unfold f_X12_readTable_84
    have e107 : ∀ M18, (if c = 98 then f_X12_readTable_107 N K d M18 else f_X12_readTable_107 N K (3 + d) M18) = f_X12_readTable_107 N K (nI t) M18 := by
      intro M18
      rcases hc with ⟨q1, q2, -⟩ | ⟨q1, q2, -⟩
      · rw [if_pos q1, q2]
      · rw [if_neg q1, q2]
    simp only [e107]
    rw [a4, oB2_p, a5]
  have h3L : btC M 2 = 58 → 3 ≤ (M.1 17 2).toInt := by
    intro q
    unfold btC at q
    by_cases z : ((2 : Nat) : Int) < (M.1 17 2).toInt
    · omega
    · rw [if_neg z] at q
      exact absurd q (by decide)
  have hmc : ∀ Mc : oM, Mc.1 59 = M.1 59 → Mc.1 69 = M.1 69 → btM Mc = btC M ∧ Mc.1 59 11 = M.1 11 6 ∧ Mc.1 59 15 = M.1 17 2 := fun Mc q1 q2 => ⟨by rw [← hbt]; exact btM_e (by rw [q1]) q2, by rw [q1]; exact ge1, by rw [q1]; exact e1⟩
  by_cases c98 : btC M 0 = 98
  · rw [if_pos c98]
    by_cases c3 : 0 ≤ (btC M 1 - 48).toInt ∧ (btC M 1 - 48).toInt < 3
    · rw [if_pos c3]
      by_cases c58 : btC M 2 = 58
      · rw [if_pos c58]
        have ed : btC M 1 - 48 = nI (btC M 1 - 48).toInt.toNat := oNI (by omega)
        have := go (btC M 1 - 48).toInt.toNat 1 (btC M 1 - 48) 98 (by omega) (by rw [if_pos (by omega)]) (h3L c58) (Or.inl ⟨rfl, ed, by omega⟩) (fun Mc q1 q2 => by
          obtain ⟨k1, k2, k3⟩ := hmc Mc q1 q2
          rw [hd12 (by rw [k3]; omega) (by rw [k2]; omega), k1, if_pos c98, if_pos c3, if_pos c58])
        rw [← ed] at this
        exact this
      · rw [if_neg c58]
        exact bad 2 (by omega) (by rw [hm, mM, if_pos c98, if_pos c3, if_neg c58]; rfl)
    · rw [if_neg c3]
      exact bad 1 (by omega) (by rw [hm, mM, if_pos c98, if_neg c3]; rfl)
  · rw [if_neg c98]
    by_cases c101 : btC M 0 = 101
    · rw [if_pos c101]
      by_cases c3 : 0 ≤ (btC M 1 - 48).toInt ∧ (btC M 1 - 48).toInt < (M.1 11 6).toInt
      · rw [if_pos c3]
        by_cases c58 : btC M 2 = 58
        · rw [if_pos c58]
          have ed : 3 + (btC M 1 - 48) = nI (3 + (btC M 1 - 48).toInt).toNat := oNI (by rw [oAdd (by rw [tl_3]; omega) (by rw [tl_3]; omega), tl_3]; omega)
          have := go (3 + (btC M 1 - 48).toInt).toNat 0 (btC M 1 - 48) 101 (by omega) (by rw [if_neg (by omega)]) (h3L c58) (Or.inr ⟨by decide, ed, by omega⟩) (fun Mc q1 q2 => by
            obtain ⟨k1, k2, k3⟩ := hmc Mc q1 q2
            rw [hd12 (by rw [k3]; omega) (by rw [k2]; omega), k1, k2, if_neg c98, if_pos c101, if_pos c3, if_pos c58])
          rw [← ed] at this
          exact this
        · rw [if_neg c58]
          exact bad 2 (by omega) (by rw [hm, mM, m11, if_neg c98, if_pos c101, if_pos c3, if_neg c58]; rfl)
      · rw [if_neg c3]
        exact bad 1 (by omega) (by rw [hm, mM, m11, if_neg c98, if_pos c101, if_neg c3]; rfl)
    · rw [if_neg c101]
      exact bad 0 (by omega) (by rw [hm, mM, if_neg c98, if_neg c101]; rfl)
