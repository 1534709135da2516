/-! layings: laying -/
theorem lyK_s {K : oK} (l b : Nat) : (lyK K l).2.2.1 b = if b = K.1 then (12, 8) else if K.1 < b ∧ b ≤ K.1 + 4 then (0, 24) else K.2.2.1 b := by
  have e8 : oNn 6 = 8 := by decide
  have q1 : (oNewK K (6 + 6) (oNn 6)).1 = K.1 + 1 := rfl
  have qs : (oNewK K (6 + 6) (oNn 6)).2.2.1 b = if b = K.1 then (12, 8) else K.2.2.1 b := by
    show (if b = K.1 then (6 + 6, oNn 6) else K.2.2.1 b) = _
    rw [e8]
  show (inKK (oNewK K (6 + 6) (oNn 6)) K.1).2.2.1 b = _
  unfold inKK
  rw [inK_s, inK_s, inK_s, inK_s, inK_1, inK_1, inK_1, q1, qs]
  by_cases c : b = K.1
  · rw [if_neg (by omega), if_neg (by omega), if_neg (by omega), if_neg (by omega), if_pos c, if_pos c]
  · rw [if_neg c, if_neg c]
    by_cases c4 : b = K.1 + 1 + 1 + 1 + 1
    · rw [if_pos c4, if_pos (by omega)]
    · rw [if_neg c4]
      by_cases c3 : b = K.1 + 1 + 1 + 1
      · rw [if_pos c3, if_pos (by omega)]
      · rw [if_neg c3]
        by_cases c2 : b = K.1 + 1 + 1
        · rw [if_pos c2, if_pos (by omega)]
        · rw [if_neg c2]
          by_cases c1 : b = K.1 + 1
          · rw [if_pos c1, if_pos (by omega)]
          · rw [if_neg c1, if_neg (by omega)]
theorem lyK_o {K : oK} (h20 : 20 < K.1) (l b j : Nat) (hb : b < K.1) : (lyK K l).2.2.2 b j = if b = 20 ∧ j = l then some K.1 else K.2.2.2 b j := by
  have q1 : (oNewK K (6 + 6) (oNn 6)).1 = K.1 + 1 := rfl
  unfold lyK inKK
  rw [oUpR_at]
  by_cases c : b = 20 ∧ j = l
  · rw [if_pos c, if_pos c]
  · rw [if_neg c, if_neg c, inK_r _ (by rw [inK_1, inK_1, inK_1, q1]; omega), if_neg (by omega), inK_1, inK_1, inK_1, q1, if_neg (by omega), inK_r _ (by rw [inK_1, inK_1, q1]; omega), if_neg (by omega), inK_1, inK_1, q1, if_neg (by omega), inK_r _ (by rw [inK_1, q1]; omega), if_neg (by omega), inK_1, q1, if_neg (by omega), inK_r _ (by rw [q1]; omega), if_neg (by omega), q1, if_neg (by omega)]
    show (if b = K.1 then fun _ => none else K.2.2.2 b) j = _
    rw [if_neg (by omega)]
theorem lyK_n {K : oK} (h20 : 20 < K.1) (l j : Nat) (h1 : 1 ≤ j) (h2 : j ≤ 4) : (lyK K l).2.2.2 K.1 (j + 2) = some (K.1 + j) := by
  have q1 : (oNewK K (6 + 6) (oNn 6)).1 = K.1 + 1 := rfl
  unfold lyK inKK
  rw [oUpR_at, if_neg (by omega), inK_r _ (by rw [inK_1, inK_1, inK_1, q1]; omega), inK_1, inK_1, inK_1, q1]
  by_cases c4 : j = 4
  · rw [if_pos (by omega)]
    congr 1
    omega
  · rw [if_neg (by omega), if_neg (by omega), inK_r _ (by rw [inK_1, inK_1, q1]; omega), inK_1, inK_1, q1]
    by_cases c3 : j = 3
    · rw [if_pos (by omega)]
      congr 1
      omega
    · rw [if_neg (by omega), if_neg (by omega), inK_r _ (by rw [inK_1, q1]; omega), inK_1, q1]
      by_cases c2 : j = 2
      · rw [if_pos (by omega)]
        congr 1
        omega
      · rw [if_neg (by omega), if_neg (by omega), inK_r _ (by rw [q1]; omega), q1, if_pos (by omega)]
        congr 1
        omega
theorem inM_1 {K : oK} {M : oM} {a b : Nat} : (inM (oNewK K (6 + 6) (oNn 6)) (oNewM K M) a).1 b = if K.1 ≤ b ∧ b ≤ K.1 + 4 then fun _ => 0 else M.1 b := by
  have q1 : (oNewK K (6 + 6) (oNn 6)).1 = K.1 + 1 := rfl
  unfold inM oNewM
  dsimp only
  rw [inK_1, inK_1, inK_1, q1]
  by_cases c4 : b = K.1 + 1 + 1 + 1 + 1
  · rw [if_pos c4, if_pos (by omega)]
  · rw [if_neg c4]
    by_cases c3 : b = K.1 + 1 + 1 + 1
    · rw [if_pos c3, if_pos (by omega)]
    · rw [if_neg c3]
      by_cases c2 : b = K.1 + 1 + 1
      · rw [if_pos c2, if_pos (by omega)]
      · rw [if_neg c2]
        by_cases c1 : b = K.1 + 1
        · rw [if_pos c1, if_pos (by omega)]
        · rw [if_neg c1]
          by_cases c0 : b = K.1
          · rw [if_pos c0, if_pos (by omega)]
          · rw [if_neg c0, if_neg (by omega)]
theorem inM_2 {K : oK} {M : oM} {a b : Nat} (hb : b < K.1) : (inM (oNewK K (6 + 6) (oNn 6)) (oNewM K M) a).2 b = M.2 b := by
  have q1 : (oNewK K (6 + 6) (oNn 6)).1 = K.1 + 1 := rfl
  unfold inM oNewM
  dsimp only
  rw [inK_1, inK_1, inK_1, q1, if_neg (by omega), if_neg (by omega), if_neg (by omega), if_neg (by omega), if_neg (by omega)]
theorem oRf_b {a k b : Nat} (h : oRf a k = some b) : a < 101 ∧ ¬ a = 20 := by
  have h1 : oRfl.length = 101 := by decide
  refine ⟨?_, fun z => ?_⟩
  · by_cases c : a < 101
    · exact c
    · unfold oRf at h
      have e : oRfl.getD a [] = [] := by rw [List.getD_eq_getElem?_getD, List.getElem?_eq_none (by omega)]; rfl
      rw [e] at h
      exact absurd h (by simp)
  · rw [z] at h
    exact absurd h (by simp [oRf, oRfl])
theorem oLS.new {K : oK} (h20 : 20 < K.1) {l q : Nat} (h : oLS K q) (hq : ¬ q = 20) : oLS (lyK K l) q := by
  have h1 := h.1
  refine ⟨by show q + 5 ≤ K.1 + 5; omega, ?_, fun j g1 g2 => ⟨?_, ?_⟩⟩
  · rw [lyK_s, if_neg (by omega), if_neg (by omega)]; exact h.2.1
  · rw [lyK_s, if_neg (by omega), if_neg (by omega)]; exact (h.2.2 j g1 g2).1
  · rw [lyK_o h20 _ _ _ (by omega), if_neg (fun z => hq z.1)]; exact (h.2.2 j g1 g2).2
theorem oLS.n20 {K : oK} (hK : oSR K) {q : Nat} (h : oLS K q) : ¬ q = 20 := by
  intro z
  have h1 := h.2.1
  rw [z, hK.2.1 _ (by omega)] at h1
  exact absurd h1 (by decide)
theorem oSR.new {K : oK} (hK : oSR K) {l : Nat} (hn : K.1 + 5 ≤ 1000000) : oSR (lyK K l) := by
  have h101 := hK.1.1
  refine ⟨⟨by show 101 ≤ K.1 + 5; omega, hn⟩, fun a ha => ?_, fun a k b e => ?_, fun i q e => ?_, fun i hi => ?_⟩
  · rw [lyK_s, if_neg (by omega), if_neg (by omega)]
    exact hK.2.1 a ha
  · have := oRf_b e
    rw [lyK_o (by omega) _ _ _ (by omega), if_neg (fun z => this.2 z.1)]
    exact hK.2.2.1 a k b e
  · rw [lyK_o (by omega) _ _ _ (by omega)] at e
    by_cases c : 20 = 20 ∧ i = l
    · rw [if_pos c] at e
      obtain rfl : K.1 = q := Option.some.inj e
      refine ⟨by show K.1 + 5 ≤ K.1 + 5; omega, by rw [lyK_s, if_pos rfl], fun j g1 g2 => ⟨by rw [lyK_s, if_neg (by omega), if_pos (by omega)], lyK_n (by omega) l j g1 g2⟩⟩
    · rw [if_neg c] at e
      have := hK.2.2.2.1 i q e
      exact this.new (by omega) (this.n20 hK)
  · obtain ⟨g1, g2, g3, g4, g5, g6⟩ := hK.2.2.2.2 i hi
    refine ⟨?_, by show 47 + 2 * i + 2 ≤ K.1 + 5; omega, ?_, ?_, ?_, fun q e => ?_⟩
    · rw [lyK_o (by omega) _ _ _ (by omega), if_neg (by omega)]; exact g1
    · rw [lyK_s, if_neg (by omega), if_neg (by omega)]; exact g3
    · rw [lyK_s, if_neg (by omega), if_neg (by omega)]; exact g4
    · rw [lyK_o (by omega) _ _ _ (by omega), if_neg (by omega)]; exact g5
    · rw [lyK_o (by omega) _ _ _ (by omega), if_neg (by omega)] at e
      have := g6 q e
      exact this.new (by omega) (this.n20 hK)
theorem m_laying {K : oK} {M : oM} (N : Nat) (a b : Int32) (p0 : 0 ≤ (M.1 59 6).toInt) (b0 : 0 ≤ (M.1 59 20).toInt) (b1 : (M.1 59 20).toInt ≤ 20) : f_X12_laying N K a b M = if (0 ≤ a.toInt ∧ a.toInt ≤ 5) ∧ 0 ≤ b.toInt ∧ b.toInt < (M.1 59 6).toInt then (if (M.1 59 20).toInt < 20 then some (M.1 59 20, oUp (oUp (oUp (oUp M 73 (M.1 59 20).toNatClampNeg a) 74 (M.1 59 20).toNatClampNeg b) 75 (M.1 59 20).toNatClampNeg b) 59 20 (M.1 59 20 + 1)) else some (-3, M)) else some (-1, M) := by
  unfold f_X12_laying
  simp only [w12, isPt12 N K _ M p0, oB2_p, oLg, l64_0, show (5 : Int64).toInt = 5 from rfl, eq_lit tl_20]
  by_cases ha : 0 ≤ a.toInt ∧ a.toInt ≤ 5
  · by_cases hb : 0 ≤ b.toInt ∧ b.toInt < (M.1 59 6).toInt
    · by_cases hc : (M.1 59 20).toInt < 20
      · simp [ha, hb, hc, show ¬ (M.1 59 20).toInt = 20 by omega, oIx_p (n := 20) b0 (by omega), oUp_at, addsub1]
      · simp [ha, hb, show (M.1 59 20).toInt = 20 by omega]
    · simp [ha, hb]
  · simp [ha]
theorem st_laying {X : oX} {K : oK} {M : oM} (h : oInv K M) (N : Nat) (a p : Int32) : ∃ r K1 M1 M2, oMet X 4 J_X11_laying [.ref 0, .int a, .int p] K M (some (.int r)) K1 M1 ∧ f_X12_laying N K1 a p M1 = some (r, M2) ∧ oInv K1 M2 ∧ K.1 ≤ K1.1 ∧ K.2.1 ≤ K1.2.1 := by
  obtain ⟨hSR, hg, hst, hge, hta, hlo, hth, hac, hl, hsh⟩ := id h
  obtain ⟨⟨e20, c0, c1⟩, ⟨k1, k2⟩, l1, l2⟩ := id hl
  obtain ⟨⟨e6, p0, p1⟩, -⟩ := id hg
  by_cases good : (0 ≤ a.toInt ∧ a.toInt ≤ 5) ∧ 0 ≤ p.toInt ∧ p.toInt < (M.1 6 5).toInt
  · by_cases c20 : (M.1 0 11).toInt < 20
    · have hn : K.1 + 5 ≤ 1000000 := by omega
      have h101 := hSR.1.1
      have nl : (M.1 0 11).toNatClampNeg = (M.1 0 11).toInt.toNat := rfl
      have en := add1 (x := M.1 0 11) (by omega)
      have hcl : M.1 0 11 = nI (M.1 0 11).toNatClampNeg := oNI (by omega)
      have hrow := v_X11_laying_ok (X := X) (N := N) hSR (k := a) (p := p) good.1 good.2 c0 c20 hn
      generalize hlq : (M.1 0 11).toNatClampNeg = l at *
      have hcl' : K.1 = oLy l := by unfold oLy; omega
      -- the ints behind the class's call
      have b1 : ∀ b, (lyM K M (M.1 0 11) a p).1 b = if b = 0 then upd (M.1 0) 11 (M.1 0 11 + 1) else if b = K.1 then upd (upd (upd (fun _ => 0) 0 (M.1 0 11)) 1 a) 2 p else if K.1 < b ∧ b ≤ K.1 + 4 then fun _ => 0 else M.1 b := by
        intro b
        unfold lyM
        by_cases d0 : b = 0
        · subst d0
          rw [if_pos rfl, oUp_row, oUp_ro _ _ _ _ (by omega), oUp_ro _ _ _ _ (by omega), oUp_ro _ _ _ _ (by omega), inM_1, if_neg (by omega)]
        · rw [if_neg d0, oUp_ro _ _ _ _ d0]
          by_cases d1 : b = K.1
          · subst d1
            rw [if_pos rfl, oUp_row, oUp_row, oUp_row, inM_1, if_pos (by omega)]
          · rw [if_neg d1, oUp_ro _ _ _ _ d1, oUp_ro _ _ _ _ d1, oUp_ro _ _ _ _ d1, inM_1]
            by_cases d2 : K.1 < b ∧ b ≤ K.1 + 4
            · rw [if_pos d2, if_pos (by omega)]
            · rw [if_neg d2, if_neg (by omega)]
      have b2 : ∀ b, b < K.1 → (lyM K M (M.1 0 11) a p).2 b = M.2 b := fun b hb => by
        show (inM (oNewK K (6 + 6) (oNn 6)) (oNewM K M) K.1).2 b = _
        exact inM_2 hb
      have o59 : (lyM K M (M.1 0 11) a p).1 59 = M.1 59 := by rw [b1, if_neg (by omega), if_neg (by omega), if_neg (by omega)]
      have hm := m_laying (K := lyK K l) (M := lyM K M (M.1 0 11) a p) N a p (by rw [o59, e6]; exact p0) (by rw [o59, e20]; exact c0) (by rw [o59, e20]; exact c1)
      rw [o59, e6, e20, if_pos good, if_pos c20, hlq] at hm
      refine ⟨M.1 0 11, lyK K l, lyM K M (M.1 0 11) a p, _, hrow, hm, ?_, by show K.1 ≤ K.1 + 5; omega, by show K.2.1 ≤ K.2.1 + oNn 6 + 24 + 24 + 24 + 24; omega⟩
      generalize hM1 : lyM K M (M.1 0 11) a p = M1 at *
      -- all the ints
      have r : ∀ b, b ≠ 59 → b ∉ [0, 73, 74, 75, K.1, K.1 + 1, K.1 + 2, K.1 + 3, K.1 + 4] → (oUp (oUp (oUp (oUp M1 73 l a) 74 l p) 75 l p) 59 20 (M.1 0 11 + 1)).1 b = M.1 b := by
        intro b g1 g2
        simp only [List.mem_cons, List.not_mem_nil, or_false] at g2
        rw [oUp_ro _ _ _ _ g1, oUp_ro _ _ _ _ (by omega), oUp_ro _ _ _ _ (by omega), oUp_ro _ _ _ _ (by omega), b1, if_neg (by omega), if_neg (by omega), if_neg (by omega)]
      have F : oFr [0, 73, 74, 75, K.1, K.1 + 1, K.1 + 2, K.1 + 3, K.1 + 4] [20] M ((oUp (oUp (oUp (oUp M1 73 l a) 74 l p) 75 l p) 59 20 (M.1 0 11 + 1)).1, M.2) := by
        refine ⟨r, fun j g => ?_, rfl⟩
        simp only [List.mem_cons, List.not_mem_nil, or_false] at g
        show (oUp (oUp (oUp (oUp M1 73 l a) 74 l p) 75 l p) 59 20 (M.1 0 11 + 1)).1 59 j = _
        rw [oUp_at, if_neg (by omega), oUp_ro _ _ _ _ (by decide), oUp_ro _ _ _ _ (by decide), oUp_ro _ _ _ _ (by decide), o59]
      have r73 : ∀ j, (oUp (oUp (oUp (oUp M1 73 l a) 74 l p) 75 l p) 59 20 (M.1 0 11 + 1)).1 73 j = if j = l then a else M.1 73 j := by
        intro j
        rw [oUp_ro _ _ _ _ (by decide), oUp_ro _ _ _ _ (by decide), oUp_ro _ _ _ _ (by decide), oUp_at, b1, if_neg (show ¬ (73 : Nat) = 0 by decide), if_neg (show ¬ 73 = K.1 by omega), if_neg (show ¬ (K.1 < 73 ∧ 73 ≤ K.1 + 4) by omega)]
        by_cases z : j = l
        · rw [if_pos ⟨rfl, z⟩, if_pos z]
        · rw [if_neg (fun y => z y.2), if_neg z]
      have r74 : ∀ j, (oUp (oUp (oUp (oUp M1 73 l a) 74 l p) 75 l p) 59 20 (M.1 0 11 + 1)).1 74 j = if j = l then p else M.1 74 j := by
        intro j
        rw [oUp_ro _ _ _ _ (by decide), oUp_ro _ _ _ _ (by decide), oUp_at, oUp_ro _ _ _ _ (by decide), b1, if_neg (show ¬ (74 : Nat) = 0 by decide), if_neg (show ¬ 74 = K.1 by omega), if_neg (show ¬ (K.1 < 74 ∧ 74 ≤ K.1 + 4) by omega)]
        by_cases z : j = l
        · rw [if_pos ⟨rfl, z⟩, if_pos z]
        · rw [if_neg (fun y => z y.2), if_neg z]
      have r75 : ∀ j, (oUp (oUp (oUp (oUp M1 73 l a) 74 l p) 75 l p) 59 20 (M.1 0 11 + 1)).1 75 j = if j = l then p else M.1 75 j := by
        intro j
        rw [oUp_ro _ _ _ _ (by decide), oUp_at, oUp_ro _ _ _ _ (by decide), oUp_ro _ _ _ _ (by decide), b1, if_neg (show ¬ (75 : Nat) = 0 by decide), if_neg (show ¬ 75 = K.1 by omega), if_neg (show ¬ (K.1 < 75 ∧ 75 ≤ K.1 + 4) by omega)]
        by_cases z : j = l
        · rw [if_pos ⟨rfl, z⟩, if_pos z]
        · rw [if_neg (fun y => z y.2), if_neg z]
      have r0 : (oUp (oUp (oUp (oUp M1 73 l a) 74 l p) 75 l p) 59 20 (M.1 0 11 + 1)).1 0 11 = M.1 0 11 + 1 := by
        rw [oUp_ro _ _ _ _ (by decide), oUp_ro _ _ _ _ (by decide), oUp_ro _ _ _ _ (by decide), oUp_ro _ _ _ _ (by decide), b1, if_pos rfl]
        rfl
      have r59 : (oUp (oUp (oUp (oUp M1 73 l a) 74 l p) 75 l p) 59 20 (M.1 0 11 + 1)).1 59 20 = M.1 0 11 + 1 := by rw [oUp_at, if_pos ⟨rfl, rfl⟩]
      have rc : ∀ b, K.1 ≤ b → (oUp (oUp (oUp (oUp M1 73 l a) 74 l p) 75 l p) 59 20 (M.1 0 11 + 1)).1 b = M1.1 b := fun b hb => by rw [oUp_ro _ _ _ _ (by omega), oUp_ro _ _ _ _ (by omega), oUp_ro _ _ _ _ (by omega), oUp_ro _ _ _ _ (by omega)]
      have rL : (oUp (oUp (oUp (oUp M1 73 l a) 74 l p) 75 l p) 59 20 (M.1 0 11 + 1)).2 = M1.2 := rfl
      generalize hM2 : oUp (oUp (oUp (oUp M1 73 l a) 74 l p) 75 l p) 59 20 (M.1 0 11 + 1) = M2 at *
      have a1 : iGnd (M2.1, M.2) := hg.fr F (by intro z hz; simp only [List.mem_cons, List.not_mem_nil, or_false] at hz ⊢; omega) (by intro z hz; simp only [List.mem_cons, List.not_mem_nil, or_false] at hz ⊢; omega)
      have a2 : iSet (M2.1, M.2) := hst.fr F (by intro z hz; simp only [List.mem_cons, List.not_mem_nil, or_false] at hz ⊢; omega) (by intro z hz; simp only [List.mem_cons, List.not_mem_nil, or_false] at hz ⊢; omega)
      have a3 : iGear (M2.1, M.2) := hge.fr F (by intro z hz; simp only [List.mem_cons, List.not_mem_nil, or_false] at hz ⊢; omega) (by intro z hz; simp only [List.mem_cons, List.not_mem_nil, or_false] at hz ⊢; omega)
      have a4 : iTape (M2.1, M.2) := hta.fr F (by intro z hz; simp only [List.mem_cons, List.not_mem_nil, or_false] at hz ⊢; omega) (by intro z hz; simp only [List.mem_cons, List.not_mem_nil, or_false] at hz ⊢; omega)
      have a5 : iLoad (M2.1, M.2) := hlo.fr F (by intro z hz; simp only [List.mem_cons, List.not_mem_nil, or_false] at hz ⊢; omega) (by intro z hz; simp only [List.mem_cons, List.not_mem_nil, or_false] at hz ⊢; omega)
      have a6 : iThing (M2.1, M.2) := hth.fr F (by intro z hz; simp only [List.mem_cons, List.not_mem_nil, or_false] at hz ⊢; omega) (congrFun (r 40 (by decide) (by simp only [List.mem_cons, List.not_mem_nil, or_false]; omega)) 3) (by intro z hz; simp only [List.mem_cons, List.not_mem_nil, or_false] at hz ⊢; omega)
      have a7 : iAct (M2.1, M.2) := hac.fr F (by intro z hz; simp only [List.mem_cons, List.not_mem_nil, or_false] at hz ⊢; omega) (by intro z hz; simp only [List.mem_cons, List.not_mem_nil, or_false] at hz ⊢; omega)
      have nm : ∀ b, 1 ≤ b → b < 101 → b ≠ 59 → b ≠ 73 → b ≠ 74 → b ≠ 75 → M2.1 b = M.1 b := fun b g1 g2 g3 g4 g5 g6 => r b g3 (by simp only [List.mem_cons, List.not_mem_nil, or_false]; omega)
      refine ⟨hSR.new hn, a1, a2, a3, a4, a5, a6, a7, ⟨⟨by rw [r59, r0], by rw [r0, en]; omega, by rw [r0, en]; omega⟩, ⟨?_, ?_⟩, fun i hi => ?_, fun i hi => ?_⟩, fun d hd => ?_⟩
      · rw [r0, en]
        show ((K.1 + 5 : Nat) : Int) = _
        omega
      · rw [r0, en]
        show ((K.2.1 + oNn 6 + 24 + 24 + 24 + 24 : Nat) : Int) = _
        have e8 : oNn 6 = 8 := by decide
        rw [e8]
        omega
      · rw [r0, en] at hi
        by_cases z : i = l
        · subst z
          refine ⟨by rw [lyK_o (by omega) _ _ _ (by omega), if_pos ⟨rfl, rfl⟩, hcl'], ?_⟩
          have x0 : M2.1 (oLy i) = upd (upd (upd (fun _ => 0) 0 (M.1 0 11)) 1 a) 2 p := by rw [← hcl', rc _ (Nat.le_refl _), b1, if_neg (by omega), if_pos rfl]
          have x7 : M2.1 (oLy i) 7 = 0 := by rw [x0]; rfl
          have x2 : M2.1 (oLy i) 2 = p := by rw [x0]; rfl
          have x1 : M2.1 (oLy i) 1 = a := by rw [x0]; rfl
          have xz : M2.1 (oLy i) 0 = M.1 0 11 := by rw [x0]; rfl
          unfold iLay1
          rw [x7, x2, x1, xz, r73, if_pos rfl, r74, if_pos rfl, r75, if_pos rfl, nm 76 (by decide) (by decide) (by decide) (by decide) (by decide) (by decide), nm 6 (by decide) (by decide) (by decide) (by decide) (by decide) (by decide), (l2 i (by omega)).2 (by omega)]
          exact ⟨⟨hcl, rfl, good.1⟩, ⟨rfl, good.2⟩, ⟨rfl, by decide, by decide⟩, rfl, fun k hk => by rw [tl_0] at hk; omega⟩
        · refine ⟨by rw [lyK_o (by omega) _ _ _ (by omega), if_neg (fun y => z y.2)]; exact (l1 i (by omega)).1, ?_⟩
          have hb : ∀ j, j ≤ 4 → M2.1 (oLy i + j) = M.1 (oLy i + j) := fun j hj => r _ (by unfold oLy; omega) (by simp only [List.mem_cons, List.not_mem_nil, or_false]; unfold oLy at *; omega)
          refine (l1 i (by omega)).2.fr (hb 0 (by omega)) (hb 1 (by omega)) (hb 2 (by omega)) (hb 3 (by omega)) (hb 4 (by omega)) ⟨?_, ?_⟩ ?_ ?_ ?_ ?_ ?_ ?_ ?_ ?_ ?_ ?_
          · rw [nm 6 (by decide) (by decide) (by decide) (by decide) (by decide) (by decide)]
          · rw [nm 6 (by decide) (by decide) (by decide) (by decide) (by decide) (by decide)]
          · rw [nm 11 (by decide) (by decide) (by decide) (by decide) (by decide) (by decide)]
          · exact nm 7 (by decide) (by decide) (by decide) (by decide) (by decide) (by decide)
          · exact nm 8 (by decide) (by decide) (by decide) (by decide) (by decide) (by decide)
          · rw [r73, if_neg z]
          · rw [r74, if_neg z]
          · rw [r75, if_neg z]
          · rw [nm 76 (by decide) (by decide) (by decide) (by decide) (by decide) (by decide)]
          · intro k _; rw [nm 77 (by decide) (by decide) (by decide) (by decide) (by decide) (by decide)]
          · intro k _; rw [nm 78 (by decide) (by decide) (by decide) (by decide) (by decide) (by decide)]
          · intro k _; rw [nm 79 (by decide) (by decide) (by decide) (by decide) (by decide) (by decide)]
      · rw [r0, en] at hi
        have := l2 i (by omega)
        refine ⟨by rw [lyK_o (by omega) _ _ _ (by omega), if_neg (by omega)]; exact this.1, fun h20 => ?_⟩
        rw [nm 76 (by decide) (by decide) (by decide) (by decide) (by decide) (by decide)]
        exact this.2 h20
      · have g := hsh d hd
        unfold iShelf1 at g ⊢
        rw [r0, en, nm (47 + 2 * d) (by omega) (by omega) (by omega) (by omega) (by omega) (by omega), nm 97 (by decide) (by decide) (by decide) (by decide) (by decide) (by decide), nm 98 (by decide) (by decide) (by decide) (by decide) (by decide) (by decide), lyK_o (by omega) _ _ _ (by omega), if_neg (by omega), rL, b2 99 (by omega), b2 (48 + 2 * d) (by omega)]
        rcases g with g | ⟨g1, ⟨g2, g3⟩, g4⟩ | g
        · exact Or.inl g
        · exact Or.inr (Or.inl ⟨g1, ⟨g2, by omega⟩, g4⟩)
        · exact Or.inr (Or.inr g)
    · refine ⟨-3, K, M, M, v_X11_laying_no (N := N) h.1 (Or.inr ⟨good, by omega, rfl⟩), ?_, h, Nat.le_refl _, Nat.le_refl _⟩
      rw [m_laying N a p (by rw [e6]; exact p0) (by rw [e20]; exact c0) (by rw [e20]; exact c1), e6, e20, if_pos good, if_neg c20]
  · refine ⟨-1, K, M, M, v_X11_laying_no (N := N) h.1 (Or.inl ⟨good, rfl⟩), ?_, h, Nat.le_refl _, Nat.le_refl _⟩
    rw [m_laying N a p (by rw [e6]; exact p0) (by rw [e20]; exact c0) (by rw [e20]; exact c1), e6, if_neg good]
