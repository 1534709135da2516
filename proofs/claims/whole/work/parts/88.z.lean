/-! shelves: keep, row; layings: laying; what they keep -/
theorem oInv.shelf {K K1 : oK} {M M' : oM} (h : oInv K M) (f : oFr [47, 49, 51, 53, 55, 57, 97, 98] [] M (M'.1, M.2)) (hSR : oSR K1) (hK : K1.1 = K.1 ∧ K1.2.1 = K.2.1 ∧ K1.2.2.2 20 = K.2.2.2 20) (hsh : iShelf K1 M') : oInv K1 M' := by
  obtain ⟨-, hg, hst, hge, ht, hlo, hth, hac, hl, -⟩ := h
  have hl' : iLay K (M'.1, M.2) := hl.fr f (by decide) (by decide) (by decide)
  have a1 : iGnd (M'.1, M.2) := hg.fr f (by decide) (by decide)
  have a2 : iSet (M'.1, M.2) := hst.fr f (by decide) (by decide)
  have a3 : iGear (M'.1, M.2) := hge.fr f (by decide) (by decide)
  have a4 : iTape (M'.1, M.2) := ht.fr f (by decide) (by decide)
  have a5 : iLoad (M'.1, M.2) := hlo.fr f (by decide) (by decide)
  have a6 : iThing (M'.1, M.2) := hth.fr f (by decide) (congrFun (f.1 40 (by decide) (by decide)) 3) (by decide)
  have a7 : iAct (M'.1, M.2) := hac.fr f (by decide) (by decide)
  refine ⟨hSR, a1, a2, a3, a4, a5, a6, a7, ?_, hsh⟩
  unfold iLay at hl' ⊢
  rw [hK.1, hK.2.1, hK.2.2]
  exact hl'
theorem oRf_sh : ∀ d : Nat, d < 6 → oRf (47 + 2 * d) 2 = none := by decide
theorem oUpR_at (K : oK) (a k : Nat) (x : Option Nat) (b j : Nat) : (oUpR K a k x).2.2.2 b j = if b = a ∧ j = k then x else K.2.2.2 b j := by
  unfold oUpR va_up
  dsimp only
  by_cases c : b = a
  · subst c
    rw [if_pos rfl]
    by_cases d : j = k
    · simp [d]
    · simp [d]
  · rw [if_neg c, if_neg (fun z => c z.1)]
theorem oLS.up {K : oK} {d : Nat} (hK : oSR K) (hd : d < 6) {x : Option Nat} {q : Nat} (h : oLS K q) : oLS (oUpR K (47 + 2 * d) 2 x) q := by
  have hne : ¬ q = 47 + 2 * d := by
    intro z
    have h1 := h.2.1
    rw [z, hK.2.1 _ (by omega)] at h1
    exact absurd h1 ((show ∀ d : Nat, d < 6 → ¬ oSh (47 + 2 * d) = (12, 8) by decide) d hd)
  refine ⟨h.1, h.2.1, fun j g1 g2 => ⟨(h.2.2 j g1 g2).1, ?_⟩⟩
  rw [oUpR_at, if_neg (fun z => hne z.1)]
  exact (h.2.2 j g1 g2).2
theorem oSR.up {K : oK} {d : Nat} (hK : oSR K) (hd : d < 6) {x : Option Nat} (hx : ∀ q, x = some q → oLS K q) : oSR (oUpR K (47 + 2 * d) 2 x) := by
  refine ⟨hK.1, hK.2.1, fun a k b e => ?_, fun i q e => ?_, fun i hi => ?_⟩
  · rw [oUpR_at]
    by_cases c : a = 47 + 2 * d ∧ k = 2
    · rw [c.1, c.2, oRf_sh d hd] at e
      cases e
    · rw [if_neg c]
      exact hK.2.2.1 a k b e
  · rw [oUpR_at, if_neg (by omega)] at e
    exact (hK.2.2.2.1 i q e).up hK hd
  · obtain ⟨g1, g2, g3, g4, g5, g6⟩ := hK.2.2.2.2 i hi
    refine ⟨?_, g2, g3, g4, ?_, fun q e => ?_⟩
    · rw [oUpR_at, if_neg (by omega)]
      exact g1
    · rw [oUpR_at, if_neg (by omega)]
      exact g5
    · rw [oUpR_at] at e
      by_cases c : 47 + 2 * i = 47 + 2 * d ∧ 2 = 2
      · rw [if_pos c] at e
        exact (hx q e).up hK hd
      · rw [if_neg c] at e
        exact (g6 q e).up hK hd
theorem sh_mem {d : Nat} (hd : d < 6) : 47 + 2 * d ≠ 59 ∧ 47 + 2 * d ∈ [47, 49, 51, 53, 55, 57, 97, 98] := by
  simp only [List.mem_cons, List.not_mem_nil, or_false]
  omega
theorem sh_keep {K : oK} {M : oM} (h : oInv K M) {d : Nat} (hd : d < 6) {x : Option Nat} {v w : Int32} (hx : ∀ q, x = some q → oLS K q) (hs : (v = 0 ∧ x = none ∧ w = -1) ∨ (v = 1 ∧ (0 ≤ w.toInt ∧ w.toInt < (M.1 0 11).toInt) ∧ x = some (oLy w.toInt.toNat))) :
    oInv (oUpR K (47 + 2 * d) 2 x) (oUp (oUp (oUp M (47 + 2 * d) 1 v) 97 d w) 98 d 0) := by
  have hsh := h.2.2.2.2.2.2.2.2.2
  refine h.shelf (.up (by decide) (.up (by decide) (.up (sh_mem hd) .rf))) (h.1.up hd hx) ⟨rfl, rfl, ?_⟩ (fun e he => ?_)
  · funext j
    rw [oUpR_at, if_neg (by omega)]
  · have g := hsh e he
    unfold iShelf1 at g ⊢
    have r0 : (oUp (oUp (oUp M (47 + 2 * d) 1 v) 97 d w) 98 d 0).1 0 11 = M.1 0 11 := by rw [oUp_at, if_neg (by omega), oUp_at, if_neg (by omega), oUp_at, if_neg (by omega)]
    rw [r0]
    by_cases c : e = d
    · subst c
      have r1 : (oUp (oUp (oUp M (47 + 2 * e) 1 v) 97 e w) 98 e 0).1 (47 + 2 * e) 1 = v := by rw [oUp_at, if_neg (by omega), oUp_at, if_neg (by omega), oUp_at, if_pos ⟨rfl, rfl⟩]
      have r97 : (oUp (oUp (oUp M (47 + 2 * e) 1 v) 97 e w) 98 e 0).1 97 e = w := by rw [oUp_at, if_neg (by omega), oUp_at, if_pos ⟨rfl, rfl⟩]
      rw [r1, r97, oUpR_at, if_pos ⟨rfl, rfl⟩]
      rcases hs with ⟨s1, s2, s3⟩ | ⟨s1, s2, s3⟩
      · exact Or.inl ⟨s1, s2, s3⟩
      · exact Or.inr (Or.inl ⟨s1, s2, s3⟩)
    · have r : ∀ k, (oUp (oUp (oUp M (47 + 2 * d) 1 v) 97 d w) 98 d 0).1 (47 + 2 * e) k = M.1 (47 + 2 * e) k := fun k => by rw [oUp_at, if_neg (by omega), oUp_at, if_neg (by omega), oUp_at, if_neg (by omega)]
      have r97 : (oUp (oUp (oUp M (47 + 2 * d) 1 v) 97 d w) 98 d 0).1 97 e = M.1 97 e := by rw [oUp_at, if_neg (by omega), oUp_at, if_neg (by omega), oUp_at, if_neg (by omega)]
      have r98 : (oUp (oUp (oUp M (47 + 2 * d) 1 v) 97 d w) 98 d 0).1 98 e = M.1 98 e := by rw [oUp_at, if_neg (by omega), oUp_at, if_neg (by omega), oUp_at, if_neg (by omega)]
      rw [r, r, r, r97, r98, oUpR_at, if_neg (by omega)]
      exact g
theorem st_keep {X : oX} {K : oK} {M : oM} (h : oInv K M) (N : Nat) (a w : Int32) : ∃ r K1 M1 M2, oMet X 4 J_X11_keep [.ref 0, .int a, .int w] K M (some (.int r)) K1 M1 ∧ f_X12_keep N K1 a w M1 = some (r, M2) ∧ oInv K1 M2 ∧ K.1 ≤ K1.1 ∧ K.2.1 ≤ K1.2.1 := by
  have hl := h.2.2.2.2.2.2.2.2.1
  obtain ⟨e20, c0, c1⟩ := hl.1
  by_cases good : (0 ≤ a.toInt ∧ a.toInt ≤ 5) ∧ ((0 ≤ w.toInt ∧ w.toInt < (M.1 0 11).toInt) ∨ w = -1)
  · obtain ⟨ca, cw⟩ := good
    have na : a.toNatClampNeg = a.toInt.toNat := rfl
    have hss := (h.1.2.2.2.2 a.toNatClampNeg (by omega)).2
    have hx6 : ∀ A : Option (Int32 × oM), oIx a 6 A = A := fun A => oIx_p ca.1 (by omega)
    rcases cw with cw | cw
    · have nw : w.toNatClampNeg = w.toInt.toNat := rfl
      have ly := (ly_nn hl cw.1 cw.2).1
      refine ⟨1, _, _, _, v_X11_keep_ly (N := N) h.1 hl ca cw, ?_, sh_keep h (d := a.toNatClampNeg) (by omega) (x := some (oLy w.toNatClampNeg)) (v := 1) (w := w) (fun q e => ?_) (Or.inr ⟨rfl, cw, rfl⟩), Nat.le_refl _, Nat.le_refl _⟩
      · have e20' : (oUp M (47 + 2 * a.toNatClampNeg) 1 1).1 59 20 = M.1 0 11 := by rw [oUp_at, if_neg (by omega)]; exact e20
        unfold f_X12_keep f_X12_keep_22
        rw [isSh12, oB2_p, decide_eq_true ca, cond_true, if_neg (by rw [oEqI, tl_m1]; omega), isLy12 _ _ _ _ (by rw [e20']; exact c0), oB2_p, e20', decide_eq_true cw, cond_true, hx6, hx6]
      · rw [e] at ly
        exact oLyR h.1 ly
    · subst cw
      refine ⟨1, _, _, _, v_X11_keep_nil (N := N) h.1 hl ca, ?_, sh_keep h (d := a.toNatClampNeg) (by omega) (x := none) (v := 0) (w := -1) (fun q e => by cases e) (Or.inl ⟨rfl, rfl, rfl⟩), Nat.le_refl _, Nat.le_refl _⟩
      unfold f_X12_keep f_X12_keep_22
      rw [isSh12, oB2_p, decide_eq_true ca, cond_true, if_pos rfl, hx6, hx6]
  · refine ⟨-1, K, M, M, v_X11_keep_no (N := N) h.1 hl good, ?_, h, Nat.le_refl _, Nat.le_refl _⟩
    unfold f_X12_keep
    rw [isSh12, oB2_p]
    by_cases ca : 0 ≤ a.toInt ∧ a.toInt ≤ 5
    · have cw : ¬ (0 ≤ w.toInt ∧ w.toInt < (M.1 0 11).toInt) := fun z => good ⟨ca, Or.inl z⟩
      have cw2 : ¬ w = -1 := fun z => good ⟨ca, Or.inr z⟩
      rw [decide_eq_true ca, cond_true, if_neg cw2, l12 h, oB2_p, decide_eq_false cw, cond_false]
    · rw [decide_eq_false ca, cond_false]
theorem rw57 {N : Nat} {K : oK} {a : Int32} (a0 : 0 ≤ a.toInt) (a1 : a.toInt ≤ 5) : ∀ (n k : Nat) (M : oM), k ≤ 60 → 60 < k + n → ∃ M', f_X12_row_57 N K n a (60 * a + nI k) M = some (1, M') ∧ M'.1 = M.1 ∧ (∀ r, r ≠ 99 → M'.2 r = M.2 r) ∧ ∀ q, M'.2 99 q = if 60 * a.toNatClampNeg + k ≤ q ∧ q < 60 * a.toNatClampNeg + 60 then 0 else M.2 99 q := by
  have na : a.toNatClampNeg = a.toInt.toNat := rfl
  intro n
  induction n with
  | zero => intro k M h1 h2; omega
  | succ n ih =>
    intro k M h1 h2
    have ek : (nI k).toInt = k := nI_toInt (by omega)
    have e1 : (60 * a).toInt = 60 * a.toInt := by rw [oMul (by rw [tl_60]; omega) (by rw [tl_60]; omega), tl_60]
    have e2 : (60 * a + nI k).toInt = 60 * a.toInt + k := by rw [oAdd (by omega) (by omega), e1, ek]
    have e3 : (60 * a + 60).toInt = 60 * a.toInt + 60 := by rw [oAdd (by rw [e1, tl_60]; omega) (by rw [e1, tl_60]; omega), e1, tl_60]
    rw [f_X12_row_57]
    dsimp only
    by_cases c : k = 60
    · rw [if_pos (by rw [oLeI, e2, e3]; omega)]
      exact ⟨M, rfl, rfl, fun _ _ => rfl, fun q => by rw [if_neg (by omega)]⟩
    · have e4 : (60 * a + nI k).toNatClampNeg = 60 * a.toNatClampNeg + k := by rw [oTnn, e2]; omega
      rw [if_neg (by rw [oLeI, e2, e3]; omega), oIx_p (by omega) (by omega), e4, Int32.add_assoc, nI_1]
      obtain ⟨M', a1, a2, a3, a4⟩ := ih (k + 1) (oUpL M 99 (60 * a.toNatClampNeg + k) 0) (by omega) (by omega)
      refine ⟨M', a1, a2, fun r hr => ?_, fun q => ?_⟩
      · rw [a3 r hr]
        unfold oUpL vp_updL
        simp [hr]
      · rw [a4, oUpL_at]
        by_cases d : q = 60 * a.toNatClampNeg + k
        · rw [if_neg (by omega), if_pos (by omega), if_pos (by omega)]
        · by_cases d2 : 60 * a.toNatClampNeg + k ≤ q ∧ q < 60 * a.toNatClampNeg + 60
          · rw [if_pos (by omega), if_pos d2]
          · rw [if_neg (by omega), if_neg (by omega), if_neg d2]
theorem st_row {X : oX} {K : oK} {M : oM} (h : oInv K M) {N : Nat} (hN : 100 ≤ N) (a s n : Int32) : ∃ r K1 M1 M2, oMet X 4 J_X11_row [.ref 0, .int a, .int s, .int n] K M (some (.int r)) K1 M1 ∧ f_X12_row N K1 a s n M1 = some (r, M2) ∧ oInv K1 M2 ∧ K.1 ≤ K1.1 ∧ K.2.1 ≤ K1.2.1 := by
  have hsh := h.2.2.2.2.2.2.2.2.2
  have m0 : ∀ (K1 : oK) (M1 : oM), f_X12_row N K1 a s n M1 = cond (decide (0 ≤ a.toInt ∧ a.toInt ≤ 5)) (cond (decide (0 ≤ s.toInt ∧ s.toInt ≤ 4)) (if n ≤ 60 then (if 0 ≤ n then oIx a 6 (oIx a 6 (f_X12_row_57 N K1 N a (60 * a) (oUp (oUp M1 97 a.toNatClampNeg (20 + s)) 98 a.toNatClampNeg n))) else some (-14, M1)) else some (-1, M1)) (some (-1, M1))) (some (-1, M1)) := by
    intro K1 M1
    unfold f_X12_row
    rw [isSh12, oB2_p, w12, oB2_p, oLg, show (0 : Int64).toInt = 0 from rfl, show (4 : Int64).toInt = 4 from rfl]
  by_cases good : (0 ≤ a.toInt ∧ a.toInt ≤ 5) ∧ (0 ≤ s.toInt ∧ s.toInt ≤ 4) ∧ n.toInt ≤ 60
  · obtain ⟨ca, cs, cn⟩ := good
    by_cases c0 : n.toInt < 0
    · refine ⟨-14, K, M, M, v_X11_row_no (N := N) h.1 (Or.inr ⟨⟨ca, cs, cn⟩, c0, rfl⟩), ?_, h, Nat.le_refl _, Nat.le_refl _⟩
      rw [m0, decide_eq_true ca, decide_eq_true cs, cond_true, cond_true, if_pos (by rw [oLeI, tl_60]; exact cn), if_neg (by rw [oLeI, tl_0]; omega)]
    · have na : a.toNatClampNeg = a.toInt.toNat := rfl
      have hx6 : ∀ A : Option (Int32 × oM), oIx a 6 A = A := fun A => oIx_p ca.1 (by omega)
      generalize hd : a.toNatClampNeg = d at *
      have hrow := v_X11_row_ok (X := X) (N := N) (K := K) (M := M) h.1 (a := a) (s := s) (n := n) ca cs (by omega) cn
      rw [hd] at hrow
      obtain ⟨M2, a1, a2, a3, a4⟩ := rw57 (N := N) (K := oUpR K (47 + 2 * d) 2 none) ca.1 ca.2 N 0 (oUp (oUp (rwM M (47 + 2 * d) s n) 97 d (20 + s)) 98 d n) (by omega) (by omega)
      rw [show 60 * a + nI 0 = 60 * a from Int32.add_zero _] at a1
      rw [hd] at a4
      refine ⟨1, _, _, M2, hrow, ?_, ?_, Nat.le_refl _, Nat.le_refl _⟩
      · rw [m0, decide_eq_true ca, decide_eq_true cs, cond_true, cond_true, if_pos (by rw [oLeI, tl_60]; exact cn), if_pos (by rw [oLeI, tl_0]; omega), hx6, hx6]
        exact a1
      · have b1 : M2.1 = (oUp (oUp (oUp (oUp (oUp M (47 + 2 * d) 1 2) (47 + 2 * d) 3 s) (47 + 2 * d) 4 n) 97 d (20 + s)) 98 d n).1 := by
          rw [a2]
          unfold oUp rwM
          rw [zrL_1]
          rfl
        have F : oFr [47, 49, 51, 53, 55, 57, 97, 98] [] M (M2.1, M.2) := by
          have : oFr [47, 49, 51, 53, 55, 57, 97, 98] [] M (oUp (oUp (oUp (oUp (oUp M (47 + 2 * d) 1 2) (47 + 2 * d) 3 s) (47 + 2 * d) 4 n) 97 d (20 + s)) 98 d n) := .up (by decide) (.up (by decide) (.up (sh_mem (by omega)) (.up (sh_mem (by omega)) (.up (sh_mem (by omega)) .rf))))
          rw [b1]
          exact this
        have e20 : 20 + s = s + 20 := Int32.add_comm _ _
        refine h.shelf F (h.1.up (by omega) (fun q e => by cases e)) ⟨rfl, rfl, by funext j; rw [oUpR_at, if_neg (by omega)]⟩ (fun e he => ?_)
        have g := hsh e he
        unfold iShelf1 at g ⊢
        have r0 : M2.1 0 11 = M.1 0 11 := by rw [b1, oUp_at, if_neg (by omega), oUp_at, if_neg (by omega), oUp_at, if_neg (by omega), oUp_at, if_neg (by omega), oUp_at, if_neg (by omega)]
        have l99 : ∀ q, M2.2 99 q = if 60 * d ≤ q ∧ q < 60 * d + 60 then 0 else M.2 99 q := by
          intro q
          rw [a4]
          by_cases c : 60 * d ≤ q ∧ q < 60 * d + 60
          · rw [if_pos (by omega), if_pos c]
          · rw [if_neg (by omega), if_neg c]
            show (rwM M (47 + 2 * d) s n).2 99 q = _
            unfold rwM
            rw [zrL_2, if_neg (by omega)]
            rfl
        have l48 : ∀ q, M2.2 (48 + 2 * e) q = if e = d ∧ q < n.toNatClampNeg then 0 else M.2 (48 + 2 * e) q := by
          intro q
          rw [a3 _ (by omega)]
          show (rwM M (47 + 2 * d) s n).2 (48 + 2 * e) q = _
          unfold rwM
          rw [zrL_2]
          by_cases c : e = d ∧ q < n.toNatClampNeg
          · rw [if_pos (by omega), if_pos c]
          · rw [if_neg (by omega), if_neg c]
            rfl
        rw [r0]
        by_cases c : e = d
        · subst c
          have r1 : M2.1 (47 + 2 * e) 1 = 2 := by rw [b1, oUp_at, if_neg (by omega), oUp_at, if_neg (by omega), oUp_at, if_neg (by omega), oUp_at, if_neg (by omega), oUp_at, if_pos ⟨rfl, rfl⟩]
          have r3 : M2.1 (47 + 2 * e) 3 = s := by rw [b1, oUp_at, if_neg (by omega), oUp_at, if_neg (by omega), oUp_at, if_neg (by omega), oUp_at, if_pos ⟨rfl, rfl⟩]
          have r4 : M2.1 (47 + 2 * e) 4 = n := by rw [b1, oUp_at, if_neg (by omega), oUp_at, if_neg (by omega), oUp_at, if_pos ⟨rfl, rfl⟩]
          have r97 : M2.1 97 e = 20 + s := by rw [b1, oUp_at, if_neg (by omega), oUp_at, if_pos ⟨rfl, rfl⟩]
          have r98 : M2.1 98 e = n := by rw [b1, oUp_at, if_pos ⟨rfl, rfl⟩]
          refine Or.inr (Or.inr ⟨r1, by rw [oUpR_at, if_pos ⟨rfl, rfl⟩], by rw [r3]; exact cs, by rw [r97, r3, e20], by rw [r98, r4], by rw [r4]; omega, fun i hi => ?_⟩)
          rw [r4] at hi
          have nn : n.toNatClampNeg = n.toInt.toNat := rfl
          rw [l99, l48, if_pos (by omega), if_pos (by omega)]
        · have r : ∀ k, M2.1 (47 + 2 * e) k = M.1 (47 + 2 * e) k := fun k => by rw [b1, oUp_at, if_neg (by omega), oUp_at, if_neg (by omega), oUp_at, if_neg (by omega), oUp_at, if_neg (by omega), oUp_at, if_neg (by omega)]
          have r97 : M2.1 97 e = M.1 97 e := by rw [b1, oUp_at, if_neg (by omega), oUp_at, if_neg (by omega), oUp_at, if_neg (by omega), oUp_at, if_neg (by omega), oUp_at, if_neg (by omega)]
          have r98 : M2.1 98 e = M.1 98 e := by rw [b1, oUp_at, if_neg (by omega), oUp_at, if_neg (by omega), oUp_at, if_neg (by omega), oUp_at, if_neg (by omega), oUp_at, if_neg (by omega)]
          rw [r, r, r, r97, r98, oUpR_at, if_neg (by omega)]
          rcases g with g | g | ⟨g1, g2, g3, g4, g5, g6, g7⟩
          · exact Or.inl g
          · exact Or.inr (Or.inl g)
          · refine Or.inr (Or.inr ⟨g1, g2, g3, g4, g5, g6, fun i hi => ?_⟩)
            rw [l99, l48, if_neg (by omega), if_neg (fun z => c z.1)]
            exact g7 i hi
  · refine ⟨-1, K, M, M, v_X11_row_no (N := N) h.1 (Or.inl ⟨good, rfl⟩), ?_, h, Nat.le_refl _, Nat.le_refl _⟩
    rw [m0]
    by_cases ca : 0 ≤ a.toInt ∧ a.toInt ≤ 5
    · by_cases cs : 0 ≤ s.toInt ∧ s.toInt ≤ 4
      · rw [decide_eq_true ca, decide_eq_true cs, cond_true, cond_true, if_neg (by rw [oLeI, tl_60]; exact fun z => good ⟨ca, cs, z⟩)]
      · rw [decide_eq_true ca, decide_eq_false cs, cond_true, cond_false]
    · rw [decide_eq_false ca, cond_false]
