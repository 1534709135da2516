/-! parts: what a part that comes changes -/
def eqC (A B : oM) : Prop := ∀ a, a < 59 ∨ 100 < a → A.1 a = B.1 a ∧ A.2 a = B.2 a
def eqM (A B : oM) : Prop := ∀ a, 59 ≤ a → a ≤ 100 → A.1 a = B.1 a ∧ A.2 a = B.2 a
theorem eq_CM {A B : oM} (h : eqC A B) (h2 : eqM A B) : A = B := by
  have h3 : ∀ a, A.1 a = B.1 a ∧ A.2 a = B.2 a := by
    intro a
    by_cases c : a < 59 ∨ 100 < a
    · exact h a c
    · exact h2 a (by omega) (by omega)
  exact Prod.ext (funext fun a => (h3 a).1) (funext fun a => (h3 a).2)
theorem eqC.rf (A : oM) : eqC A A := fun _ _ => ⟨rfl, rfl⟩
theorem eqM.rf (A : oM) : eqM A A := fun _ _ _ => ⟨rfl, rfl⟩
theorem eqC.tr {A B C : oM} (h : eqC A B) (h2 : eqC B C) : eqC A C := fun a c => ⟨(h a c).1.trans (h2 a c).1, (h a c).2.trans (h2 a c).2⟩
theorem eqM.tr {A B C : oM} (h : eqM A B) (h2 : eqM B C) : eqM A C := fun a c d => ⟨(h a c d).1.trans (h2 a c d).1, (h a c d).2.trans (h2 a c d).2⟩
theorem oUp_c {A B : oM} {a k : Nat} {x : Int32} {b : Nat} (h : A.1 b = B.1 b ∧ A.2 b = B.2 b) (h2 : b = a → A.1 a = B.1 a) : (oUp A a k x).1 b = (oUp B a k x).1 b ∧ (oUp A a k x).2 b = (oUp B a k x).2 b := by
  refine ⟨?_, h.2⟩
  unfold oUp
  dsimp only
  by_cases c : b = a
  · rw [if_pos c, if_pos c, h2 c]
  · rw [if_neg c, if_neg c, h.1]
theorem eqC.up {A B : oM} {a k : Nat} {x : Int32} (h : eqC A B) : eqC (oUp A a k x) (oUp B a k x) := fun b c => oUp_c (h b c) (fun e => by rw [← e]; exact (h b c).1)
theorem eqM.up {A B : oM} {a k : Nat} {x : Int32} (h : eqM A B) : eqM (oUp A a k x) (oUp B a k x) := fun b c d => oUp_c (h b c d) (fun e => by rw [← e]; exact (h b c d).1)
theorem eqC.upr {A B : oM} {a k : Nat} {x : Int32} (ha : 59 ≤ a ∧ a ≤ 100) (h : eqC A B) : eqC A (oUp B a k x) := fun b c => ⟨by rw [oUp_ro _ _ _ _ (by omega)]; exact (h b c).1, (h b c).2⟩
theorem eqM.upr {A B : oM} {a k : Nat} {x : Int32} (ha : a < 59 ∨ 100 < a) (h : eqM A B) : eqM A (oUp B a k x) := fun b c d => ⟨by rw [oUp_ro _ _ _ _ (by omega)]; exact (h b c d).1, (h b c d).2⟩
theorem eqC.upl {A B : oM} {a k : Nat} {x : Int32} (ha : 59 ≤ a ∧ a ≤ 100) (h : eqC A B) : eqC (oUp A a k x) B := fun b c => ⟨by rw [oUp_ro _ _ _ _ (by omega)]; exact (h b c).1, (h b c).2⟩
theorem eqM.upl {A B : oM} {a k : Nat} {x : Int32} (ha : a < 59 ∨ 100 < a) (h : eqM A B) : eqM (oUp A a k x) B := fun b c d => ⟨by rw [oUp_ro _ _ _ _ (by omega)]; exact (h b c d).1, (h b c d).2⟩
/-- where a way leads from a point, or -1 -/
def othP (M : oM) (r1 r2 : Nat) (w e : Int32) : Int32 := if M.1 r1 w.toNatClampNeg = e then M.1 r2 w.toNatClampNeg else if M.1 r2 w.toNatClampNeg = e then M.1 r1 w.toNatClampNeg else -1
theorem oth4 {N : Nat} {K : oK} {M : oM} (hw : (M.1 6 6).toInt ≤ 20) (w e : Int32) : f_X4_otherEnd N K w e M = some (if 0 ≤ w.toInt ∧ w.toInt < (M.1 6 6).toInt then othP M 7 8 w e else -1, M) := by
  unfold f_X4_otherEnd othP
  rw [isWy4, oB2_p]
  by_cases c : 0 ≤ w.toInt ∧ w.toInt < (M.1 6 6).toInt
  · have hx : ∀ A : Option (Int32 × oM), oIx w 20 A = A := fun A => oIx_p c.1 (by omega)
    rw [decide_eq_true c, cond_true, if_pos c]
    simp only [hx]
    by_cases d : M.1 7 w.toNatClampNeg = e
    · rw [if_pos d, if_pos d]
    · rw [if_neg d, if_neg d]
      by_cases d2 : M.1 8 w.toNatClampNeg = e
      · rw [if_pos d2, if_pos d2]
      · rw [if_neg d2, if_neg d2]
  · rw [decide_eq_false c, cond_false, if_neg c]
/-- the point behind a part that comes at a point, or -1 -/
def enP (ways engines kind : Int32) (o : Int32 → Int32 → Int32) (E s n b : Int32) : Int32 :=
  if s = 1 then (if (0 ≤ b.toInt ∧ b.toInt ≤ 2) ∧ 0 ≤ n.toInt ∧ n.toInt < ways.toInt then o n E else -1)
  else if s = 0 then (if 0 ≤ n.toInt ∧ n.toInt < engines.toInt then E else -1) else if s = 2 ∧ kind = 3 then E else -1
def newC (M : oM) (l c : Nat) (s n b e : Int32) : oM := oUp (oUp (oUp (oUp (oUp (if s = 0 then oUp M 14 n.toNatClampNeg 1 else M) (oLy l + 1) c s) (oLy l + 2) c (if s = 2 then -1 else n)) (oLy l + 3) c (if s = 1 then b else -1)) (oLy l + 4) c e) (oLy l) 7 (nI (c + 1))
theorem add6 {N : Nat} {K : oK} {M : oM} {l c : Nat} (hc : M.1 (oLy l) 7 = nI c) (h24 : c < 24) (x1 x2 x3 x4 : Int32) : f_X6_add N K (oLy l) x1 x2 x3 x4 M = some ((), oUp (oUp (oUp (oUp (oUp M (oLy l + 1) c x1) (oLy l + 2) c x2) (oLy l + 3) c x3) (oLy l + 4) c x4) (oLy l) 7 (nI (c + 1))) := by
  have ec : (nI c).toInt = c := nI_toInt (by omega)
  have h1 : ∀ (M : oM) (k : Nat) (x : Int32), (oUp M (oLy l + 1) k x).1 (oLy l) = M.1 (oLy l) := fun M k x => oUp_ro M _ k x (by omega)
  have h2 : ∀ (M : oM) (k : Nat) (x : Int32), (oUp M (oLy l + 2) k x).1 (oLy l) = M.1 (oLy l) := fun M k x => oUp_ro M _ k x (by omega)
  have h3 : ∀ (M : oM) (k : Nat) (x : Int32), (oUp M (oLy l + 3) k x).1 (oLy l) = M.1 (oLy l) := fun M k x => oUp_ro M _ k x (by omega)
  have h4 : ∀ (M : oM) (k : Nat) (x : Int32), (oUp M (oLy l + 4) k x).1 (oLy l) = M.1 (oLy l) := fun M k x => oUp_ro M _ k x (by omega)
  have hx : ∀ A : Option (Unit × oM), oIx (nI c) 24 A = A := fun A => oIx_p (by omega) (by omega)
  unfold f_X6_add
  simp only [h1, h2, h3, h4, hc, hx, nI_n (show c < 2147483648 by omega), nI_1]
  rw [if_neg (by rw [oLeI, ec, tl_24]; omega)]
theorem c_part {N : Nat} {K : oK} {M : oM} {l c : Nat} (hc : M.1 (oLy l) 7 = nI c) (h24 : c ≤ 24) (hw : (M.1 6 6).toInt ≤ 20) (he : (M.1 11 6).toInt ≤ 6) (s n b : Int32) :
    f_X11_addPart N K (oLy l) s n b M = if 0 ≤ (enP (M.1 6 6) (M.1 11 6) (M.1 (oLy l) 1) (othP M 7 8) (prevP M l c) s n b).toInt then (if s = 0 ∧ ¬ M.1 14 n.toNatClampNeg = 0 then some (-5, M) else if c < 24 then some (nI (c + 1), newC M l c s n b (enP (M.1 6 6) (M.1 11 6) (M.1 (oLy l) 1) (othP M 7 8) (prevP M l c) s n b)) else some (-3, M)) else some (-1, M) := by
  have ec : (nI c).toInt = c := nI_toInt (by omega)
  have hend : f_X6_end N K (oLy l) M = some (prevP M l c, M) := by
    unfold f_X6_end
    rw [hc, pah6 (by rw [hc, ec]; omega) (by rw [hc, ec]; omega), oB2_p]
  have s10 : ¬ (1 : Int32) = 0 := by decide
  have s12 : ¬ (1 : Int32) = 2 := by decide
  have s01 : ¬ (0 : Int32) = 1 := by decide
  have s02 : ¬ (0 : Int32) = 2 := by decide
  have s20 : ¬ (2 : Int32) = 0 := by decide
  have s21 : ¬ (2 : Int32) = 1 := by decide
  have nr : vp_nar .boolean (1 : Int32) = 1 := rfl
  -- behind the tests
  have tail : ∀ (M' : oM) (e : Int32), M'.1 (oLy l) 7 = nI c → c < 24 → f_X11_addPart_132 N K (oLy l) s n b e M' = some (nI (c + 1), oUp (oUp (oUp (oUp (oUp M' (oLy l + 1) c s) (oLy l + 2) c (if s = 2 then -1 else n)) (oLy l + 3) c (if s = 1 then b else -1)) (oLy l + 4) c e) (oLy l) 7 (nI (c + 1))) := by
    intro M' e hc' h24'
    unfold f_X11_addPart_132 f_X11_addPart_144 f_X11_addPart_155
    simp only [add6 hc' h24', oB2_p, oUp_row]
    by_cases q2 : s = 2
    · subst q2
      rw [if_pos rfl, if_neg s21, if_pos rfl, if_neg s21]
      rfl
    · rw [if_neg q2, if_neg q2]
      by_cases q1 : s = 1
      · rw [if_pos q1, if_pos q1]
        rfl
      · rw [if_neg q1, if_neg q1]
        rfl
  have h106 : ∀ e : Int32, (s = 0 → 0 ≤ n.toInt ∧ n.toInt < 6) → f_X11_addPart_106 N K (oLy l) s n b e M = if c < 24 then some (nI (c + 1), newC M l c s n b e) else some (-3, M) := by
    intro e hn
    unfold f_X11_addPart_106 newC
    rw [hc]
    by_cases q : c < 24
    · rw [if_pos (by rw [oLtI, ec, tl_24]; omega), if_pos q]
      by_cases q0 : s = 0
      · rw [if_pos q0, if_pos q0, oIx_p (hn q0).1 (by have := (hn q0).2; omega), nr, tail _ e (by rw [oUp_ro _ _ _ _ (by unfold oLy; omega)]; exact hc) q]
      · rw [if_neg q0, if_neg q0, tail _ e hc q]
    · rw [if_neg (by rw [oLtI, ec, tl_24]; omega), if_neg q]
  have h80 : ∀ e : Int32, (s = 0 → 0 ≤ e.toInt → 0 ≤ n.toInt ∧ n.toInt < 6) → f_X11_addPart_80 N K (oLy l) s n b e M = if 0 ≤ e.toInt then (if s = 0 ∧ ¬ M.1 14 n.toNatClampNeg = 0 then some (-5, M) else if c < 24 then some (nI (c + 1), newC M l c s n b e) else some (-3, M)) else some (-1, M) := by
    intro e hn
    unfold f_X11_addPart_80
    by_cases q : 0 ≤ e.toInt
    · rw [if_pos (by rw [oLeI, tl_0]; exact q), if_pos q]
      by_cases q0 : s = 0
      · have h6 := hn q0 q
        rw [if_pos q0, oIx_p h6.1 (by omega)]
        by_cases q14 : M.1 14 n.toNatClampNeg = 0
        · rw [if_pos q14, if_neg (fun z => z.2 q14), h106 e (fun _ => h6)]
        · rw [if_neg q14, if_pos ⟨q0, q14⟩]
      · rw [if_neg q0, if_neg (fun z => q0 z.1), h106 e (fun z => absurd z q0)]
    · rw [if_neg (by rw [oLeI, tl_0]; exact q), if_neg q]
  unfold f_X11_addPart f_X11_addPart_33 f_X11_addPart_59 f_X11_addPart_77
  rw [hend, oB2_p, isBo11, oB2_p, isEn3, oB2_p, oth4 hw, oB2_p]
  have hv : ∀ e : Int32, enP (M.1 6 6) (M.1 11 6) (M.1 (oLy l) 1) (othP M 7 8) (prevP M l c) s n b = e → (s = 0 → 0 ≤ e.toInt → 0 ≤ n.toInt ∧ n.toInt < 6) → f_X11_addPart_80 N K (oLy l) s n b e M = if 0 ≤ (enP (M.1 6 6) (M.1 11 6) (M.1 (oLy l) 1) (othP M 7 8) (prevP M l c) s n b).toInt then (if s = 0 ∧ ¬ M.1 14 n.toNatClampNeg = 0 then some (-5, M) else if c < 24 then some (nI (c + 1), newC M l c s n b (enP (M.1 6 6) (M.1 11 6) (M.1 (oLy l) 1) (othP M 7 8) (prevP M l c) s n b)) else some (-3, M)) else some (-1, M) := by
    intro e h1 h2
    rw [h1, h80 e h2]
  by_cases q1 : s = 1
  · rw [if_pos q1]
    have q0 : ¬ s = 0 := by rw [q1]; exact s10
    by_cases qb : 0 ≤ b.toInt ∧ b.toInt ≤ 2
    · rw [decide_eq_true qb, cond_true]
      refine hv _ ?_ (fun z => absurd z q0)
      unfold enP
      rw [if_pos q1]
      by_cases qn : 0 ≤ n.toInt ∧ n.toInt < (M.1 6 6).toInt
      · rw [if_pos ⟨qb, qn⟩, if_pos qn]
      · rw [if_neg (fun z => qn z.2), if_neg qn]
    · rw [decide_eq_false qb, cond_false]
      refine hv _ ?_ (fun z => absurd z q0)
      unfold enP
      rw [if_pos q1, if_neg (fun z => qb z.1)]
  · rw [if_neg q1]
    by_cases q0 : s = 0
    · rw [if_pos q0]
      by_cases qn : 0 ≤ n.toInt ∧ n.toInt < (M.1 11 6).toInt
      · rw [decide_eq_true qn, cond_true]
        refine hv _ ?_ (fun _ _ => ⟨qn.1, by omega⟩)
        unfold enP
        rw [if_neg q1, if_pos q0, if_pos qn]
      · rw [decide_eq_false qn, cond_false]
        refine hv _ ?_ (fun _ z => absurd z (by decide))
        unfold enP
        rw [if_neg q1, if_pos q0, if_neg qn]
    · rw [if_neg q0]
      by_cases q2 : s = 2
      · rw [if_pos q2]
        by_cases qk : M.1 (oLy l) 1 = 3
        · rw [if_pos qk]
          refine hv _ ?_ (fun z => absurd z q0)
          unfold enP
          rw [if_neg q1, if_neg q0, if_pos ⟨q2, qk⟩]
        · rw [if_neg qk]
          refine hv _ ?_ (fun z => absurd z q0)
          unfold enP
          rw [if_neg q1, if_neg q0, if_neg (fun z => qk z.2)]
      · rw [if_neg q2]
        refine hv _ ?_ (fun z => absurd z q0)
        unfold enP
        rw [if_neg q1, if_neg q0, if_neg (fun z => q2 z.1)]
