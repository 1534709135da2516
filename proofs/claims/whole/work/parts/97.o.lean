/-! the soonest way: both halves -/
theorem gd_rg {A B : Nat → Nat} {C : Nat → Int} {W P s : Nat} {d : Nat → Int} (h : gdS A B C W P s 1000000 d) : rgS P d := fun j hj => by
  have := (h.2 j hj).1
  omega
def flS (A B : Nat → Nat) (C : Nat → Int) (P : Nat) (d d' : Nat → Int) (p4 : Int32) (w : Nat) : Prop := (p4 = 0 ∧ d' = d ∧ ∀ w', w' < w → ¬ d (A w') + C w' < d (B w') ∧ ¬ d (B w') + C w' < d (A w')) ∨ (p4 = 1 ∧ smS d' P + 1 ≤ smS d P)
theorem fl_st {A B : Nat → Nat} {C : Nat → Int} {W P : Nat} (hG : okG A B C W P) {d d' : Nat → Int} {p4 : Int32} {w : Nat} (hw : w < W) (h : flS A B C P d d' p4 w) : flS A B C P d (wyS A B C d' w) (if rlx d' (A w) (B w) (C w) (B w) + C w < rlx d' (A w) (B w) (C w) (A w) then 1 else if d' (A w) + C w < d' (B w) then 1 else p4) (w + 1) := by
  have hb := hG w hw
  have le : ∀ p, p < P → wyS A B C d' w p ≤ d' p := fun p _ => wyS_le A B C d' w p
  have sle := smS_le P le
  by_cases c1 : rlx d' (A w) (B w) (C w) (B w) + C w < rlx d' (A w) (B w) (C w) (A w)
  · rw [if_pos c1]
    right
    refine ⟨rfl, ?_⟩
    have h1 := rlx_b (rlx d' (A w) (B w) (C w)) (B w) (A w) (C w)
    have h2 := rlx_le d' (A w) (B w) (C w) (A w)
    have := smS_lt (q := A w) P le hb.1 (by unfold wyS; omega)
    rcases h with ⟨-, h3, -⟩ | ⟨-, h3⟩
    · rw [h3] at this ⊢
      exact this
    · omega
  · rw [if_neg c1]
    by_cases c2 : d' (A w) + C w < d' (B w)
    · rw [if_pos c2]
      right
      refine ⟨rfl, ?_⟩
      have h1 := rlx_b d' (A w) (B w) (C w)
      have h2 := rlx_le (rlx d' (A w) (B w) (C w)) (B w) (A w) (C w) (B w)
      have := smS_lt (q := B w) P le hb.2.1 (by unfold wyS; omega)
      rcases h with ⟨-, h3, -⟩ | ⟨-, h3⟩
      · rw [h3] at this ⊢
        exact this
      · omega
    · rw [if_neg c2]
      rw [rlx_n c2] at c1
      have e : wyS A B C d' w = d' := by
        unfold wyS
        rw [rlx_n c2, rlx_n c1]
      rw [e]
      rcases h with ⟨h1, h2, h3⟩ | h
      · refine Or.inl ⟨h1, h2, fun w' hw' => ?_⟩
        by_cases z : w' = w
        · rw [z]
          rw [h2] at c1 c2
          exact ⟨c2, c1⟩
        · exact h3 w' (by omega)
      · exact Or.inr h
theorem so78 {N : Nat} {K : oK} {M : oM} (hg : iGnd M) (hge : iGear M) {e : Int32} (e0 : 0 ≤ e.toInt) (e1 : e.toInt < (M.1 11 6).toInt) {s : Nat} (r67 : Int32 → Int32 → Int32 → oM → Option (Int32 × oM)) (p3 : Int32) {d : Nat → Int} : ∀ (f w : Nat) (p4 : Int32) (M1 : oM), w ≤ (M.1 6 6).toInt.toNat → (M.1 6 6).toInt.toNat < w + f → oFr [10, 93] [] M M1 →
    roS M1 93 (M.1 6 5).toInt.toNat (rdS (wA M) (wB M) (wC M (M.1 13 e.toNatClampNeg).toInt) d w) → gdS (wA M) (wB M) (wC M (M.1 13 e.toNatClampNeg).toInt) (M.1 6 6).toInt.toNat (M.1 6 5).toInt.toNat s 1000000 (rdS (wA M) (wB M) (wC M (M.1 13 e.toNatClampNeg).toInt) d w) → flS (wA M) (wB M) (wC M (M.1 13 e.toNatClampNeg).toInt) (M.1 6 5).toInt.toNat d (rdS (wA M) (wB M) (wC M (M.1 13 e.toNatClampNeg).toInt) d w) p4 w →
    ∃ p4' M2, f_X12_soon_78 N K r67 f e p3 p4 (nI w) M1 = r67 e p3 p4' M2 ∧ oFr [10, 93] [] M M2 ∧ roS M2 93 (M.1 6 5).toInt.toNat (rdS (wA M) (wB M) (wC M (M.1 13 e.toNatClampNeg).toInt) d (M.1 6 6).toInt.toNat) ∧ gdS (wA M) (wB M) (wC M (M.1 13 e.toNatClampNeg).toInt) (M.1 6 6).toInt.toNat (M.1 6 5).toInt.toNat s 1000000 (rdS (wA M) (wB M) (wC M (M.1 13 e.toNatClampNeg).toInt) d (M.1 6 6).toInt.toNat) ∧
      flS (wA M) (wB M) (wC M (M.1 13 e.toNatClampNeg).toInt) (M.1 6 5).toInt.toNat d (rdS (wA M) (wB M) (wC M (M.1 13 e.toNatClampNeg).toInt) d (M.1 6 6).toInt.toNat) p4' (M.1 6 6).toInt.toNat := by
  have hW := hg.2.1.2
  have hP := hg.1.2
  have h6 := hge.1.2.2
  have ne : e.toNatClampNeg = e.toInt.toNat := rfl
  obtain ⟨-, -, s0, s1⟩ := hge.2.2.1 e.toNatClampNeg (by omega)
  have hG := wG hg s0 s1
  intro f
  induction f with
  | zero => intro w p4 M1 h1 h2; omega
  | succ f ih =>
    intro w p4 M1 h1 h2 F hd gd fl
    have ew : (nI w).toInt = w := nI_toInt (by omega)
    by_cases q : w = (M.1 6 6).toInt.toNat
    · have e7 : M1.1 59 7 = M.1 6 6 := by rw [F.2.1 7 (by decide)]; exact hg.2.1.1
      rw [f_X12_soon_78]
      dsimp only
      rw [e7, if_pos (by rw [oLeI, ew]; omega)]
      rw [q] at hd gd fl
      exact ⟨p4, M1, rfl, F, hd, gd, fl⟩
    · have hw : w < (M.1 6 6).toInt.toNat := by omega
      have gc := hG w hw
      have et := wT hg s0 s1 hw
      have rg := gd_rg gd
      obtain ⟨M2, a1, a2, a3⟩ := so78a (N := N) (K := K) hg hge e0 e1 F hd rg hw r67 f p3 p4
      have rg2 := rg_rlx rg (a := wA M w) (b := wB M w) gc.1 gc.2.1 (c := wC M (M.1 13 e.toNatClampNeg).toInt w) (by omega)
      obtain ⟨M3, c1, c2, c3⟩ := so172 (N := N) (K := K) hg a2 a3 rg2 hw (c := (M.1 9 w + M.1 13 e.toNatClampNeg - 1) / M.1 13 e.toNatClampNeg) (by omega) (by omega) r67 (f_X12_soon_78 N K r67 f) e p3 (if rdS (wA M) (wB M) (wC M (M.1 13 e.toNatClampNeg).toInt) d w (wA M w) + wC M (M.1 13 e.toNatClampNeg).toInt w < rdS (wA M) (wB M) (wC M (M.1 13 e.toNatClampNeg).toInt) d w (wB M w) then 1 else p4)
      rw [a1, c1]
      rw [et] at c3 ⊢
      exact ih (w + 1) _ M3 (by omega) (by omega) c2 c3 (gd_wy hG gd hw) (fl_st hG hw fl)
theorem so67 {N : Nat} (hN : 100 ≤ N) {K : oK} {M : oM} (hg : iGnd M) (hge : iGear M) {e : Int32} (e0 : 0 ≤ e.toInt) (e1 : e.toInt < (M.1 11 6).toInt) {s : Nat} {p3 : Int32} (t0 : 0 ≤ p3.toInt) (t1 : p3.toInt < (M.1 6 5).toInt) : ∀ (f : Nat) (p4 : Int32) (d : Nat → Int) (M1 : oM), oFr [10, 93] [] M M1 → roS M1 93 (M.1 6 5).toInt.toNat d → gdS (wA M) (wB M) (wC M (M.1 13 e.toNatClampNeg).toInt) (M.1 6 6).toInt.toNat (M.1 6 5).toInt.toNat s 1000000 d →
    ((p4 = 0 ∧ fxS (wA M) (wB M) (wC M (M.1 13 e.toNatClampNeg).toInt) (M.1 6 6).toInt.toNat d ∧ 1 ≤ f) ∨ (p4 = 1 ∧ smS d (M.1 6 5).toInt.toNat + 2 ≤ f)) →
    ∃ (D : Nat → Int) (M2 : oM), f_X12_soon_67 N K f e p3 p4 M1 = some (if D p3.toNatClampNeg < 1000000 then iI (D p3.toNatClampNeg) else -2, M2) ∧ oFr [10, 93] [] M M2 ∧ gdS (wA M) (wB M) (wC M (M.1 13 e.toNatClampNeg).toInt) (M.1 6 6).toInt.toNat (M.1 6 5).toInt.toNat s 1000000 D ∧ fxS (wA M) (wB M) (wC M (M.1 13 e.toNatClampNeg).toInt) (M.1 6 6).toInt.toNat D := by
  have hW := hg.2.1.2
  have hP := hg.1.2
  have n3 : p3.toNatClampNeg = p3.toInt.toNat := rfl
  intro f
  induction f with
  | zero =>
    intro p4 d M1 F hd gd hc
    have := smS_0 (d := d) (M.1 6 5).toInt.toNat (fun p hp => (gd.2 p hp).1.1)
    rcases hc with ⟨-, -, h⟩ | ⟨-, h⟩ <;> omega
  | succ f ih =>
    intro p4 d M1 F hd gd hc
    rw [f_X12_soon_67]
    dsimp only
    rcases hc with ⟨h1, h2, h3⟩ | ⟨h1, h2⟩
    · have ed := hd p3.toNatClampNeg (by omega)
      rw [if_pos h1, oIx_p t0 (by omega)]
      refine ⟨d, M1, ?_, F, gd, h2⟩
      by_cases z : d p3.toNatClampNeg < 1000000
      · rw [if_pos z, if_pos (by rw [oLtI, ed, tl_1000000]; exact z), oIx_p t0 (by omega), ← iI_of ed]
      · rw [if_neg z, if_neg (by rw [oLtI, ed, tl_1000000]; exact z)]
    · rw [if_neg (by rw [h1]; decide)]
      have s0 := smS_0 (d := d) (M.1 6 5).toInt.toNat (fun p hp => (gd.2 p hp).1.1)
      obtain ⟨p4', M2, a1, a2, a3, a4, a5⟩ := so78 (N := N) (K := K) hg hge e0 e1 (s := s) (f_X12_soon_67 N K f) p3 (d := d) N 0 0 M1 (by omega) (by omega) F hd gd (Or.inl ⟨rfl, rfl, fun w' h => by omega⟩)
      have a1' : f_X12_soon_78 N K (f_X12_soon_67 N K f) N e p3 0 0 M1 = _ := a1
      rw [a1']
      refine ih p4' _ M2 a2 a3 a4 ?_
      rcases a5 with ⟨b1, b2, b3⟩ | ⟨b1, b2⟩
      · refine Or.inl ⟨b1, ?_, by omega⟩
        rw [b2]
        intro a b c he
        obtain ⟨w, w1, w2, w3⟩ := he
        have := b3 w w1
        rcases w2 with ⟨z1, z2⟩ | ⟨z1, z2⟩
        · rw [z1, z2, w3] at this
          omega
        · rw [z1, z2, w3] at this
          omega
      · exact Or.inr ⟨b1, by omega⟩
theorem so29 {N : Nat} {K : oK} {M : oM} (hg : iGnd M) (e p3 : Int32) {p2 : Int32} (f0 : 0 ≤ p2.toInt) (f1 : p2.toInt < (M.1 6 5).toInt) : ∀ (f j : Nat) (M1 : oM), j ≤ (M.1 6 5).toInt.toNat → (M.1 6 5).toInt.toNat < j + f → oFr [10, 93] [] M M1 → (∀ i, i < j → (M1.1 93 i).toInt = if i = p2.toNatClampNeg then 0 else 1000000) →
    ∃ M2, f_X12_soon_29 N K f e p2 p3 (nI j) M1 = f_X12_soon_67 N K N e p3 1 M2 ∧ oFr [10, 93] [] M M2 ∧ roS M2 93 (M.1 6 5).toInt.toNat (fun p => if p = p2.toNatClampNeg then 0 else 1000000) := by
  have hP := hg.1.2
  have n2 : p2.toNatClampNeg = p2.toInt.toNat := rfl
  intro f
  induction f with
  | zero => intro j M1 h1 h2; omega
  | succ f ih =>
    intro j M1 h1 h2 F hd
    have ej : (nI j).toInt = j := nI_toInt (by omega)
    have e6 : M1.1 59 6 = M.1 6 5 := by rw [F.2.1 6 (by decide)]; exact hg.1.1
    rw [f_X12_soon_29]
    dsimp only
    rw [e6]
    by_cases q : j = (M.1 6 5).toInt.toNat
    · rw [if_pos (by rw [oLeI, ej]; omega)]
      exact ⟨M1, rfl, F, fun i hi => hd i (by omega)⟩
    · rw [if_neg (by rw [oLeI, ej]; omega)]
      unfold f_X12_soon_57
      have hx : ∀ A : Option (Int32 × oM), oIx (nI j) 12 A = A := fun A => oIx_p (by omega) (by omega)
      rw [hx, hx, nI_1, nI_n (by omega)]
      by_cases z : nI j = p2
      · rw [if_pos z]
        have z' : j = p2.toNatClampNeg := by rw [← z, nI_n (by omega)]
        refine ih (j + 1) _ (by omega) (by omega) (.up (by decide) F) (fun i hi => ?_)
        rw [oUp_at]
        by_cases y : i = j
        · rw [if_pos ⟨rfl, y⟩, if_pos (by omega)]
          rfl
        · rw [if_neg (fun x => y x.2)]
          exact hd i (by omega)
      · rw [if_neg z]
        have z' : ¬ j = p2.toNatClampNeg := fun y => z (by rw [oEqI, ej]; omega)
        refine ih (j + 1) _ (by omega) (by omega) (.up (by decide) F) (fun i hi => ?_)
        rw [oUp_at]
        by_cases y : i = j
        · rw [if_pos ⟨rfl, y⟩, if_neg (by omega)]
          rfl
        · rw [if_neg (fun x => y x.2)]
          exact hd i (by omega)
theorem ag_soon {K : oK} {M : oM} (h : oInv K M) {N : Nat} (hN : 20000000 ≤ N) (e p q : Int32) : oAg K M (f_X11_soon N K e p q M) (f_X12_soon N K e p q) := by
  obtain ⟨-, hg, -, hge, -⟩ := id h
  obtain ⟨⟨g6, g60, g61⟩, ⟨g7, g70, g71⟩, -⟩ := id hg
  obtain ⟨⟨k1, k2, k3⟩, -⟩ := id hge
  have m0 : ∀ M1, M1.1 59 6 = M.1 6 5 → M1.1 59 11 = M.1 11 6 → f_X12_soon N K e p q M1 = cond (decide (0 ≤ e.toInt ∧ e.toInt < (M.1 11 6).toInt)) (cond (decide (0 ≤ p.toInt ∧ p.toInt < (M.1 6 5).toInt)) (cond (decide (0 ≤ q.toInt ∧ q.toInt < (M.1 6 5).toInt)) (f_X12_soon_29 N K N e p q 0 M1) (some (-1, M1))) (some (-1, M1))) (some (-1, M1)) := by
    intro M1 h6 h11
    unfold f_X12_soon
    rw [isEn12 N K e M1 (by rw [h11]; exact k2), oB2_p, isPt12 N K p M1 (by rw [h6]; exact g60), oB2_p, isPt12 N K q M1 (by rw [h6]; exact g60), oB2_p, h6, h11]
  unfold f_X11_soon
  rw [isEn3, oB2_p, isPt4, oB2_p, isPt4, oB2_p]
  by_cases ce : 0 ≤ e.toInt ∧ e.toInt < (M.1 11 6).toInt
  · by_cases cp : 0 ≤ p.toInt ∧ p.toInt < (M.1 6 5).toInt
    · by_cases cq : 0 ≤ q.toInt ∧ q.toInt < (M.1 6 5).toInt
      · have ne : e.toNatClampNeg = e.toInt.toNat := rfl
        have np : p.toNatClampNeg = p.toInt.toNat := rfl
        have nq : q.toNatClampNeg = q.toInt.toNat := rfl
        obtain ⟨-, -, s0, s1⟩ := hge.2.2.1 e.toNatClampNeg (by omega)
        rw [decide_eq_true ce, decide_eq_true cp, decide_eq_true cq, cond_true, cond_true, cond_true, oIx_p ce.1 (by omega)]
        obtain ⟨M2, a1, a2, a3⟩ := so27 (N := N) (K := K) hg (M.1 13 e.toNatClampNeg) q cp.1 cp.2 N 0 M (by omega) (by omega) .rf (fun i hi => by omega)
        obtain ⟨M3, c1, c2⟩ := so61 (N := N) (by omega) (K := K) hg s0 s1 cq.1 cq.2 (d := fun p' => if p' = p.toNatClampNeg then 0 else 1000000000) N 0 M2 (by omega) (by omega) a2 a3 (fun j hj => by
          show 0 ≤ (if j = p.toNatClampNeg then (0 : Int) else 1000000000) ∧ (if j = p.toNatClampNeg then (0 : Int) else 1000000000) ≤ 1000000000
          split <;> omega)
        have ec : f_X4_soonest N K (M.1 13 e.toNatClampNeg) p q M = f_X4_soonest_61 N K N (M.1 13 e.toNatClampNeg) q 0 M2 := by
          unfold f_X4_soonest
          rw [if_neg (by rw [oLtI, tl_1]; omega), isPt4, oB2_p, isPt4, oB2_p, decide_eq_true cp, decide_eq_true cq, cond_true, cond_true]
          exact a1
        have c1' : f_X4_soonest_61 N K N (M.1 13 e.toNatClampNeg) q 0 M2 = _ := c1
        rw [ec, c1', oB2_p]
        have F3 : oFr [10, 93] [] M M3 := c2.weak (by decide) (by decide)
        obtain ⟨M4, d1, d2, d3⟩ := so29 (N := N) (K := K) hg e q cp.1 cp.2 N 0 M3 (by omega) (by omega) F3 (fun i hi => by omega)
        have gd : gdS (wA M) (wB M) (wC M (M.1 13 e.toNatClampNeg).toInt) (M.1 6 6).toInt.toNat (M.1 6 5).toInt.toNat p.toNatClampNeg 1000000 (fun p' => if p' = p.toNatClampNeg then 0 else 1000000) := by
          refine ⟨if_pos rfl, fun x hx => ?_⟩
          dsimp only
          by_cases z : x = p.toNatClampNeg
          · rw [if_pos z]
            exact ⟨by omega, Or.inr (Or.inl z)⟩
          · rw [if_neg z]
            exact ⟨by omega, Or.inl rfl⟩
        have su := smS_u (d := fun p' => if p' = p.toNatClampNeg then (0 : Int) else 1000000) (F := 1000000) (M.1 6 5).toInt.toNat (fun x hx => (gd.2 x hx).1.2)
        obtain ⟨D, M5, f1, f2, f3, f4⟩ := so67 (N := N) (by omega) (K := K) hg hge ce.1 ce.2 (s := p.toNatClampNeg) cq.1 cq.2 N 1 _ M4 d2 d3 gd (Or.inr ⟨rfl, by omega⟩)
        have key := so_S (wG hg s0 s1) (by omega) (s := p.toNatClampNeg) (by omega) (F := 1000000) (G := 1000000000) (by omega) (by omega) f3 f4 (d := fun p' => if p' = p.toNatClampNeg then 0 else 1000000000) (if_pos rfl) (fun x hx z => if_neg z) q.toNatClampNeg (by omega)
        have hD := (f3.2 q.toNatClampNeg (by omega)).1
        have mod : f_X12_soon N K e p q M3 = some (if D q.toNatClampNeg < 1000000 then iI (D q.toNatClampNeg) else -2, M5) := by
          rw [m0 M3 (by rw [F3.2.1 6 (by decide)]; exact g6) (by rw [F3.2.1 11 (by decide)]; exact k1), decide_eq_true ce, decide_eq_true cp, decide_eq_true cq, cond_true, cond_true, cond_true]
          have d1' : f_X12_soon_29 N K N e p q 0 M3 = _ := d1
          rw [d1', f1]
        refine oAg.mk M5 rfl ?_ (h.scr (f2.weak (by decide) (by decide)))
        rw [mod]
        by_cases z : D q.toNatClampNeg < 1000000
        · rw [key.2 z, if_pos z, if_pos (by omega)]
        · rw [key.1 (by omega), if_neg z, if_neg (by omega)]
      · rw [decide_eq_true ce, decide_eq_true cp, decide_eq_false cq, cond_true, cond_true, cond_false]
        refine oAg.mk M rfl ?_ h
        rw [m0 M g6 k1, decide_eq_true ce, decide_eq_true cp, decide_eq_false cq, cond_true, cond_true, cond_false]
    · rw [decide_eq_true ce, decide_eq_false cp, cond_true, cond_false]
      refine oAg.mk M rfl ?_ h
      rw [m0 M g6 k1, decide_eq_true ce, decide_eq_false cp, cond_true, cond_false]
  · rw [decide_eq_false ce, cond_false]
    refine oAg.mk M rfl ?_ h
    rw [m0 M g6 k1, decide_eq_false ce, cond_false]
