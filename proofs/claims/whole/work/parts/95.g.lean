/-! hose of a laying; of, old -/
def hoS (c : Nat → oStp) (b : Nat) : Nat → Int
  | 0 => 0
  | k + 1 => hoS c b k + if (c k).1 = 1 ∧ (c k).2.1 = b then (c k).2.2.1 * (c k).2.2.2.1 else 0
theorem hoS_b {c : Nat → oStp} {T : Nat} (hc : ∀ i, i < T → okS (c i)) (b : Nat) : ∀ k, k ≤ T → 0 ≤ hoS c b k ∧ hoS c b k ≤ 60 * (k : Int) := by
  intro k
  induction k with
  | zero => intro _; simp [hoS]
  | succ k ih =>
    intro hk
    have h1 := ih (by omega)
    rw [hoS]
    by_cases q : (c k).1 = 1 ∧ (c k).2.1 = b
    · rw [if_pos q]
      rcases hc k (by omega) with ⟨s1, -⟩ | ⟨s1, s2, ⟨s3, s4⟩, s5, -⟩ | s1
      · omega
      · rcases s5 with s5 | s5
        · rw [s5]; omega
        · rw [s5]; omega
      · omega
    · rw [if_neg q]
      omega
theorem c_hose {N : Nat} (hN : 100 ≤ N) {K : oK} {M : oM} {l b : Nat} (hg : iGnd M) (hge : iGear M) (hs : iSet M) (hy : iLay1 M l) (hb : b < 3) : ∀ (f k : Nat), k ≤ (M.1 (oLy l) 7).toInt.toNat → (M.1 (oLy l) 7).toInt.toNat < k + f → f_X11_hoseOf_5 N K f (oLy l) (nI b) (iI (hoS (coV M l 0 0) b k)) (nI k) M = some (iI (hoS (coV M l 0 0) b (M.1 (oLy l) 7).toInt.toNat), M) := by
  have h24 := hy.2.2.1.2.2
  have h00 := hy.2.2.1.2.1
  have hok := coV_ok (md := 0) (x := 0) hg hge hs hy (by omega) (by omega)
  rw [show cntI 0 0 (M.1 (oLy l) 7).toInt.toNat = (M.1 (oLy l) 7).toInt.toNat by unfold cntI; rw [if_neg (by omega), if_neg (by omega)]] at hok
  have hbd := hoS_b hok b
  intro f
  induction f with
  | zero => intro k h1 h2; omega
  | succ f ih =>
    intro k h1 h2
    have ek : (nI k).toInt = k := nI_toInt (by omega)
    rw [f_X11_hoseOf_5]
    dsimp only
    by_cases c : k = (M.1 (oLy l) 7).toInt.toNat
    · rw [if_pos (by rw [oLeI, ek]; omega), c]
    · obtain ⟨-, -, ho⟩ := hy.2.2.2.2 k (by omega)
      have hxk : ∀ A : Option (Int32 × oM), oIx (nI k) 24 A = A := fun A => oIx_p (by omega) (by omega)
      have h2k := hbd k (by omega)
      have h2k1 := hbd (k + 1) (by omega)
      have okk := hok k (by omega)
      unfold f_X11_hoseOf_61
      rw [if_neg (by rw [oLeI, ek]; omega), hxk, nI_n (by omega), nI_1]
      by_cases q1 : M.1 (oLy l + 1) k = 1
      · rcases ho with ⟨w, -⟩ | ⟨w1, w2, w3, -⟩ | ⟨w, -⟩
        · rw [w] at q1; exact absurd q1 (by decide)
        · have hco : coV M l 0 0 k = (1, (M.1 (oLy l + 3) k).toInt.toNat, (M.1 9 (M.1 (oLy l + 2) k).toInt.toNat).toInt, lnV M l (-1) k, htV M (M.1 (oLy l + 4) k) - htV M (prevP M l k)) := by
            rw [coV0]
            unfold paV
            rw [if_neg (by rw [w1]; decide), if_pos w1]
          have hw := hg.2.2.2 (M.1 (oLy l + 2) k).toInt.toNat (by omega)
          rw [if_pos q1, hxk]
          by_cases q3 : M.1 (oLy l + 3) k = nI b
          · have hl := lin6 (N := N) hN (K := K) (M := M) (l := l) (k := k) (by omega) (-1) h00 h24
            rw [tl_m1] at hl
            have hb3 : (M.1 (oLy l + 3) k).toInt.toNat = b := by rw [q3, nI_toInt (by omega)]; omega
            rw [if_pos q3, hl, oB2_p, hxk, len4 w2.1 w2.2 hg.2.1.2.2, oB2_p, ← ih (k + 1) (by omega) (by omega)]
            have e : iI (hoS (coV M l 0 0) b k) + iI (lnV M l (-1) k) * M.1 9 (M.1 (oLy l + 2) k).toInt.toNat = iI (hoS (coV M l 0 0) b (k + 1)) := by
              refine iI_of ?_
              rw [hoS, hco] at h2k1
              dsimp only at h2k1
              rw [if_pos ⟨rfl, hb3⟩] at h2k1
              rw [hoS, hco]
              dsimp only
              rw [if_pos ⟨rfl, hb3⟩]
              have lb := lnV_b M l (-1) k
              have el : (iI (lnV M l (-1) k)).toInt = lnV M l (-1) k := iI_t (by omega) (by omega)
              have em : (iI (lnV M l (-1) k) * M.1 9 (M.1 (oLy l + 2) k).toInt.toNat).toInt = (M.1 9 (M.1 (oLy l + 2) k).toInt.toNat).toInt * lnV M l (-1) k := by
                rcases lb with lb | lb
                · rw [oMul (by rw [el, lb]; omega) (by rw [el, lb]; omega), el, Int.mul_comm]
                · rw [oMul (by rw [el, lb]; omega) (by rw [el, lb]; omega), el, Int.mul_comm]
              rw [oAdd (by rw [iI_t (by omega) (by omega), em]; omega) (by rw [iI_t (by omega) (by omega), em]; omega), em, iI_t (by omega) (by omega)]
            rw [e]
          · rw [if_neg q3, ← ih (k + 1) (by omega) (by omega), hoS, hco]
            dsimp only
            rw [if_neg (show ¬ ((1 : Nat) = 1 ∧ (M.1 (oLy l + 3) k).toInt.toNat = b) from fun z => q3 (oNI (by omega))), Int.add_zero]
        · rw [w] at q1; exact absurd q1 (by decide)
      · rw [if_neg q1, ← ih (k + 1) (by omega) (by omega), hoS, coV0]
        have : ¬ ((paV M l (lnV M l (-1) k) k).1 = 1 ∧ (paV M l (lnV M l (-1) k) k).2.1 = b) := by
          unfold paV
          by_cases q0 : M.1 (oLy l + 1) k = 0
          · rw [if_pos q0]
            exact fun z => absurd z.1 (show ¬ (0 : Nat) = 1 by decide)
          · rw [if_neg q0, if_neg q1]
            exact fun z => absurd z.1 (show ¬ (2 : Nat) = 1 by decide)
        rw [if_neg this, Int.add_zero]
theorem m_hose {N : Nat} {K : oK} {M : oM} {c : Nat → oStp} {T b : Nat} (hT : T ≤ 25) (hM : oMr M c T) (hok : ∀ i, i < T → okS (c i)) (hb : b < 3) : ∀ (f k : Nat), k ≤ T → T < k + f → f_X12_hoseOf_10 N K f (nI b) (iI (hoS c b k)) (nI k) M = some (iI (hoS c b T), M) := by
  have hbd := hoS_b hok b
  have eT : (nI T).toInt = T := nI_toInt (by omega)
  intro f
  induction f with
  | zero => intro k h1 h2; omega
  | succ f ih =>
    intro k h1 h2
    have ek : (nI k).toInt = k := nI_toInt (by omega)
    rw [f_X12_hoseOf_10]
    dsimp only
    rw [hM.1]
    by_cases cT : k = T
    · rw [if_pos (by rw [oLeI, ek, eT]; omega), cT]
    · have hxk : ∀ A : Option (Int32 × oM), oIx (nI k) 25 A = A := fun A => oIx_p (by omega) (by omega)
      have h2k := hbd k (by omega)
      have h2k1 := hbd (k + 1) (by omega)
      have okk := hok k (by omega)
      unfold f_X12_hoseOf_65 f_X12_hoseOf_66
      rw [if_neg (by rw [oLeI, ek, eT]; omega), hxk, nI_n (by omega), nI_1, ← ih (k + 1) (by omega) (by omega)]
      rcases hM.2 k (by omega) with ⟨s1, c1, -⟩ | ⟨s1, c2, c3, ⟨c4, c5, c6⟩, c7, c8⟩ | ⟨s1, c1⟩
      · rw [if_neg (by rw [c1]; decide), Int32.add_zero, hoS, if_neg (fun z => by omega), Int.add_zero]
      · rw [if_pos c2, hxk, c3]
        have hb3 : (c k).2.1 < 3 := by
          rcases okk with ⟨w, -⟩ | ⟨-, w, -⟩ | w
          · omega
          · exact w
          · omega
        by_cases q : (c k).2.1 = b
        · have lb : (c k).2.2.2.1 = 1 ∨ (c k).2.2.2.1 = 2 := by
            rcases okk with ⟨w, -⟩ | ⟨-, -, -, w, -⟩ | w
            · omega
            · exact w
            · omega
          have lb3 : 1 ≤ (c k).2.2.1 ∧ (c k).2.2.1 ≤ 30 := by
            rcases okk with ⟨w, -⟩ | ⟨-, -, w, -⟩ | w
            · omega
            · exact w
            · omega
          rw [if_pos (by rw [q]), hxk, oIx_p c4 (by omega), hxk, oTnn]
          have e : iI (hoS c b k) + M.1 66 (M.1 82 k).toInt.toNat * M.1 84 k = iI (hoS c b (k + 1)) := by
            refine iI_of ?_
            rw [hoS, if_pos ⟨s1, q⟩] at h2k1
            rw [hoS, if_pos ⟨s1, q⟩]
            have em : (M.1 66 (M.1 82 k).toInt.toNat * M.1 84 k).toInt = (c k).2.2.1 * (c k).2.2.2.1 := by
              rcases lb with lb | lb
              · rw [oMul (by rw [c6, c7, lb]; omega) (by rw [c6, c7, lb]; omega), c6, c7]
              · rw [oMul (by rw [c6, c7, lb]; omega) (by rw [c6, c7, lb]; omega), c6, c7]
            rw [oAdd (by rw [iI_t (by omega) (by omega), em]; omega) (by rw [iI_t (by omega) (by omega), em]; omega), em, iI_t (by omega) (by omega)]
          rw [e]
        · rw [if_neg (by rw [nI_inj (by omega) (by omega)]; exact q), Int32.add_zero, hoS, if_neg (fun z => q z.2), Int.add_zero]
      · rw [if_neg (by rw [c1]; decide), Int32.add_zero, hoS, if_neg (fun z => by omega), Int.add_zero]
theorem hose11 {K : oK} {M : oM} (h : oInv K M) {N : Nat} (hN : 100 ≤ N) {l b : Nat} (hy : iLay1 M l) (hb : b < 3) : f_X11_hoseOf N K (oLy l) (nI b) M = some (iI (hoS (coV M l 0 0) b (M.1 (oLy l) 7).toInt.toNat), M) := by
  have h24 := hy.2.2.1.2.2
  unfold f_X11_hoseOf
  exact c_hose hN h.2.1 h.2.2.2.1 h.2.2.1 hy hb N 0 (by omega) (by omega)
theorem hose12 {K : oK} {M M1 : oM} (h : oInv K M) (F : fS M M1) {N : Nat} (hN : 100 ≤ N) {l b : Nat} (hl : l < 20) (hy : iLay1 M l) (hb : b < 3) : ∃ M2, f_X12_hoseOf N K (nI l) (nI b) M1 = some (iI (hoS (coV M l 0 0) b (M.1 (oLy l) 7).toInt.toNat), M2) ∧ fS M M2 := by
  have h24 := hy.2.2.1.2.2
  have hok0 := ok0 h hy (md := 0) (x := 0) (by omega) (by omega)
  rw [cnt0] at hok0
  obtain ⟨M2, b1, b2, b3⟩ := thk h F hN hl hy
  refine ⟨M2, ?_, b2⟩
  unfold f_X12_hoseOf
  rw [b1, oB2_p]
  exact m_hose (N := N) (K := K) (by omega) b3 hok0 hb N 0 (by omega) (by omega)
theorem ag_of {K : oK} {M : oM} (h : oInv K M) {N : Nat} (hN : 100 ≤ N) (a w : Int32) : oAg K M (f_X11_of N K a w M) (f_X12_of N K a w) := by
  have hl := h.2.2.2.2.2.2.2.2.1
  have c1 := hl.1.2.2
  unfold f_X11_of
  rw [lyAt hl, oB2_p]
  by_cases c : 0 ≤ a.toInt ∧ a.toInt < (M.1 0 11).toInt
  · have na : a.toNatClampNeg = a.toInt.toNat := rfl
    have hy := (ly_nn hl c.1 c.2).2
    generalize hq : a.toNatClampNeg = l at *
    have la : a = nI l := oNI (by omega)
    have hxl : ∀ A : Option (Int32 × oM), oIx (nI l) 20 A = A := fun A => oIx_p (by rw [← la]; exact c.1) (by rw [← la]; omega)
    have nl : (nI l).toNatClampNeg = l := by rw [← la]; exact hq
    obtain ⟨⟨y0, y1, y2, y3⟩, ⟨y4, y5, y6⟩, ⟨y7, y8, y9⟩, y10, y11⟩ := id hy
    have m0 : f_X12_of N K a w M = if w < 100 then f_X12_of_92 N K a w M else if 400 ≤ w then f_X12_of_92 N K a w M else oIx a 20 (if w - w / 100 * 100 < M.1 76 l then (if 200 ≤ w then (if 300 ≤ w then oIx (24 * a + (w - w / 100 * 100)) 480 (some (M.1 79 (24 * a + (w - w / 100 * 100)).toNatClampNeg, M)) else oIx (24 * a + (w - w / 100 * 100)) 480 (some (M.1 78 (24 * a + (w - w / 100 * 100)).toNatClampNeg, M))) else oIx (24 * a + (w - w / 100 * 100)) 480 (some (M.1 77 (24 * a + (w - w / 100 * 100)).toNatClampNeg, M))) else some (-1, M)) := by
      unfold f_X12_of
      rw [l12 h, oB2_p, decide_eq_true c, cond_true, hq]
    rw [if_pos c, oCs_s]
    by_cases w0 : w.toInt < 0
    · rw [if_neg (by rw [oLeI, tl_0]; omega)]
      refine oAg.mk M rfl ?_ h
      rw [m0, if_pos (by rw [oLtI, tl_100]; omega)]
      unfold f_X12_of_92
      rw [if_neg (by rw [oEqI, tl_0]; omega), if_neg (by rw [oEqI, tl_1]; omega), if_neg (by rw [oEqI, tl_2]; omega), if_neg (by rw [oEqI, tl_3]; omega), if_neg (by rw [oEqI, tl_4]; omega), if_neg (by rw [oEqI, tl_5]; omega)]
    · rw [if_pos (by rw [oLeI, tl_0]; omega)]
      by_cases w100 : w.toInt < 100
      · rw [if_pos (by rw [oLtI, tl_100]; exact w100)]
        rw [if_pos (by rw [oLtI, tl_100]; exact w100)] at m0
        unfold f_X12_of_92 at m0
        rw [la, hxl, hxl, hxl, nl] at m0
        by_cases w00 : w = 0
        · rw [if_pos w00]
          rw [if_pos w00, y1] at m0
          rw [← la] at m0
          exact oAg.mk M rfl m0 h
        · rw [if_neg w00]
          rw [if_neg w00] at m0
          by_cases w01 : w = 1
          · rw [if_pos w01]
            rw [if_pos w01, y7, ← la] at m0
            exact oAg.mk M rfl m0 h
          · rw [if_neg w01]
            rw [if_neg w01] at m0
            by_cases w02 : w = 2
            · have hend : f_X6_end N K (oLy l) M = some (prevP M l (M.1 (oLy l) 7).toInt.toNat, M) := by
                have hc : M.1 (oLy l) 7 = nI (M.1 (oLy l) 7).toInt.toNat := oNI (by omega)
                unfold f_X6_end
                have := pah6 (N := N) (K := K) (M := M) (l := l) (k := (M.1 (oLy l) 7).toInt.toNat) (by omega) (by omega)
                rw [← hc] at this
                rw [this, oB2_p]
              have e75 : M.1 75 l = prevP M l (M.1 (oLy l) 7).toInt.toNat := by
                rw [y10]
                unfold prevP
                by_cases z : (M.1 (oLy l) 7).toInt = 0
                · rw [if_pos z, if_pos (by omega)]
                · rw [if_neg z, if_neg (by omega)]
              rw [if_pos w02, hend, oB2_p]
              rw [if_pos w02, e75, ← la] at m0
              exact oAg.mk M rfl m0 h
            · rw [if_neg w02]
              rw [if_neg w02] at m0
              have hh : ∀ b : Nat, b < 3 → w - 3 = nI b → oAg K M (oB2 (f_X11_hoseOf N K (oLy l) (w - 3) M) (fun v10 M11 => some (v10, M11))) (fun M1 => oB2 (f_X12_hoseOf N K (nI l) (w - 3) M1) (fun v8 M9 => some (v8, M9))) := by
                intro b hb e
                obtain ⟨M2, b1, b2⟩ := hose12 h .rf hN (show l < 20 by omega) hy hb
                rw [e, hose11 h hN hy hb, oB2_p]
                exact oAg.mk M2 rfl (by rw [b1, oB2_p]) (h.scr b2)
              -- the answer is the same function in the reference
              have same : ∀ b : Nat, b < 3 → w = nI (b + 3) → oAg K M (oB2 (f_X11_hoseOf N K (oLy l) (w - 3) M) (fun v10 M11 => some (v10, M11))) (f_X12_of N K a w) := by
                intro b hb e
                have e3 : w - 3 = nI b := by
                  rw [e]
                  exact pk_sub (a := b + 3) (b := 3) (by omega)
                obtain ⟨r, M1, M2, q1, q2, q3⟩ := hh b hb e3
                have q0 : M1 = M := by
                  rw [e3, hose11 h hN hy hb, oB2_p] at q1
                  exact ((Prod.mk.inj (Option.some.inj q1)).2).symm
                refine ⟨r, M1, M2, q1, ?_, q3⟩
                rw [q0] at q2 ⊢
                have w3 : w.toInt = b + 3 := by rw [e]; exact nI_toInt (by omega)
                rw [← la] at m0
                rw [m0]
                rcases (show b = 0 ∨ b = 1 ∨ b = 2 by omega) with z | z | z
                · rw [if_pos (by rw [oEqI, tl_3]; omega), la]
                  exact q2
                · rw [if_neg (by rw [oEqI, tl_3]; omega), if_pos (by rw [oEqI, tl_4]; omega), la]
                  exact q2
                · rw [if_neg (by rw [oEqI, tl_3]; omega), if_neg (by rw [oEqI, tl_4]; omega), if_pos (by rw [oEqI, tl_5]; omega), la]
                  exact q2
              by_cases w03 : w = 3
              · rw [if_pos w03]
                exact same 0 (by omega) w03
              · rw [if_neg w03]
                by_cases w04 : w = 4
                · rw [if_pos w04]
                  exact same 1 (by omega) w04
                · rw [if_neg w04]
                  by_cases w05 : w = 5
                  · rw [if_pos w05]
                    exact same 2 (by omega) w05
                  · rw [if_neg w05]
                    rw [if_neg w03, if_neg w04, if_neg w05, ← la] at m0
                    exact oAg.mk M rfl m0 h
      · have ed : (w / 100).toInt = w.toInt / 100 := by rw [oDiv (by omega) (by rw [tl_100]; omega), tl_100]
        have er : (w - w / 100 * 100).toInt = w.toInt % 100 := by rw [oRem (by omega) (by rw [tl_100]; omega), tl_100]
        rw [if_neg (by rw [oLtI, tl_100]; exact w100)]
        rw [if_neg (by rw [oLtI, tl_100]; exact w100)] at m0
        unfold f_X11_ofPart
        rw [isP6, oB2_p, er]
        by_cases w400 : 400 ≤ w.toInt
        · have t400 : (400 : Int32).toInt = 400 := rfl
          rw [if_pos (by rw [oLeI, t400]; exact w400)] at m0
          unfold f_X12_of_92 at m0
          rw [if_neg (by rw [oEqI, tl_0]; omega), if_neg (by rw [oEqI, tl_1]; omega), if_neg (by rw [oEqI, tl_2]; omega), if_neg (by rw [oEqI, tl_3]; omega), if_neg (by rw [oEqI, tl_4]; omega), if_neg (by rw [oEqI, tl_5]; omega)] at m0
          rw [if_neg (by rw [oEqI, ed, tl_1]; omega), if_neg (by rw [oEqI, ed, tl_2]; omega), if_neg (by rw [oEqI, ed, tl_3]; omega)]
          have : ∀ bb : Bool, cond bb (some ((-1 : Int32), M)) (some (-1, M)) = some (-1, M) := fun bb => by cases bb <;> rfl
          rw [this, oB2_p]
          exact oAg.mk M rfl m0 h
        · have t400 : (400 : Int32).toInt = 400 := rfl
          have t200 : (200 : Int32).toInt = 200 := rfl
          have t300 : (300 : Int32).toInt = 300 := rfl
          rw [if_neg (by rw [oLeI, t400]; exact w400), la, hxl] at m0
          by_cases cr : w.toInt % 100 < (M.1 (oLy l) 7).toInt
          · have e24 : (24 * nI l).toInt = 24 * l := by rw [oMul (by rw [tl_24, nI_toInt (by omega)]; omega) (by rw [tl_24, nI_toInt (by omega)]; omega), tl_24, nI_toInt (by omega)]
            have ei : (24 * nI l + (w - w / 100 * 100)).toInt = 24 * l + w.toInt % 100 := by rw [oAdd (by rw [er]; omega) (by rw [er]; omega), e24, er]
            have nn : (24 * nI l + (w - w / 100 * 100)).toNatClampNeg = 24 * l + (w.toInt % 100).toNat := by rw [oTnn, ei]; omega
            have hxi : ∀ A : Option (Int32 × oM), oIx (24 * nI l + (w - w / 100 * 100)) 480 A = A := fun A => oIx_p (by omega) (by omega)
            have hxr : ∀ A : Option (Int32 × oM), oIx (w - w / 100 * 100) 24 A = A := fun A => oIx_p (by omega) (by omega)
            have nr : (w - w / 100 * 100).toNatClampNeg = (w.toInt % 100).toNat := by rw [oTnn, er]
            obtain ⟨⟨v1, v2, v3⟩, -⟩ := y11 (w.toInt % 100).toNat (by omega)
            rw [if_pos (by rw [oLtI, er, y7]; exact cr), hxi, hxi, hxi, nn, v1, v2, v3, ← la] at m0
            rw [decide_eq_true (by omega), cond_true, hxr, hxr, hxr, nr]
            by_cases w200 : 200 ≤ w.toInt
            · rw [if_pos (by rw [oLeI, t200]; exact w200)] at m0
              rw [if_neg (by rw [oEqI, ed, tl_1]; omega)]
              by_cases w300 : 300 ≤ w.toInt
              · rw [if_pos (by rw [oLeI, t300]; exact w300)] at m0
                rw [if_neg (by rw [oEqI, ed, tl_2]; omega), if_pos (by rw [oEqI, ed, tl_3]; omega), oB2_p]
                exact oAg.mk M rfl m0 h
              · rw [if_neg (by rw [oLeI, t300]; exact w300)] at m0
                rw [if_pos (by rw [oEqI, ed, tl_2]; omega), oB2_p]
                exact oAg.mk M rfl m0 h
            · rw [if_neg (by rw [oLeI, t200]; exact w200)] at m0
              rw [if_pos (by rw [oEqI, ed, tl_1]; omega), oB2_p]
              exact oAg.mk M rfl m0 h
          · rw [if_neg (by rw [oLtI, er, y7]; exact cr), ← la] at m0
            rw [decide_eq_false (by omega), cond_false, oB2_p]
            exact oAg.mk M rfl m0 h
  · rw [if_neg c, oCs_n]
    refine oAg.mk M rfl ?_ h
    unfold f_X12_of
    rw [l12 h, oB2_p, decide_eq_false c, cond_false]
