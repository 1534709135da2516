/-! the most -/
theorem fS.se {M M' : oM} (f : oFr [28, 29, 30, 31, 32] [] M M') : fS M M' := f.weak (by decide) (by decide)
theorem fS.gr {M M' : oM} (f : oFr [28, 33, 34, 35, 36] [] M M') : fS M M' := f.weak (by decide) (by decide)
theorem fS.su {M M' : oM} (f : fSu M M') : fS M M' := f.weak (by decide) (by decide)
theorem may_W {D : sDt} (hD : okD D) (hEW : sW D < sE D) {b : Nat} (hb : b < 2 ^ sW D) : ¬ mayB (sE D) b := by
  have h6 := hD.1
  have h64 := pow_64 h6
  have w := (w_st (sW D) (by omega) b hb).2
  have l := ixB_le b (by omega) (sW D) (by omega)
  unfold mayB
  rw [if_neg (by omega)]
  rintro ⟨-, q⟩
  omega
theorem ag_most {K : oK} {M : oM} (h : oInv K M) {N : Nat} (hN : 3000 ≤ N) (a need what : Int32) : oAg K M (f_X11_most N K a need what M) (f_X12_most N K a need what) := by
  have hl := h.2.2.2.2.2.2.2.2.1
  have c1 := hl.1.2.2
  unfold f_X11_most
  rw [lyAt hl, oB2_p]
  by_cases c : 0 ≤ a.toInt ∧ a.toInt < (M.1 0 11).toInt
  · have na : a.toNatClampNeg = a.toInt.toNat := rfl
    have hy := (ly_nn hl c.1 c.2).2
    generalize hq : a.toNatClampNeg = l at *
    have la : a = nI l := oNI (by omega)
    rw [if_pos c, oCs_s, isNe11, oB2_p]
    by_cases cn : 0 ≤ need.toInt ∧ need.toInt ≤ 99999
    · rw [decide_eq_true cn, cond_true, w11, oB2_p, tl_0, tl_2]
      by_cases cw : 0 ≤ what.toInt ∧ what.toInt ≤ 2
      · have w64 : (0 : Int64).toInt = 0 ∧ (2 : Int64).toInt = 2 := ⟨rfl, rfl⟩
        rw [decide_eq_true cw, cond_true]
        -- the other half's beginning
        have mb : ∀ M1, fS M M1 → f_X12_most N K a need what M1 = oB2 (f_X12_sums N K (nI l) M1) (fun v10 M11 => cond v10 ((if ((oUp (oUp (oUp M11 59 46 ((-1) : Int32)) 59 47 (0 : Int32)) 59 48 (0 : Int32)).1 59 44) < ((oUp (oUp (oUp M11 59 46 ((-1) : Int32)) 59 47 (0 : Int32)) 59 48 (0 : Int32)).1 59 45) then (f_X12_most_74 N K  what (oUp (oUp (oUp M11 59 46 ((-1) : Int32)) 59 47 (0 : Int32)) 59 48 (0 : Int32))) else oB2 (f_X12_boresFrom N K 8 (nI l) (0 : Int32) (0 : Int32) need (oUp (oUp (oUp M11 59 46 ((-1) : Int32)) 59 47 (0 : Int32)) 59 48 (0 : Int32))) (fun v17 M18 => (f_X12_most_74 N K  what M18)))) (some ((-4), M11))) := by
          intro M1 F
          unfold f_X12_most
          rw [l12 (h.scr F), oB2_p, F.1 0 (by decide) (by decide), decide_eq_true c, cond_true, isNe12, oB2_p, decide_eq_true cn, cond_true, w12, oB2_p, oLg, w64.1, w64.2, decide_eq_true cw, cond_true, la]
        have msum : ∀ M1, fS M M1 → ∃ b M2, f_X12_sums N K (nI l) M1 = some (b, M2) ∧ fSu M1 M2 ∧ (b = true ↔ wnM (M.1 (oLy l + 1)) (M.1 (oLy l) 7).toInt.toNat ≤ 6 ∧ enM (M.1 (oLy l + 1)) (M.1 (oLy l) 7).toInt.toNat ≤ 4) ∧ (b = true → mHasK M M2 l (M.1 (oLy l) 7).toInt.toNat) := by
          intro M1 F
          obtain ⟨y0, y1, y2, y3, y4⟩ := fr_lay (l := l) F (by decide)
          obtain ⟨b, M2, a1, a2, a3, a4⟩ := sums12 (N := N) (by omega) (K := K) (show l < 20 by omega) (hy.same F (by decide) (by decide))
          unfold mHasK at a4
          rw [y0, y1, y2] at a4
          rw [y0, y1] at a3
          exact ⟨b, M2, a1, a2, a3, a4⟩
        obtain ⟨bt, M1, a1, a2, a3, a4⟩ := take7 (N := N) (by omega) (K := K) h.2.1 hy
        have F1 := fS.se a2
        have h1 := h.scr F1
        rw [a1, oB2_p]
        by_cases cb : bt = true
        · have hok := a3.mp cb
          have hD : okD (DkV M l (M.1 (oLy l) 7).toInt.toNat) := okD_k h.2.1 h.2.2.2.1 h.2.2.1 hy (by have := hy.2.2.1.2.1; omega) hok.1 hok.2
          have hS := a4 cb
          obtain ⟨eL, eS, e2⟩ := eLift F1 (by decide)
          obtain ⟨g, M2, b1, b2, b3, b4⟩ := greatest7 (N := N) (by omega) (K := K) h1.2.2.2.1 h1.2.2.1 hD cn.1 cn.2 hS
          have est : stoM M1 = stoM M := by
            funext b
            unfold stoM
            rw [e2]
          rw [eL, eS, est] at b3 b4
          have F2 := F1.tr (fS.gr b2)
          obtain ⟨bs, M3, d1, d2, d3, d4⟩ := msum M2 F2
          have cbs : bs = true := d3.mpr hok
          have F3 := F2.tr (fS.su d2)
          generalize hDk : DkV M l (M.1 (oLy l) 7).toInt.toNat = D at *
          have hm := d4 cbs
          have F4' : fPl M3 (oUp (oUp (oUp M3 59 46 ((-1) : Int32)) 59 47 (0 : Int32)) 59 48 (0 : Int32)) := .up59 (by decide) (.up59 (by decide) (.up59 (by decide) .rf))
          generalize hM4 : oUp (oUp (oUp M3 59 46 ((-1) : Int32)) 59 47 (0 : Int32)) 59 48 (0 : Int32) = M4 at *
          have F4 := F3.tr (fS.pl F4')
          have hm4 := hm.pl F4'
          have e46 : M4.1 59 46 = -1 := by rw [← hM4, oUp_at, if_neg (by omega), oUp_at, if_neg (by omega), oUp_at, if_pos ⟨rfl, rfl⟩]
          have e44 : M4.1 59 44 = nI (sW D) := by rw [← hDk]; exact hm4.1.1
          have e45 : M4.1 59 45 = nI (sE D) := by rw [← hDk]; exact hm4.1.2
          have h6 := hD.1
          have h4 := hD.2.1
          have B0 : ∀ V : Nat → Nat → Prop, (∀ b d, ¬ V b d) → BI D (liftV M) (lossV M) need.toInt (stoM M) V (M4.1 59 46) (M4.1 59 47) (M4.1 59 48) := fun V hV => Or.inl ⟨e46, fun f _ _ key q => by
            obtain ⟨b, d, q1, -⟩ := q
            exact hV b d q1⟩
          -- the end of both halves
          have fin : ∀ M5, fS M M5 → BI D (liftV M) (lossV M) need.toInt (stoM M) (fun b' d' => bq (sW D) 0 d' ∧ b' < 2 ^ sW D ∧ mayB (sE D) b') (M5.1 59 46) (M5.1 59 47) (M5.1 59 48) → f_X12_most N K a need what M2 = f_X12_most_74 N K what M5 → oAg K M (cond bt (oB2 (f_X7_greatest N K need M1) (fun v14 M15 => (if v14 = (-2) then some (v14, M15) else (if what = 0 then some (v14, M15) else (if what = 1 then some ((M15.1 28 14), M15) else some ((M15.1 28 15), M15)))))) (some ((-4), M1))) (f_X12_most N K a need what) := by
            intro M5 F5 hB hmod
            have eSF : ∀ f key, SV D (liftV M) (lossV M) need.toInt (stoM M) (fun b' d' => bq (sW D) 0 d' ∧ b' < 2 ^ sW D ∧ mayB (sE D) b') f key ↔ SFb D (liftV M) (lossV M) need.toInt (stoM M) f (2 ^ sW D) key := fun f key => by
              constructor
              · rintro ⟨b, d, ⟨q1, q2, q3⟩, q4, q5⟩
                exact ⟨b, d, q2, q3, q1, q4, q5⟩
              · rintro ⟨b, d, q2, q3, q1, q4, q5⟩
                exact ⟨b, d, ⟨q1, q2, q3⟩, q4, q5⟩
            rw [cb, cond_true, b1, oB2_p]
            rcases hB with ⟨k1, k2⟩ | ⟨k1, ⟨key, k2, k3, k4, k5⟩, k6⟩
            · have eg : g = -2 := by
                rcases b3 with ⟨q1, -⟩ | ⟨q1, ⟨key, q2⟩, -⟩
                · exact q1
                · exact absurd ((eSF g key).mpr q2) (k2 g q1.1 q1.2 key)
              rw [eg, if_pos (show iI (-2) = -2 from rfl)]
              refine oAg.mk M5 rfl ?_ (h.scr F5)
              rw [hmod]
              unfold f_X12_most_74
              rw [k1, if_neg (by decide)]
              rfl
            · have eg : g = (M5.1 59 46).toInt := by
                rcases b3 with ⟨q1, q2⟩ | ⟨q1, ⟨key', q2⟩, q3⟩
                · exact absurd ⟨key, (eSF _ key).mp k2⟩ (q2 _ k1.1 k1.2)
                · rcases Int.lt_trichotomy g (M5.1 59 46).toInt with z | z | z
                  · exact absurd ⟨key, (eSF _ key).mp k2⟩ (q3 _ z k1.2)
                  · exact z
                  · exact absurd ((eSF g key').mpr q2) (k6 g z q1.2 key')
              have g0 : iI g = M5.1 59 46 := by rw [eg, iI_self]
              rw [if_neg (by rw [g0, oEqI, tl_m2]; omega), g0]
              have ekey : M2.1 28 14 = M5.1 59 47 ∧ M2.1 28 15 = M5.1 59 48 := by
                rw [eg] at b4
                rcases b4 k1.1 with ⟨-, q2⟩ | ⟨key', q1, q2, q3, q4, q5⟩
                · exact absurd ((eSF _ key).mp k2) (q2 key)
                · have x1 := q2 key ((eSF _ key).mp k2)
                  have x2 := k3 key' ((eSF _ key').mpr q1)
                  have : key' = key := by omega
                  rw [q4, q5, k4, k5, this]
                  exact ⟨rfl, rfl⟩
              have m74 : f_X12_most N K a need what M2 = if what = 0 then some (M5.1 59 46, M5) else if what = 1 then some (M5.1 59 47, M5) else some (M5.1 59 48, M5) := by
                rw [hmod]
                unfold f_X12_most_74
                rw [if_pos (by rw [oLeI, tl_0]; exact k1.1)]
              by_cases z0 : what = 0
              · rw [if_pos z0]
                rw [if_pos z0] at m74
                exact oAg.mk M5 rfl m74 (h.scr F5)
              · rw [if_neg z0]
                rw [if_neg z0] at m74
                by_cases z1 : what = 1
                · rw [if_pos z1, ekey.1]
                  rw [if_pos z1] at m74
                  exact oAg.mk M5 rfl m74 (h.scr F5)
                · rw [if_neg z1, ekey.2]
                  rw [if_neg z1] at m74
                  exact oAg.mk M5 rfl m74 (h.scr F5)
          have mod0 : f_X12_most N K a need what M2 = if sW D < sE D then f_X12_most_74 N K what M4 else oB2 (f_X12_boresFrom N K 8 (nI l) 0 0 need M4) (fun _ M18 => f_X12_most_74 N K what M18) := by
            rw [mb M2 F2, d1, oB2_p, cbs, cond_true, hM4, e44, e45]
            by_cases z : sW D < sE D
            · rw [if_pos z, if_pos (by rw [oLtI, nI_toInt (by omega), nI_toInt (by omega)]; omega)]
            · rw [if_neg z, if_neg (by rw [oLtI, nI_toInt (by omega), nI_toInt (by omega)]; omega)]
          by_cases z : sW D < sE D
          · rw [if_pos z] at mod0
            exact fin M4 F4 (B0 _ (fun b d q => may_W hD z q.2.1 q.2.2)) mod0
          · rw [if_neg z] at mod0
            obtain ⟨M5, p1, p2, p3⟩ := bof h (N := N) (by omega) (show l < 20 by omega) hy hDk.symm hD (by omega) need (sW D) 8 0 0 M4 (fun _ _ => False) (by omega) (by omega) rfl F4 hm4 (B0 _ (fun _ _ q => q)) (fun _ _ q => q.elim)
            have p1' : f_X12_boresFrom N K 8 (nI l) 0 0 need M4 = some ((), M5) := p1
            rw [p1', oB2_p] at mod0
            refine fin M5 (F4.tr (fS.pl p2)) (p3.eq (fun b' d' => ?_)) mod0
            constructor
            · rintro (q | q)
              · exact q.elim
              · exact q
            · intro q
              exact Or.inr q
        · have cbf : bt = false := by
            cases bt with
            | false => rfl
            | true => exact absurd rfl cb
          obtain ⟨bs, M3, d1, d2, d3, d4⟩ := msum M1 F1
          have cbs : bs = false := by
            cases bs with
            | false => rfl
            | true => exact absurd (a3.mpr (d3.mp rfl)) cb
          rw [cbf, cond_false]
          refine oAg.mk M3 rfl ?_ (h.scr (F1.tr (fS.su d2)))
          rw [mb M1 F1, d1, oB2_p, cbs, cond_false]
      · rw [decide_eq_false cw, cond_false]
        refine oAg.mk M rfl ?_ h
        unfold f_X12_most
        rw [l12 h, oB2_p, decide_eq_true c, cond_true, isNe12, oB2_p, decide_eq_true cn, cond_true, w12, oB2_p, oLg, show (0 : Int64).toInt = 0 from rfl, show (2 : Int64).toInt = 2 from rfl, decide_eq_false cw, cond_false]
    · rw [decide_eq_false cn, cond_false]
      refine oAg.mk M rfl ?_ h
      unfold f_X12_most
      rw [l12 h, oB2_p, decide_eq_true c, cond_true, isNe12, oB2_p, decide_eq_false cn, cond_false]
  · rw [if_neg c, oCs_n]
    refine oAg.mk M rfl ?_ h
    unfold f_X12_most
    rw [l12 h, oB2_p, decide_eq_false c, cond_false]
