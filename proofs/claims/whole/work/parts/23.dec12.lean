/-! walked by program: X12_way, X12_bore, X12_engine, X12_feed, X12_byteAt, X12_isDigit, X12_readNumbers, X12_readTable -/
theorem d_X12_way_0 : decode J_X12_way.2.1 0 = .ok (.aload_n 0, 1) := by decide +kernel
theorem d_X12_way_1 : decode J_X12_way.2.1 1 = .ok (.iload_n 1, 1) := by decide +kernel
theorem d_X12_way_2 : decode J_X12_way.2.1 2 = .ok (.invokevirtual 159, 3) := by decide +kernel
theorem d_X12_way_5 : decode J_X12_way.2.1 5 = .ok (.ifCond .eq 28, 3) := by decide +kernel
theorem d_X12_way_8 : decode J_X12_way.2.1 8 = .ok (.aload_n 0, 1) := by decide +kernel
theorem d_X12_way_9 : decode J_X12_way.2.1 9 = .ok (.iload_n 2, 1) := by decide +kernel
theorem d_X12_way_10 : decode J_X12_way.2.1 10 = .ok (.invokevirtual 159, 3) := by decide +kernel
theorem d_X12_way_13 : decode J_X12_way.2.1 13 = .ok (.ifCond .eq 20, 3) := by decide +kernel
theorem d_X12_way_16 : decode J_X12_way.2.1 16 = .ok (.iload_n 1, 1) := by decide +kernel
theorem d_X12_way_17 : decode J_X12_way.2.1 17 = .ok (.iload_n 2, 1) := by decide +kernel
theorem d_X12_way_18 : decode J_X12_way.2.1 18 = .ok (.if_icmp .eq 15, 3) := by decide +kernel
theorem d_X12_way_21 : decode J_X12_way.2.1 21 = .ok (.iload_n 3, 1) := by decide +kernel
theorem d_X12_way_22 : decode J_X12_way.2.1 22 = .ok (.i2l, 1) := by decide +kernel
theorem d_X12_way_23 : decode J_X12_way.2.1 23 = .ok (.lconst 1, 1) := by decide +kernel
theorem d_X12_way_24 : decode J_X12_way.2.1 24 = .ok (.ldc2_w 167, 3) := by decide +kernel
theorem d_X12_way_27 : decode J_X12_way.2.1 27 = .ok (.invokestatic 145, 3) := by decide +kernel
theorem d_X12_way_30 : decode J_X12_way.2.1 30 = .ok (.ifCond .ne 5, 3) := by decide +kernel
theorem d_X12_way_33 : decode J_X12_way.2.1 33 = .ok (.iconst (-1), 1) := by decide +kernel
theorem d_X12_way_34 : decode J_X12_way.2.1 34 = .ok (.ireturn, 1) := by decide +kernel
theorem d_X12_way_35 : decode J_X12_way.2.1 35 = .ok (.aload_n 0, 1) := by decide +kernel
theorem d_X12_way_36 : decode J_X12_way.2.1 36 = .ok (.getfield 149, 3) := by decide +kernel
theorem d_X12_way_39 : decode J_X12_way.2.1 39 = .ok (.bipush 20, 2) := by decide +kernel
theorem d_X12_way_41 : decode J_X12_way.2.1 41 = .ok (.if_icmp .ne 6, 3) := by decide +kernel
theorem d_X12_way_44 : decode J_X12_way.2.1 44 = .ok (.bipush (-3), 2) := by decide +kernel
theorem d_X12_way_46 : decode J_X12_way.2.1 46 = .ok (.ireturn, 1) := by decide +kernel
theorem d_X12_way_47 : decode J_X12_way.2.1 47 = .ok (.aload_n 0, 1) := by decide +kernel
theorem d_X12_way_48 : decode J_X12_way.2.1 48 = .ok (.getfield 22, 3) := by decide +kernel
theorem d_X12_way_51 : decode J_X12_way.2.1 51 = .ok (.aload_n 0, 1) := by decide +kernel
theorem d_X12_way_52 : decode J_X12_way.2.1 52 = .ok (.getfield 149, 3) := by decide +kernel
theorem d_X12_way_55 : decode J_X12_way.2.1 55 = .ok (.iload_n 1, 1) := by decide +kernel
theorem d_X12_way_56 : decode J_X12_way.2.1 56 = .ok (.iastore, 1) := by decide +kernel
theorem d_X12_way_57 : decode J_X12_way.2.1 57 = .ok (.aload_n 0, 1) := by decide +kernel
theorem d_X12_way_58 : decode J_X12_way.2.1 58 = .ok (.getfield 25, 3) := by decide +kernel
theorem d_X12_way_61 : decode J_X12_way.2.1 61 = .ok (.aload_n 0, 1) := by decide +kernel
theorem d_X12_way_62 : decode J_X12_way.2.1 62 = .ok (.getfield 149, 3) := by decide +kernel
theorem d_X12_way_65 : decode J_X12_way.2.1 65 = .ok (.iload_n 2, 1) := by decide +kernel
theorem d_X12_way_66 : decode J_X12_way.2.1 66 = .ok (.iastore, 1) := by decide +kernel
theorem d_X12_way_67 : decode J_X12_way.2.1 67 = .ok (.aload_n 0, 1) := by decide +kernel
theorem d_X12_way_68 : decode J_X12_way.2.1 68 = .ok (.getfield 28, 3) := by decide +kernel
theorem d_X12_way_71 : decode J_X12_way.2.1 71 = .ok (.aload_n 0, 1) := by decide +kernel
theorem d_X12_way_72 : decode J_X12_way.2.1 72 = .ok (.getfield 149, 3) := by decide +kernel
theorem d_X12_way_75 : decode J_X12_way.2.1 75 = .ok (.iload_n 3, 1) := by decide +kernel
theorem d_X12_way_76 : decode J_X12_way.2.1 76 = .ok (.iastore, 1) := by decide +kernel
theorem d_X12_way_77 : decode J_X12_way.2.1 77 = .ok (.aload_n 0, 1) := by decide +kernel
theorem d_X12_way_78 : decode J_X12_way.2.1 78 = .ok (.dup, 1) := by decide +kernel
theorem d_X12_way_79 : decode J_X12_way.2.1 79 = .ok (.getfield 149, 3) := by decide +kernel
theorem d_X12_way_82 : decode J_X12_way.2.1 82 = .ok (.iconst 1, 1) := by decide +kernel
theorem d_X12_way_83 : decode J_X12_way.2.1 83 = .ok (.iadd, 1) := by decide +kernel
theorem d_X12_way_84 : decode J_X12_way.2.1 84 = .ok (.putfield 149, 3) := by decide +kernel
theorem d_X12_way_87 : decode J_X12_way.2.1 87 = .ok (.aload_n 0, 1) := by decide +kernel
theorem d_X12_way_88 : decode J_X12_way.2.1 88 = .ok (.getfield 149, 3) := by decide +kernel
theorem d_X12_way_91 : decode J_X12_way.2.1 91 = .ok (.iconst 1, 1) := by decide +kernel
theorem d_X12_way_92 : decode J_X12_way.2.1 92 = .ok (.isub, 1) := by decide +kernel
theorem d_X12_way_93 : decode J_X12_way.2.1 93 = .ok (.ireturn, 1) := by decide +kernel
def f_X12_way (N : Nat) (K : oK) (p1 : Int32) (p2 : Int32) (p3 : Int32) (M : oM) : Option (Int32 × oM) :=
  oB2 (f_X12_isPoint N K p1 M) (fun v1 M2 => cond v1 (oB2 (f_X12_isPoint N K p2 M2) (fun v4 M5 => cond v4 ((if p1 = p2 then some ((-1), M5) else oB2 (f_X12_within N K ((p3 : Int32).toInt64) 1 30 M5) (fun v8 M9 => cond v8 ((if (M9.1 59 7) = 20 then some ((-3), M9) else oIx ((M9.1 59 7)) 20 (oIx (((oUp M9 64 ((M9.1 59 7) : Int32).toNatClampNeg p1).1 59 7)) 20 (oIx (((oUp (oUp M9 64 ((M9.1 59 7) : Int32).toNatClampNeg p1) 65 (((oUp M9 64 ((M9.1 59 7) : Int32).toNatClampNeg p1).1 59 7) : Int32).toNatClampNeg p2).1 59 7)) 20 (some ((((oUp (oUp (oUp (oUp M9 64 ((M9.1 59 7) : Int32).toNatClampNeg p1) 65 (((oUp M9 64 ((M9.1 59 7) : Int32).toNatClampNeg p1).1 59 7) : Int32).toNatClampNeg p2) 66 (((oUp (oUp M9 64 ((M9.1 59 7) : Int32).toNatClampNeg p1) 65 (((oUp M9 64 ((M9.1 59 7) : Int32).toNatClampNeg p1).1 59 7) : Int32).toNatClampNeg p2).1 59 7) : Int32).toNatClampNeg p3) 59 7 (((oUp (oUp (oUp M9 64 ((M9.1 59 7) : Int32).toNatClampNeg p1) 65 (((oUp M9 64 ((M9.1 59 7) : Int32).toNatClampNeg p1).1 59 7) : Int32).toNatClampNeg p2) 66 (((oUp (oUp M9 64 ((M9.1 59 7) : Int32).toNatClampNeg p1) 65 (((oUp M9 64 ((M9.1 59 7) : Int32).toNatClampNeg p1).1 59 7) : Int32).toNatClampNeg p2).1 59 7) : Int32).toNatClampNeg p3).1 59 7) + 1)).1 59 7) - 1), (oUp (oUp (oUp (oUp M9 64 ((M9.1 59 7) : Int32).toNatClampNeg p1) 65 (((oUp M9 64 ((M9.1 59 7) : Int32).toNatClampNeg p1).1 59 7) : Int32).toNatClampNeg p2) 66 (((oUp (oUp M9 64 ((M9.1 59 7) : Int32).toNatClampNeg p1) 65 (((oUp M9 64 ((M9.1 59 7) : Int32).toNatClampNeg p1).1 59 7) : Int32).toNatClampNeg p2).1 59 7) : Int32).toNatClampNeg p3) 59 7 (((oUp (oUp (oUp M9 64 ((M9.1 59 7) : Int32).toNatClampNeg p1) 65 (((oUp M9 64 ((M9.1 59 7) : Int32).toNatClampNeg p1).1 59 7) : Int32).toNatClampNeg p2) 66 (((oUp (oUp M9 64 ((M9.1 59 7) : Int32).toNatClampNeg p1) 65 (((oUp M9 64 ((M9.1 59 7) : Int32).toNatClampNeg p1).1 59 7) : Int32).toNatClampNeg p2).1 59 7) : Int32).toNatClampNeg p3).1 59 7) + 1)))))))) (some ((-1), M9))))) (some ((-1), M5)))) (some ((-1), M2)))
set_option maxRecDepth 20000 in
theorem v_X12_way {X : oX} {N : Nat} {K : oK} {p1 : Int32} {p2 : Int32} {p3 : Int32} {M : oM} {v : Int32} {M' : oM} (hK : oSR K)  (h : f_X12_way N K p1 p2 p3 M = some (v, M')) : oMet X 3 J_X12_way [(.ref 59), (.int p1), (.int p2), (.int p3)] K M (some (.int v)) K M' := by
  unfold f_X12_way at h
  refine oMet_of (L := [some (.ref 59), some (.int p1), some (.int p2), some (.int p3)]) jJ_X12_way.1 rfl (Nat.le_of_ble_eq_true rfl) rfl (Nat.le_refl _) (Nat.le_refl _) ?_
  have hd : 3 ≤ 3 := Nat.le_refl _
  refine oe_aload_n (pc := 0) d_X12_way_0 rfl ?_
  refine oe_iload_n (pc := 1) d_X12_way_1 rfl ?_
  obtain ⟨v1, M2, q3, h⟩ := oB2_some h
  cases v1 with
  | true =>
    replace h := oCt h
    refine oe_callV (pc := 2) (ci := 12) d_X12_way_2 (v_X12_isPoint hK  q3) (by omega) ml_X12_159 jJ_X12_isPoint rfl rfl (oLt hK (a := 59) (Nat.le_of_ble_eq_true rfl)) (oSho hK (a := 59) (Nat.le_of_ble_eq_true rfl) rfl) ock12 rfl (Nat.le_of_ble_eq_true rfl) ⟨Nat.le_refl _, Nat.le_refl _⟩ ⟨Nat.le_refl _, Nat.le_refl _⟩ ?_
    refine oe_if_eq (pc := 5) (tgt := 33) d_X12_way_5 (by decide) (fun c => absurd c (by decide)) (fun _ => ?_)
    refine oe_aload_n (pc := 8) d_X12_way_8 rfl ?_
    refine oe_iload_n (pc := 9) d_X12_way_9 rfl ?_
    obtain ⟨v4, M5, q6, h⟩ := oB2_some h
    cases v4 with
    | true =>
      replace h := oCt h
      refine oe_callV (pc := 10) (ci := 12) d_X12_way_10 (v_X12_isPoint hK  q6) (by omega) ml_X12_159 jJ_X12_isPoint rfl rfl (oLt hK (a := 59) (Nat.le_of_ble_eq_true rfl)) (oSho hK (a := 59) (Nat.le_of_ble_eq_true rfl) rfl) ock12 rfl (Nat.le_of_ble_eq_true rfl) ⟨Nat.le_refl _, Nat.le_refl _⟩ ⟨Nat.le_refl _, Nat.le_refl _⟩ ?_
      refine oe_if_eq (pc := 13) (tgt := 33) d_X12_way_13 (by decide) (fun c => absurd c (by decide)) (fun _ => ?_)
      refine oe_iload_n (pc := 16) d_X12_way_16 rfl ?_
      refine oe_iload_n (pc := 17) d_X12_way_17 rfl ?_
      refine oe_icmp_eq (pc := 18) (tgt := 33) d_X12_way_18 (by decide) (fun c7 => ?_) (fun c7 => ?_)
      · replace h := (if_pos c7).symm.trans h
        refine oe_iconst (pc := 33) (v := (-1)) d_X12_way_33 rfl ?_
        obtain ⟨rfl, rfl⟩ := oRes h
        exact oe_iret (pc := 34) d_X12_way_34 ⟨_, rfl, rfl⟩
      · replace h := (if_neg c7).symm.trans h
        refine oe_iload_n (pc := 21) d_X12_way_21 rfl ?_
        refine oe_i2l (pc := 22) d_X12_way_22 ?_
        refine oe_lconst (pc := 23) (v := 1) d_X12_way_23 rfl ?_
        refine oe_ldc2 (pc := 24) d_X12_way_24 co_X12_167 ?_
        obtain ⟨v8, M9, q10, h⟩ := oB2_some h
        cases v8 with
        | true =>
          replace h := oCt h
          refine oe_callS (pc := 27) d_X12_way_27 (v_X12_within hK  q10) (by omega) ml_X12_145 jJ_X12_within rfl rfl (Nat.le_of_ble_eq_true rfl) ⟨Nat.le_refl _, Nat.le_refl _⟩ ⟨Nat.le_refl _, Nat.le_refl _⟩ ?_
          refine oe_if_ne (pc := 30) (tgt := 35) d_X12_way_30 (by decide) (fun _ => ?_) (fun c => absurd c (by decide))
          refine oe_aload_n (pc := 35) d_X12_way_35 rfl ?_
          refine oe_getf (pc := 36) d_X12_way_36 fl_X12_149 ock12 (k := 7) (Nat.le_of_ble_eq_true rfl) rfl (oLt hK (a := 59) (Nat.le_of_ble_eq_true rfl)) (oSho hK (a := 59) (Nat.le_of_ble_eq_true rfl) rfl) ?_
          refine oe_bipush (pc := 39) (v := 20) d_X12_way_39 rfl ?_
          refine oe_icmp_ne (pc := 41) (tgt := 47) d_X12_way_41 (by decide) (fun c11 => ?_) (fun c11 => ?_)
          · replace h := (if_neg c11).symm.trans h
            refine oe_aload_n (pc := 47) d_X12_way_47 rfl ?_
            refine oe_getr (pc := 48) d_X12_way_48 fl_X12_22 ock12 (k := 8) (b := 64) (Nat.le_of_ble_eq_true rfl) (by decide) (oLt hK (a := 59) (Nat.le_of_ble_eq_true rfl)) (oSho hK (a := 59) (Nat.le_of_ble_eq_true rfl) rfl) (oRfK hK rfl) ?_
            refine oe_aload_n (pc := 51) d_X12_way_51 rfl ?_
            refine oe_getf (pc := 52) d_X12_way_52 fl_X12_149 ock12 (k := 7) (Nat.le_of_ble_eq_true rfl) rfl (oLt hK (a := 59) (Nat.le_of_ble_eq_true rfl)) (oSho hK (a := 59) (Nat.le_of_ble_eq_true rfl) rfl) ?_
            refine oe_iload_n (pc := 55) d_X12_way_55 rfl ?_
            obtain ⟨i12, h⟩ := oIx_some h
            refine oe_iast (pc := 56) d_X12_way_56 (oLt hK (a := 64) (Nat.le_of_ble_eq_true rfl)) (oSha hK (a := 64) (Nat.le_of_ble_eq_true rfl) rfl) i12 ?_
            refine oe_aload_n (pc := 57) d_X12_way_57 rfl ?_
            refine oe_getr (pc := 58) d_X12_way_58 fl_X12_25 ock12 (k := 9) (b := 65) (Nat.le_of_ble_eq_true rfl) (by decide) (oLt hK (a := 59) (Nat.le_of_ble_eq_true rfl)) (oSho hK (a := 59) (Nat.le_of_ble_eq_true rfl) rfl) (oRfK hK rfl) ?_
            refine oe_aload_n (pc := 61) d_X12_way_61 rfl ?_
            refine oe_getf (pc := 62) d_X12_way_62 fl_X12_149 ock12 (k := 7) (Nat.le_of_ble_eq_true rfl) rfl (oLt hK (a := 59) (Nat.le_of_ble_eq_true rfl)) (oSho hK (a := 59) (Nat.le_of_ble_eq_true rfl) rfl) ?_
            refine oe_iload_n (pc := 65) d_X12_way_65 rfl ?_
            obtain ⟨i13, h⟩ := oIx_some h
            refine oe_iast (pc := 66) d_X12_way_66 (oLt hK (a := 65) (Nat.le_of_ble_eq_true rfl)) (oSha hK (a := 65) (Nat.le_of_ble_eq_true rfl) rfl) i13 ?_
            refine oe_aload_n (pc := 67) d_X12_way_67 rfl ?_
            refine oe_getr (pc := 68) d_X12_way_68 fl_X12_28 ock12 (k := 10) (b := 66) (Nat.le_of_ble_eq_true rfl) (by decide) (oLt hK (a := 59) (Nat.le_of_ble_eq_true rfl)) (oSho hK (a := 59) (Nat.le_of_ble_eq_true rfl) rfl) (oRfK hK rfl) ?_
            refine oe_aload_n (pc := 71) d_X12_way_71 rfl ?_
            refine oe_getf (pc := 72) d_X12_way_72 fl_X12_149 ock12 (k := 7) (Nat.le_of_ble_eq_true rfl) rfl (oLt hK (a := 59) (Nat.le_of_ble_eq_true rfl)) (oSho hK (a := 59) (Nat.le_of_ble_eq_true rfl) rfl) ?_
            refine oe_iload_n (pc := 75) d_X12_way_75 rfl ?_
            obtain ⟨i14, h⟩ := oIx_some h
            refine oe_iast (pc := 76) d_X12_way_76 (oLt hK (a := 66) (Nat.le_of_ble_eq_true rfl)) (oSha hK (a := 66) (Nat.le_of_ble_eq_true rfl) rfl) i14 ?_
            refine oe_aload_n (pc := 77) d_X12_way_77 rfl ?_
            refine oe_dup (pc := 78) d_X12_way_78 rfl ?_
            refine oe_getf (pc := 79) d_X12_way_79 fl_X12_149 ock12 (k := 7) (Nat.le_of_ble_eq_true rfl) rfl (oLt hK (a := 59) (Nat.le_of_ble_eq_true rfl)) (oSho hK (a := 59) (Nat.le_of_ble_eq_true rfl) rfl) ?_
            refine oe_iconst (pc := 82) (v := 1) d_X12_way_82 rfl ?_
            refine oe_iadd (pc := 83) d_X12_way_83 ?_
            refine oe_putf (pc := 84) d_X12_way_84 fl_X12_149 ock12 (k := 7) (Nat.le_of_ble_eq_true rfl) rfl rfl (oLt hK (a := 59) (Nat.le_of_ble_eq_true rfl)) (oSho hK (a := 59) (Nat.le_of_ble_eq_true rfl) rfl) ?_
            refine oe_aload_n (pc := 87) d_X12_way_87 rfl ?_
            refine oe_getf (pc := 88) d_X12_way_88 fl_X12_149 ock12 (k := 7) (Nat.le_of_ble_eq_true rfl) rfl (oLt hK (a := 59) (Nat.le_of_ble_eq_true rfl)) (oSho hK (a := 59) (Nat.le_of_ble_eq_true rfl) rfl) ?_
            refine oe_iconst (pc := 91) (v := 1) d_X12_way_91 rfl ?_
            refine oe_isub (pc := 92) d_X12_way_92 ?_
            obtain ⟨rfl, rfl⟩ := oRes h
            exact oe_iret (pc := 93) d_X12_way_93 ⟨_, rfl, rfl⟩
          · replace h := (if_pos c11).symm.trans h
            refine oe_bipush (pc := 44) (v := (-3)) d_X12_way_44 rfl ?_
            obtain ⟨rfl, rfl⟩ := oRes h
            exact oe_iret (pc := 46) d_X12_way_46 ⟨_, rfl, rfl⟩
        | false =>
          replace h := oCf h
          refine oe_callS (pc := 27) d_X12_way_27 (v_X12_within hK  q10) (by omega) ml_X12_145 jJ_X12_within rfl rfl (Nat.le_of_ble_eq_true rfl) ⟨Nat.le_refl _, Nat.le_refl _⟩ ⟨Nat.le_refl _, Nat.le_refl _⟩ ?_
          refine oe_if_ne (pc := 30) (tgt := 35) d_X12_way_30 (by decide) (fun c => absurd (by decide) c) (fun _ => ?_)
          refine oe_iconst (pc := 33) (v := (-1)) d_X12_way_33 rfl ?_
          obtain ⟨rfl, rfl⟩ := oRes h
          exact oe_iret (pc := 34) d_X12_way_34 ⟨_, rfl, rfl⟩
    | false =>
      replace h := oCf h
      refine oe_callV (pc := 10) (ci := 12) d_X12_way_10 (v_X12_isPoint hK  q6) (by omega) ml_X12_159 jJ_X12_isPoint rfl rfl (oLt hK (a := 59) (Nat.le_of_ble_eq_true rfl)) (oSho hK (a := 59) (Nat.le_of_ble_eq_true rfl) rfl) ock12 rfl (Nat.le_of_ble_eq_true rfl) ⟨Nat.le_refl _, Nat.le_refl _⟩ ⟨Nat.le_refl _, Nat.le_refl _⟩ ?_
      refine oe_if_eq (pc := 13) (tgt := 33) d_X12_way_13 (by decide) (fun _ => ?_) (fun c => absurd (by decide) c)
      refine oe_iconst (pc := 33) (v := (-1)) d_X12_way_33 rfl ?_
      obtain ⟨rfl, rfl⟩ := oRes h
      exact oe_iret (pc := 34) d_X12_way_34 ⟨_, rfl, rfl⟩
  | false =>
    replace h := oCf h
    refine oe_callV (pc := 2) (ci := 12) d_X12_way_2 (v_X12_isPoint hK  q3) (by omega) ml_X12_159 jJ_X12_isPoint rfl rfl (oLt hK (a := 59) (Nat.le_of_ble_eq_true rfl)) (oSho hK (a := 59) (Nat.le_of_ble_eq_true rfl) rfl) ock12 rfl (Nat.le_of_ble_eq_true rfl) ⟨Nat.le_refl _, Nat.le_refl _⟩ ⟨Nat.le_refl _, Nat.le_refl _⟩ ?_
    refine oe_if_eq (pc := 5) (tgt := 33) d_X12_way_5 (by decide) (fun _ => ?_) (fun c => absurd (by decide) c)
    refine oe_iconst (pc := 33) (v := (-1)) d_X12_way_33 rfl ?_
    obtain ⟨rfl, rfl⟩ := oRes h
    exact oe_iret (pc := 34) d_X12_way_34 ⟨_, rfl, rfl⟩
theorem d_X12_bore_0 : decode J_X12_bore.2.1 0 = .ok (.iload_n 1, 1) := by decide +kernel
theorem d_X12_bore_1 : decode J_X12_bore.2.1 1 = .ok (.invokestatic 169, 3) := by decide +kernel
theorem d_X12_bore_4 : decode J_X12_bore.2.1 4 = .ok (.ifCond .eq 37, 3) := by decide +kernel
theorem d_X12_bore_7 : decode J_X12_bore.2.1 7 = .ok (.iload_n 2, 1) := by decide +kernel
theorem d_X12_bore_8 : decode J_X12_bore.2.1 8 = .ok (.i2l, 1) := by decide +kernel
theorem d_X12_bore_9 : decode J_X12_bore.2.1 9 = .ok (.lconst 0, 1) := by decide +kernel
theorem d_X12_bore_10 : decode J_X12_bore.2.1 10 = .ok (.ldc2_w 152, 3) := by decide +kernel
theorem d_X12_bore_13 : decode J_X12_bore.2.1 13 = .ok (.invokestatic 145, 3) := by decide +kernel
theorem d_X12_bore_16 : decode J_X12_bore.2.1 16 = .ok (.ifCond .eq 25, 3) := by decide +kernel
theorem d_X12_bore_19 : decode J_X12_bore.2.1 19 = .ok (.iload_n 3, 1) := by decide +kernel
theorem d_X12_bore_20 : decode J_X12_bore.2.1 20 = .ok (.i2l, 1) := by decide +kernel
theorem d_X12_bore_21 : decode J_X12_bore.2.1 21 = .ok (.lconst 0, 1) := by decide +kernel
theorem d_X12_bore_22 : decode J_X12_bore.2.1 22 = .ok (.iload_n 2, 1) := by decide +kernel
theorem d_X12_bore_23 : decode J_X12_bore.2.1 23 = .ok (.ifCond .ne 9, 3) := by decide +kernel
theorem d_X12_bore_26 : decode J_X12_bore.2.1 26 = .ok (.ldc2_w 172, 3) := by decide +kernel
theorem d_X12_bore_29 : decode J_X12_bore.2.1 29 = .ok (.goto 6, 3) := by decide +kernel
theorem d_X12_bore_32 : decode J_X12_bore.2.1 32 = .ok (.ldc2_w 174, 3) := by decide +kernel
theorem d_X12_bore_35 : decode J_X12_bore.2.1 35 = .ok (.invokestatic 145, 3) := by decide +kernel
theorem d_X12_bore_38 : decode J_X12_bore.2.1 38 = .ok (.ifCond .ne 5, 3) := by decide +kernel
theorem d_X12_bore_41 : decode J_X12_bore.2.1 41 = .ok (.iconst (-1), 1) := by decide +kernel
theorem d_X12_bore_42 : decode J_X12_bore.2.1 42 = .ok (.ireturn, 1) := by decide +kernel
theorem d_X12_bore_43 : decode J_X12_bore.2.1 43 = .ok (.aload_n 0, 1) := by decide +kernel
theorem d_X12_bore_44 : decode J_X12_bore.2.1 44 = .ok (.bipush 12, 2) := by decide +kernel
theorem d_X12_bore_46 : decode J_X12_bore.2.1 46 = .ok (.iconst 3, 1) := by decide +kernel
theorem d_X12_bore_47 : decode J_X12_bore.2.1 47 = .ok (.iload_n 2, 1) := by decide +kernel
theorem d_X12_bore_48 : decode J_X12_bore.2.1 48 = .ok (.imul, 1) := by decide +kernel
theorem d_X12_bore_49 : decode J_X12_bore.2.1 49 = .ok (.iadd, 1) := by decide +kernel
theorem d_X12_bore_50 : decode J_X12_bore.2.1 50 = .ok (.iload_n 1, 1) := by decide +kernel
theorem d_X12_bore_51 : decode J_X12_bore.2.1 51 = .ok (.iadd, 1) := by decide +kernel
theorem d_X12_bore_52 : decode J_X12_bore.2.1 52 = .ok (.iload_n 3, 1) := by decide +kernel
theorem d_X12_bore_53 : decode J_X12_bore.2.1 53 = .ok (.invokevirtual 163, 3) := by decide +kernel
theorem d_X12_bore_56 : decode J_X12_bore.2.1 56 = .ok (.ireturn, 1) := by decide +kernel
def f_X12_bore_35 (N : Nat) (K : oK)  (p1 : Int32) (p2 : Int32) (p3 : Int32) (s0 : Int64) (s1 : Int64) (s2 : Int64) (M : oM) : Option (Int32 × oM) :=
  oB2 (f_X12_within N K s2 s1 s0 M) (fun v8 M9 => cond v8 (oB2 (f_X12_becomes N K (((12 : Int32) + ((3 : Int32) * p2)) + p1) p3 M9) (fun v11 M12 => some (v11, M12))) (some ((-1), M9)))
set_option maxRecDepth 20000 in
theorem v_X12_bore_35 {X : oX} {d N : Nat} {K : oK}  {p1 : Int32} {p2 : Int32} {p3 : Int32} {s0 : Int64} {s1 : Int64} {s2 : Int64} {M : oM} {v : Int32} {M' : oM}  (hd : 3 ≤ d) (hK : oSR K)   (h : f_X12_bore_35 N K  p1 p2 p3 s0 s1 s2 M = some (v, M')) : oEv X d J_X12_bore 35 [some (.ref 59), some (.int p1), some (.int p2), some (.int p3)] [(.long s0), (.long s1), (.long s2)] K M (some (.int v)) K M' := by
  unfold f_X12_bore_35 at h
  obtain ⟨v8, M9, q10, h⟩ := oB2_some h
  cases v8 with
  | true =>
    replace h := oCt h
    refine oe_callS (pc := 35) d_X12_bore_35 (v_X12_within hK  q10) (by omega) ml_X12_145 jJ_X12_within rfl rfl (Nat.le_of_ble_eq_true rfl) ⟨Nat.le_refl _, Nat.le_refl _⟩ ⟨Nat.le_refl _, Nat.le_refl _⟩ ?_
    refine oe_if_ne (pc := 38) (tgt := 43) d_X12_bore_38 (by decide) (fun _ => ?_) (fun c => absurd c (by decide))
    refine oe_aload_n (pc := 43) d_X12_bore_43 rfl ?_
    refine oe_bipush (pc := 44) (v := 12) d_X12_bore_44 rfl ?_
    refine oe_iconst (pc := 46) (v := 3) d_X12_bore_46 rfl ?_
    refine oe_iload_n (pc := 47) d_X12_bore_47 rfl ?_
    refine oe_imul (pc := 48) d_X12_bore_48 ?_
    refine oe_iadd (pc := 49) d_X12_bore_49 ?_
    refine oe_iload_n (pc := 50) d_X12_bore_50 rfl ?_
    refine oe_iadd (pc := 51) d_X12_bore_51 ?_
    refine oe_iload_n (pc := 52) d_X12_bore_52 rfl ?_
    obtain ⟨v11, M12, q13, h⟩ := oB2_some h
    refine oe_callV (pc := 53) (ci := 12) d_X12_bore_53 (v_X12_becomes hK  q13) (by omega) ml_X12_163 jJ_X12_becomes rfl rfl (oLt hK (a := 59) (Nat.le_of_ble_eq_true rfl)) (oSho hK (a := 59) (Nat.le_of_ble_eq_true rfl) rfl) ock12 rfl (Nat.le_of_ble_eq_true rfl) ⟨Nat.le_refl _, Nat.le_refl _⟩ ⟨Nat.le_refl _, Nat.le_refl _⟩ ?_
    obtain ⟨rfl, rfl⟩ := oRes h
    exact oe_iret (pc := 56) d_X12_bore_56 ⟨_, rfl, rfl⟩
  | false =>
    replace h := oCf h
    refine oe_callS (pc := 35) d_X12_bore_35 (v_X12_within hK  q10) (by omega) ml_X12_145 jJ_X12_within rfl rfl (Nat.le_of_ble_eq_true rfl) ⟨Nat.le_refl _, Nat.le_refl _⟩ ⟨Nat.le_refl _, Nat.le_refl _⟩ ?_
    refine oe_if_ne (pc := 38) (tgt := 43) d_X12_bore_38 (by decide) (fun c => absurd (by decide) c) (fun _ => ?_)
    refine oe_iconst (pc := 41) (v := (-1)) d_X12_bore_41 rfl ?_
    obtain ⟨rfl, rfl⟩ := oRes h
    exact oe_iret (pc := 42) d_X12_bore_42 ⟨_, rfl, rfl⟩
def f_X12_bore (N : Nat) (K : oK) (p1 : Int32) (p2 : Int32) (p3 : Int32) (M : oM) : Option (Int32 × oM) :=
  oB2 (f_X12_isBore N K p1 M) (fun v1 M2 => cond v1 (oB2 (f_X12_within N K ((p2 : Int32).toInt64) 0 2 M2) (fun v4 M5 => cond v4 ((if p2 = 0 then (f_X12_bore_35 N K  p1 p2 p3 99999 0 ((p3 : Int32).toInt64) M5) else (f_X12_bore_35 N K  p1 p2 p3 99 0 ((p3 : Int32).toInt64) M5))) (some ((-1), M5)))) (some ((-1), M2)))
set_option maxRecDepth 20000 in
theorem v_X12_bore {X : oX} {N : Nat} {K : oK} {p1 : Int32} {p2 : Int32} {p3 : Int32} {M : oM} {v : Int32} {M' : oM} (hK : oSR K)  (h : f_X12_bore N K p1 p2 p3 M = some (v, M')) : oMet X 3 J_X12_bore [(.ref 59), (.int p1), (.int p2), (.int p3)] K M (some (.int v)) K M' := by
  unfold f_X12_bore at h
  refine oMet_of (L := [some (.ref 59), some (.int p1), some (.int p2), some (.int p3)]) jJ_X12_bore.1 rfl (Nat.le_of_ble_eq_true rfl) rfl (Nat.le_refl _) (Nat.le_refl _) ?_
  have hd : 3 ≤ 3 := Nat.le_refl _
  refine oe_iload_n (pc := 0) d_X12_bore_0 rfl ?_
  obtain ⟨v1, M2, q3, h⟩ := oB2_some h
  cases v1 with
  | true =>
    replace h := oCt h
    refine oe_callS (pc := 1) d_X12_bore_1 (v_X12_isBore hK  q3) (by omega) ml_X12_169 jJ_X12_isBore rfl rfl (Nat.le_of_ble_eq_true rfl) ⟨Nat.le_refl _, Nat.le_refl _⟩ ⟨Nat.le_refl _, Nat.le_refl _⟩ ?_
    refine oe_if_eq (pc := 4) (tgt := 41) d_X12_bore_4 (by decide) (fun c => absurd c (by decide)) (fun _ => ?_)
    refine oe_iload_n (pc := 7) d_X12_bore_7 rfl ?_
    refine oe_i2l (pc := 8) d_X12_bore_8 ?_
    refine oe_lconst (pc := 9) (v := 0) d_X12_bore_9 rfl ?_
    refine oe_ldc2 (pc := 10) d_X12_bore_10 co_X12_152 ?_
    obtain ⟨v4, M5, q6, h⟩ := oB2_some h
    cases v4 with
    | true =>
      replace h := oCt h
      refine oe_callS (pc := 13) d_X12_bore_13 (v_X12_within hK  q6) (by omega) ml_X12_145 jJ_X12_within rfl rfl (Nat.le_of_ble_eq_true rfl) ⟨Nat.le_refl _, Nat.le_refl _⟩ ⟨Nat.le_refl _, Nat.le_refl _⟩ ?_
      refine oe_if_eq (pc := 16) (tgt := 41) d_X12_bore_16 (by decide) (fun c => absurd c (by decide)) (fun _ => ?_)
      refine oe_iload_n (pc := 19) d_X12_bore_19 rfl ?_
      refine oe_i2l (pc := 20) d_X12_bore_20 ?_
      refine oe_lconst (pc := 21) (v := 0) d_X12_bore_21 rfl ?_
      refine oe_iload_n (pc := 22) d_X12_bore_22 rfl ?_
      refine oe_if_ne (pc := 23) (tgt := 32) d_X12_bore_23 (by decide) (fun c7 => ?_) (fun c7 => ?_)
      · replace h := (if_neg c7).symm.trans h
        refine oe_ldc2 (pc := 32) d_X12_bore_32 co_X12_174 ?_
        exact v_X12_bore_35 hd hK   h
      · replace h := (if_pos c7).symm.trans h
        refine oe_ldc2 (pc := 26) d_X12_bore_26 co_X12_172 ?_
        refine oe_goto (pc := 29) (tgt := 35) d_X12_bore_29 (by decide) ?_
        exact v_X12_bore_35 hd hK   h
    | false =>
      replace h := oCf h
      refine oe_callS (pc := 13) d_X12_bore_13 (v_X12_within hK  q6) (by omega) ml_X12_145 jJ_X12_within rfl rfl (Nat.le_of_ble_eq_true rfl) ⟨Nat.le_refl _, Nat.le_refl _⟩ ⟨Nat.le_refl _, Nat.le_refl _⟩ ?_
      refine oe_if_eq (pc := 16) (tgt := 41) d_X12_bore_16 (by decide) (fun _ => ?_) (fun c => absurd (by decide) c)
      refine oe_iconst (pc := 41) (v := (-1)) d_X12_bore_41 rfl ?_
      obtain ⟨rfl, rfl⟩ := oRes h
      exact oe_iret (pc := 42) d_X12_bore_42 ⟨_, rfl, rfl⟩
  | false =>
    replace h := oCf h
    refine oe_callS (pc := 1) d_X12_bore_1 (v_X12_isBore hK  q3) (by omega) ml_X12_169 jJ_X12_isBore rfl rfl (Nat.le_of_ble_eq_true rfl) ⟨Nat.le_refl _, Nat.le_refl _⟩ ⟨Nat.le_refl _, Nat.le_refl _⟩ ?_
    refine oe_if_eq (pc := 4) (tgt := 41) d_X12_bore_4 (by decide) (fun _ => ?_) (fun c => absurd (by decide) c)
    refine oe_iconst (pc := 41) (v := (-1)) d_X12_bore_41 rfl ?_
    obtain ⟨rfl, rfl⟩ := oRes h
    exact oe_iret (pc := 42) d_X12_bore_42 ⟨_, rfl, rfl⟩
theorem d_X12_engine_0 : decode J_X12_engine.2.1 0 = .ok (.iload_n 1, 1) := by decide +kernel
theorem d_X12_engine_1 : decode J_X12_engine.2.1 1 = .ok (.i2l, 1) := by decide +kernel
theorem d_X12_engine_2 : decode J_X12_engine.2.1 2 = .ok (.lconst 0, 1) := by decide +kernel
theorem d_X12_engine_3 : decode J_X12_engine.2.1 3 = .ok (.ldc2_w 157, 3) := by decide +kernel
theorem d_X12_engine_6 : decode J_X12_engine.2.1 6 = .ok (.invokestatic 145, 3) := by decide +kernel
theorem d_X12_engine_9 : decode J_X12_engine.2.1 9 = .ok (.ifCond .eq 15, 3) := by decide +kernel
theorem d_X12_engine_12 : decode J_X12_engine.2.1 12 = .ok (.iload_n 2, 1) := by decide +kernel
theorem d_X12_engine_13 : decode J_X12_engine.2.1 13 = .ok (.i2l, 1) := by decide +kernel
theorem d_X12_engine_14 : decode J_X12_engine.2.1 14 = .ok (.lconst 1, 1) := by decide +kernel
theorem d_X12_engine_15 : decode J_X12_engine.2.1 15 = .ok (.ldc2_w 176, 3) := by decide +kernel
theorem d_X12_engine_18 : decode J_X12_engine.2.1 18 = .ok (.invokestatic 145, 3) := by decide +kernel
theorem d_X12_engine_21 : decode J_X12_engine.2.1 21 = .ok (.ifCond .ne 5, 3) := by decide +kernel
theorem d_X12_engine_24 : decode J_X12_engine.2.1 24 = .ok (.iconst (-1), 1) := by decide +kernel
theorem d_X12_engine_25 : decode J_X12_engine.2.1 25 = .ok (.ireturn, 1) := by decide +kernel
theorem d_X12_engine_26 : decode J_X12_engine.2.1 26 = .ok (.aload_n 0, 1) := by decide +kernel
theorem d_X12_engine_27 : decode J_X12_engine.2.1 27 = .ok (.getfield 154, 3) := by decide +kernel
theorem d_X12_engine_30 : decode J_X12_engine.2.1 30 = .ok (.bipush 6, 2) := by decide +kernel
theorem d_X12_engine_32 : decode J_X12_engine.2.1 32 = .ok (.if_icmp .ne 6, 3) := by decide +kernel
theorem d_X12_engine_35 : decode J_X12_engine.2.1 35 = .ok (.bipush (-3), 2) := by decide +kernel
theorem d_X12_engine_37 : decode J_X12_engine.2.1 37 = .ok (.ireturn, 1) := by decide +kernel
theorem d_X12_engine_38 : decode J_X12_engine.2.1 38 = .ok (.aload_n 0, 1) := by decide +kernel
theorem d_X12_engine_39 : decode J_X12_engine.2.1 39 = .ok (.getfield 31, 3) := by decide +kernel
theorem d_X12_engine_42 : decode J_X12_engine.2.1 42 = .ok (.aload_n 0, 1) := by decide +kernel
theorem d_X12_engine_43 : decode J_X12_engine.2.1 43 = .ok (.getfield 154, 3) := by decide +kernel
theorem d_X12_engine_46 : decode J_X12_engine.2.1 46 = .ok (.iload_n 1, 1) := by decide +kernel
theorem d_X12_engine_47 : decode J_X12_engine.2.1 47 = .ok (.iastore, 1) := by decide +kernel
theorem d_X12_engine_48 : decode J_X12_engine.2.1 48 = .ok (.aload_n 0, 1) := by decide +kernel
theorem d_X12_engine_49 : decode J_X12_engine.2.1 49 = .ok (.getfield 34, 3) := by decide +kernel
theorem d_X12_engine_52 : decode J_X12_engine.2.1 52 = .ok (.aload_n 0, 1) := by decide +kernel
theorem d_X12_engine_53 : decode J_X12_engine.2.1 53 = .ok (.getfield 154, 3) := by decide +kernel
theorem d_X12_engine_56 : decode J_X12_engine.2.1 56 = .ok (.iload_n 2, 1) := by decide +kernel
theorem d_X12_engine_57 : decode J_X12_engine.2.1 57 = .ok (.iastore, 1) := by decide +kernel
theorem d_X12_engine_58 : decode J_X12_engine.2.1 58 = .ok (.aload_n 0, 1) := by decide +kernel
theorem d_X12_engine_59 : decode J_X12_engine.2.1 59 = .ok (.dup, 1) := by decide +kernel
theorem d_X12_engine_60 : decode J_X12_engine.2.1 60 = .ok (.getfield 154, 3) := by decide +kernel
theorem d_X12_engine_63 : decode J_X12_engine.2.1 63 = .ok (.iconst 1, 1) := by decide +kernel
theorem d_X12_engine_64 : decode J_X12_engine.2.1 64 = .ok (.iadd, 1) := by decide +kernel
theorem d_X12_engine_65 : decode J_X12_engine.2.1 65 = .ok (.putfield 154, 3) := by decide +kernel
theorem d_X12_engine_68 : decode J_X12_engine.2.1 68 = .ok (.aload_n 0, 1) := by decide +kernel
theorem d_X12_engine_69 : decode J_X12_engine.2.1 69 = .ok (.getfield 154, 3) := by decide +kernel
theorem d_X12_engine_72 : decode J_X12_engine.2.1 72 = .ok (.iconst 1, 1) := by decide +kernel
theorem d_X12_engine_73 : decode J_X12_engine.2.1 73 = .ok (.isub, 1) := by decide +kernel
theorem d_X12_engine_74 : decode J_X12_engine.2.1 74 = .ok (.ireturn, 1) := by decide +kernel
def f_X12_engine (N : Nat) (K : oK) (p1 : Int32) (p2 : Int32) (M : oM) : Option (Int32 × oM) :=
  oB2 (f_X12_within N K ((p1 : Int32).toInt64) 0 999 M) (fun v1 M2 => cond v1 (oB2 (f_X12_within N K ((p2 : Int32).toInt64) 1 9 M2) (fun v4 M5 => cond v4 ((if (M5.1 59 11) = 6 then some ((-3), M5) else oIx ((M5.1 59 11)) 6 (oIx (((oUp M5 67 ((M5.1 59 11) : Int32).toNatClampNeg p1).1 59 11)) 6 (some ((((oUp (oUp (oUp M5 67 ((M5.1 59 11) : Int32).toNatClampNeg p1) 68 (((oUp M5 67 ((M5.1 59 11) : Int32).toNatClampNeg p1).1 59 11) : Int32).toNatClampNeg p2) 59 11 (((oUp (oUp M5 67 ((M5.1 59 11) : Int32).toNatClampNeg p1) 68 (((oUp M5 67 ((M5.1 59 11) : Int32).toNatClampNeg p1).1 59 11) : Int32).toNatClampNeg p2).1 59 11) + 1)).1 59 11) - 1), (oUp (oUp (oUp M5 67 ((M5.1 59 11) : Int32).toNatClampNeg p1) 68 (((oUp M5 67 ((M5.1 59 11) : Int32).toNatClampNeg p1).1 59 11) : Int32).toNatClampNeg p2) 59 11 (((oUp (oUp M5 67 ((M5.1 59 11) : Int32).toNatClampNeg p1) 68 (((oUp M5 67 ((M5.1 59 11) : Int32).toNatClampNeg p1).1 59 11) : Int32).toNatClampNeg p2).1 59 11) + 1))))))) (some ((-1), M5)))) (some ((-1), M2)))
set_option maxRecDepth 20000 in
theorem v_X12_engine {X : oX} {N : Nat} {K : oK} {p1 : Int32} {p2 : Int32} {M : oM} {v : Int32} {M' : oM} (hK : oSR K)  (h : f_X12_engine N K p1 p2 M = some (v, M')) : oMet X 2 J_X12_engine [(.ref 59), (.int p1), (.int p2)] K M (some (.int v)) K M' := by
  unfold f_X12_engine at h
  refine oMet_of (L := [some (.ref 59), some (.int p1), some (.int p2)]) jJ_X12_engine.1 rfl (Nat.le_of_ble_eq_true rfl) rfl (Nat.le_refl _) (Nat.le_refl _) ?_
  have hd : 2 ≤ 2 := Nat.le_refl _
  refine oe_iload_n (pc := 0) d_X12_engine_0 rfl ?_
  refine oe_i2l (pc := 1) d_X12_engine_1 ?_
  refine oe_lconst (pc := 2) (v := 0) d_X12_engine_2 rfl ?_
  refine oe_ldc2 (pc := 3) d_X12_engine_3 co_X12_157 ?_
  obtain ⟨v1, M2, q3, h⟩ := oB2_some h
  cases v1 with
  | true =>
    replace h := oCt h
    refine oe_callS (pc := 6) d_X12_engine_6 (v_X12_within hK  q3) (by omega) ml_X12_145 jJ_X12_within rfl rfl (Nat.le_of_ble_eq_true rfl) ⟨Nat.le_refl _, Nat.le_refl _⟩ ⟨Nat.le_refl _, Nat.le_refl _⟩ ?_
    refine oe_if_eq (pc := 9) (tgt := 24) d_X12_engine_9 (by decide) (fun c => absurd c (by decide)) (fun _ => ?_)
    refine oe_iload_n (pc := 12) d_X12_engine_12 rfl ?_
    refine oe_i2l (pc := 13) d_X12_engine_13 ?_
    refine oe_lconst (pc := 14) (v := 1) d_X12_engine_14 rfl ?_
    refine oe_ldc2 (pc := 15) d_X12_engine_15 co_X12_176 ?_
    obtain ⟨v4, M5, q6, h⟩ := oB2_some h
    cases v4 with
    | true =>
      replace h := oCt h
      refine oe_callS (pc := 18) d_X12_engine_18 (v_X12_within hK  q6) (by omega) ml_X12_145 jJ_X12_within rfl rfl (Nat.le_of_ble_eq_true rfl) ⟨Nat.le_refl _, Nat.le_refl _⟩ ⟨Nat.le_refl _, Nat.le_refl _⟩ ?_
      refine oe_if_ne (pc := 21) (tgt := 26) d_X12_engine_21 (by decide) (fun _ => ?_) (fun c => absurd c (by decide))
      refine oe_aload_n (pc := 26) d_X12_engine_26 rfl ?_
      refine oe_getf (pc := 27) d_X12_engine_27 fl_X12_154 ock12 (k := 11) (Nat.le_of_ble_eq_true rfl) rfl (oLt hK (a := 59) (Nat.le_of_ble_eq_true rfl)) (oSho hK (a := 59) (Nat.le_of_ble_eq_true rfl) rfl) ?_
      refine oe_bipush (pc := 30) (v := 6) d_X12_engine_30 rfl ?_
      refine oe_icmp_ne (pc := 32) (tgt := 38) d_X12_engine_32 (by decide) (fun c7 => ?_) (fun c7 => ?_)
      · replace h := (if_neg c7).symm.trans h
        refine oe_aload_n (pc := 38) d_X12_engine_38 rfl ?_
        refine oe_getr (pc := 39) d_X12_engine_39 fl_X12_31 ock12 (k := 12) (b := 67) (Nat.le_of_ble_eq_true rfl) (by decide) (oLt hK (a := 59) (Nat.le_of_ble_eq_true rfl)) (oSho hK (a := 59) (Nat.le_of_ble_eq_true rfl) rfl) (oRfK hK rfl) ?_
        refine oe_aload_n (pc := 42) d_X12_engine_42 rfl ?_
        refine oe_getf (pc := 43) d_X12_engine_43 fl_X12_154 ock12 (k := 11) (Nat.le_of_ble_eq_true rfl) rfl (oLt hK (a := 59) (Nat.le_of_ble_eq_true rfl)) (oSho hK (a := 59) (Nat.le_of_ble_eq_true rfl) rfl) ?_
        refine oe_iload_n (pc := 46) d_X12_engine_46 rfl ?_
        obtain ⟨i8, h⟩ := oIx_some h
        refine oe_iast (pc := 47) d_X12_engine_47 (oLt hK (a := 67) (Nat.le_of_ble_eq_true rfl)) (oSha hK (a := 67) (Nat.le_of_ble_eq_true rfl) rfl) i8 ?_
        refine oe_aload_n (pc := 48) d_X12_engine_48 rfl ?_
        refine oe_getr (pc := 49) d_X12_engine_49 fl_X12_34 ock12 (k := 13) (b := 68) (Nat.le_of_ble_eq_true rfl) (by decide) (oLt hK (a := 59) (Nat.le_of_ble_eq_true rfl)) (oSho hK (a := 59) (Nat.le_of_ble_eq_true rfl) rfl) (oRfK hK rfl) ?_
        refine oe_aload_n (pc := 52) d_X12_engine_52 rfl ?_
        refine oe_getf (pc := 53) d_X12_engine_53 fl_X12_154 ock12 (k := 11) (Nat.le_of_ble_eq_true rfl) rfl (oLt hK (a := 59) (Nat.le_of_ble_eq_true rfl)) (oSho hK (a := 59) (Nat.le_of_ble_eq_true rfl) rfl) ?_
        refine oe_iload_n (pc := 56) d_X12_engine_56 rfl ?_
        obtain ⟨i9, h⟩ := oIx_some h
        refine oe_iast (pc := 57) d_X12_engine_57 (oLt hK (a := 68) (Nat.le_of_ble_eq_true rfl)) (oSha hK (a := 68) (Nat.le_of_ble_eq_true rfl) rfl) i9 ?_
        refine oe_aload_n (pc := 58) d_X12_engine_58 rfl ?_
        refine oe_dup (pc := 59) d_X12_engine_59 rfl ?_
        refine oe_getf (pc := 60) d_X12_engine_60 fl_X12_154 ock12 (k := 11) (Nat.le_of_ble_eq_true rfl) rfl (oLt hK (a := 59) (Nat.le_of_ble_eq_true rfl)) (oSho hK (a := 59) (Nat.le_of_ble_eq_true rfl) rfl) ?_
        refine oe_iconst (pc := 63) (v := 1) d_X12_engine_63 rfl ?_
        refine oe_iadd (pc := 64) d_X12_engine_64 ?_
        refine oe_putf (pc := 65) d_X12_engine_65 fl_X12_154 ock12 (k := 11) (Nat.le_of_ble_eq_true rfl) rfl rfl (oLt hK (a := 59) (Nat.le_of_ble_eq_true rfl)) (oSho hK (a := 59) (Nat.le_of_ble_eq_true rfl) rfl) ?_
        refine oe_aload_n (pc := 68) d_X12_engine_68 rfl ?_
        refine oe_getf (pc := 69) d_X12_engine_69 fl_X12_154 ock12 (k := 11) (Nat.le_of_ble_eq_true rfl) rfl (oLt hK (a := 59) (Nat.le_of_ble_eq_true rfl)) (oSho hK (a := 59) (Nat.le_of_ble_eq_true rfl) rfl) ?_
        refine oe_iconst (pc := 72) (v := 1) d_X12_engine_72 rfl ?_
        refine oe_isub (pc := 73) d_X12_engine_73 ?_
        obtain ⟨rfl, rfl⟩ := oRes h
        exact oe_iret (pc := 74) d_X12_engine_74 ⟨_, rfl, rfl⟩
      · replace h := (if_pos c7).symm.trans h
        refine oe_bipush (pc := 35) (v := (-3)) d_X12_engine_35 rfl ?_
        obtain ⟨rfl, rfl⟩ := oRes h
        exact oe_iret (pc := 37) d_X12_engine_37 ⟨_, rfl, rfl⟩
    | false =>
      replace h := oCf h
      refine oe_callS (pc := 18) d_X12_engine_18 (v_X12_within hK  q6) (by omega) ml_X12_145 jJ_X12_within rfl rfl (Nat.le_of_ble_eq_true rfl) ⟨Nat.le_refl _, Nat.le_refl _⟩ ⟨Nat.le_refl _, Nat.le_refl _⟩ ?_
      refine oe_if_ne (pc := 21) (tgt := 26) d_X12_engine_21 (by decide) (fun c => absurd (by decide) c) (fun _ => ?_)
      refine oe_iconst (pc := 24) (v := (-1)) d_X12_engine_24 rfl ?_
      obtain ⟨rfl, rfl⟩ := oRes h
      exact oe_iret (pc := 25) d_X12_engine_25 ⟨_, rfl, rfl⟩
  | false =>
    replace h := oCf h
    refine oe_callS (pc := 6) d_X12_engine_6 (v_X12_within hK  q3) (by omega) ml_X12_145 jJ_X12_within rfl rfl (Nat.le_of_ble_eq_true rfl) ⟨Nat.le_refl _, Nat.le_refl _⟩ ⟨Nat.le_refl _, Nat.le_refl _⟩ ?_
    refine oe_if_eq (pc := 9) (tgt := 24) d_X12_engine_9 (by decide) (fun _ => ?_) (fun c => absurd (by decide) c)
    refine oe_iconst (pc := 24) (v := (-1)) d_X12_engine_24 rfl ?_
    obtain ⟨rfl, rfl⟩ := oRes h
    exact oe_iret (pc := 25) d_X12_engine_25 ⟨_, rfl, rfl⟩
theorem d_X12_feed_0 : decode J_X12_feed.2.1 0 = .ok (.iload_n 1, 1) := by decide +kernel
theorem d_X12_feed_1 : decode J_X12_feed.2.1 1 = .ok (.i2l, 1) := by decide +kernel
theorem d_X12_feed_2 : decode J_X12_feed.2.1 2 = .ok (.lconst 1, 1) := by decide +kernel
theorem d_X12_feed_3 : decode J_X12_feed.2.1 3 = .ok (.ldc2_w 178, 3) := by decide +kernel
theorem d_X12_feed_6 : decode J_X12_feed.2.1 6 = .ok (.invokestatic 145, 3) := by decide +kernel
theorem d_X12_feed_9 : decode J_X12_feed.2.1 9 = .ok (.ifCond .ne 5, 3) := by decide +kernel
theorem d_X12_feed_12 : decode J_X12_feed.2.1 12 = .ok (.iconst (-1), 1) := by decide +kernel
theorem d_X12_feed_13 : decode J_X12_feed.2.1 13 = .ok (.ireturn, 1) := by decide +kernel
theorem d_X12_feed_14 : decode J_X12_feed.2.1 14 = .ok (.aload_n 0, 1) := by decide +kernel
theorem d_X12_feed_15 : decode J_X12_feed.2.1 15 = .ok (.getfield 180, 3) := by decide +kernel
theorem d_X12_feed_18 : decode J_X12_feed.2.1 18 = .ok (.iload_n 1, 1) := by decide +kernel
theorem d_X12_feed_19 : decode J_X12_feed.2.1 19 = .ok (.iadd, 1) := by decide +kernel
theorem d_X12_feed_20 : decode J_X12_feed.2.1 20 = .ok (.bipush 120, 2) := by decide +kernel
theorem d_X12_feed_22 : decode J_X12_feed.2.1 22 = .ok (.if_icmp .le 6, 3) := by decide +kernel
theorem d_X12_feed_25 : decode J_X12_feed.2.1 25 = .ok (.bipush (-3), 2) := by decide +kernel
theorem d_X12_feed_27 : decode J_X12_feed.2.1 27 = .ok (.ireturn, 1) := by decide +kernel
theorem d_X12_feed_28 : decode J_X12_feed.2.1 28 = .ok (.iconst 0, 1) := by decide +kernel
theorem d_X12_feed_29 : decode J_X12_feed.2.1 29 = .ok (.istore_n 3, 1) := by decide +kernel
theorem d_X12_feed_30 : decode J_X12_feed.2.1 30 = .ok (.iload_n 3, 1) := by decide +kernel
theorem d_X12_feed_31 : decode J_X12_feed.2.1 31 = .ok (.iload_n 1, 1) := by decide +kernel
theorem d_X12_feed_32 : decode J_X12_feed.2.1 32 = .ok (.if_icmp .ge 38, 3) := by decide +kernel
theorem d_X12_feed_35 : decode J_X12_feed.2.1 35 = .ok (.aload_n 0, 1) := by decide +kernel
theorem d_X12_feed_36 : decode J_X12_feed.2.1 36 = .ok (.getfield 37, 3) := by decide +kernel
theorem d_X12_feed_39 : decode J_X12_feed.2.1 39 = .ok (.aload_n 0, 1) := by decide +kernel
theorem d_X12_feed_40 : decode J_X12_feed.2.1 40 = .ok (.getfield 180, 3) := by decide +kernel
theorem d_X12_feed_43 : decode J_X12_feed.2.1 43 = .ok (.iload_n 2, 1) := by decide +kernel
theorem d_X12_feed_44 : decode J_X12_feed.2.1 44 = .ok (.bipush 8, 2) := by decide +kernel
theorem d_X12_feed_46 : decode J_X12_feed.2.1 46 = .ok (.iload_n 3, 1) := by decide +kernel
theorem d_X12_feed_47 : decode J_X12_feed.2.1 47 = .ok (.imul, 1) := by decide +kernel
theorem d_X12_feed_48 : decode J_X12_feed.2.1 48 = .ok (.ishr, 1) := by decide +kernel
theorem d_X12_feed_49 : decode J_X12_feed.2.1 49 = .ok (.sipush 255, 3) := by decide +kernel
theorem d_X12_feed_52 : decode J_X12_feed.2.1 52 = .ok (.iand, 1) := by decide +kernel
theorem d_X12_feed_53 : decode J_X12_feed.2.1 53 = .ok (.iastore, 1) := by decide +kernel
theorem d_X12_feed_54 : decode J_X12_feed.2.1 54 = .ok (.aload_n 0, 1) := by decide +kernel
theorem d_X12_feed_55 : decode J_X12_feed.2.1 55 = .ok (.dup, 1) := by decide +kernel
theorem d_X12_feed_56 : decode J_X12_feed.2.1 56 = .ok (.getfield 180, 3) := by decide +kernel
theorem d_X12_feed_59 : decode J_X12_feed.2.1 59 = .ok (.iconst 1, 1) := by decide +kernel
theorem d_X12_feed_60 : decode J_X12_feed.2.1 60 = .ok (.iadd, 1) := by decide +kernel
theorem d_X12_feed_61 : decode J_X12_feed.2.1 61 = .ok (.putfield 180, 3) := by decide +kernel
theorem d_X12_feed_64 : decode J_X12_feed.2.1 64 = .ok (.iinc 3 1, 3) := by decide +kernel
theorem d_X12_feed_67 : decode J_X12_feed.2.1 67 = .ok (.goto (-37), 3) := by decide +kernel
theorem d_X12_feed_70 : decode J_X12_feed.2.1 70 = .ok (.aload_n 0, 1) := by decide +kernel
theorem d_X12_feed_71 : decode J_X12_feed.2.1 71 = .ok (.getfield 180, 3) := by decide +kernel
theorem d_X12_feed_74 : decode J_X12_feed.2.1 74 = .ok (.ireturn, 1) := by decide +kernel
def f_X12_feed_30 (N : Nat) (K : oK)  : Nat → Int32 → Int32 → Int32 → oM → Option (Int32 × oM)
  | 0, _, _, _, _ => none
  | n + 1, p1, p2, p3, M => (fun r30 => (if p1 ≤ p3 then some ((M.1 59 15), M) else oIx ((M.1 59 15)) 120 ((r30 p1 p2 (p3 + 1) (oUp (oUp M 69 ((M.1 59 15) : Int32).toNatClampNeg ((p2 >>> (((8 : Int32) * p3) &&& 31)) &&& 255)) 59 15 (((oUp M 69 ((M.1 59 15) : Int32).toNatClampNeg ((p2 >>> (((8 : Int32) * p3) &&& 31)) &&& 255)).1 59 15) + 1)))))) (f_X12_feed_30 N K  n)
set_option maxRecDepth 20000 in
theorem v_X12_feed_30_L {X : oX} {d N : Nat} {K : oK}  (hd : 2 ≤ d) (hK : oSR K)  : ∀ (n : Nat) (p1 : Int32) (p2 : Int32) (p3 : Int32) (M : oM) (v : Int32) (M' : oM)  , f_X12_feed_30 N K  n p1 p2 p3 M = some (v, M') → oEv X d J_X12_feed 30 [some (.ref 59), some (.int p1), some (.int p2), some (.int p3)] [] K M (some (.int v)) K M' := by
  intro n
  induction n with
  | zero =>
    intro p1 p2 p3 M v M'   h
    cases h
  | succ n hr30 =>
    intro p1 p2 p3 M v M'   h
    refine oe_iload_n (pc := 30) d_X12_feed_30 rfl ?_
    refine oe_iload_n (pc := 31) d_X12_feed_31 rfl ?_
    refine oe_icmp_ge (pc := 32) (tgt := 70) d_X12_feed_32 (by decide) (fun c5 => ?_) (fun c5 => ?_)
    · replace h := (if_pos c5).symm.trans h
      refine oe_aload_n (pc := 70) d_X12_feed_70 rfl ?_
      refine oe_getf (pc := 71) d_X12_feed_71 fl_X12_180 ock12 (k := 15) (Nat.le_of_ble_eq_true rfl) rfl (oLt hK (a := 59) (Nat.le_of_ble_eq_true rfl)) (oSho hK (a := 59) (Nat.le_of_ble_eq_true rfl) rfl) ?_
      obtain ⟨rfl, rfl⟩ := oRes h
      exact oe_iret (pc := 74) d_X12_feed_74 ⟨_, rfl, rfl⟩
    · replace h := (if_neg c5).symm.trans h
      refine oe_aload_n (pc := 35) d_X12_feed_35 rfl ?_
      refine oe_getr (pc := 36) d_X12_feed_36 fl_X12_37 ock12 (k := 14) (b := 69) (Nat.le_of_ble_eq_true rfl) (by decide) (oLt hK (a := 59) (Nat.le_of_ble_eq_true rfl)) (oSho hK (a := 59) (Nat.le_of_ble_eq_true rfl) rfl) (oRfK hK rfl) ?_
      refine oe_aload_n (pc := 39) d_X12_feed_39 rfl ?_
      refine oe_getf (pc := 40) d_X12_feed_40 fl_X12_180 ock12 (k := 15) (Nat.le_of_ble_eq_true rfl) rfl (oLt hK (a := 59) (Nat.le_of_ble_eq_true rfl)) (oSho hK (a := 59) (Nat.le_of_ble_eq_true rfl) rfl) ?_
      refine oe_iload_n (pc := 43) d_X12_feed_43 rfl ?_
      refine oe_bipush (pc := 44) (v := 8) d_X12_feed_44 rfl ?_
      refine oe_iload_n (pc := 46) d_X12_feed_46 rfl ?_
      refine oe_imul (pc := 47) d_X12_feed_47 ?_
      refine oe_ishr (pc := 48) d_X12_feed_48 ?_
      refine oe_sipush (pc := 49) (v := 255) d_X12_feed_49 rfl ?_
      refine oe_iand (pc := 52) d_X12_feed_52 ?_
      obtain ⟨i6, h⟩ := oIx_some h
      refine oe_iast (pc := 53) d_X12_feed_53 (oLt hK (a := 69) (Nat.le_of_ble_eq_true rfl)) (oSha hK (a := 69) (Nat.le_of_ble_eq_true rfl) rfl) i6 ?_
      refine oe_aload_n (pc := 54) d_X12_feed_54 rfl ?_
      refine oe_dup (pc := 55) d_X12_feed_55 rfl ?_
      refine oe_getf (pc := 56) d_X12_feed_56 fl_X12_180 ock12 (k := 15) (Nat.le_of_ble_eq_true rfl) rfl (oLt hK (a := 59) (Nat.le_of_ble_eq_true rfl)) (oSho hK (a := 59) (Nat.le_of_ble_eq_true rfl) rfl) ?_
      refine oe_iconst (pc := 59) (v := 1) d_X12_feed_59 rfl ?_
      refine oe_iadd (pc := 60) d_X12_feed_60 ?_
      refine oe_putf (pc := 61) d_X12_feed_61 fl_X12_180 ock12 (k := 15) (Nat.le_of_ble_eq_true rfl) rfl rfl (oLt hK (a := 59) (Nat.le_of_ble_eq_true rfl)) (oSho hK (a := 59) (Nat.le_of_ble_eq_true rfl) rfl) ?_
      refine oe_iinc (pc := 64) (v := (p3 + 1)) (L2 := [_, _, _, _]) d_X12_feed_64 rfl rfl rfl (Nat.le_of_ble_eq_true rfl) rfl ?_
      refine oe_goto (pc := 67) (tgt := 30) d_X12_feed_67 (by decide) ?_
      exact hr30 _ _ _ _ _ _ h
theorem v_X12_feed_30 {X : oX} {d N : Nat} {K : oK}  {p1 : Int32} {p2 : Int32} {p3 : Int32} {M : oM} {v : Int32} {M' : oM}  (hd : 2 ≤ d) (hK : oSR K)   (h : f_X12_feed_30 N K  N p1 p2 p3 M = some (v, M')) : oEv X d J_X12_feed 30 [some (.ref 59), some (.int p1), some (.int p2), some (.int p3)] [] K M (some (.int v)) K M' := v_X12_feed_30_L hd hK  N p1 p2 p3 M v M'   h
def f_X12_feed (N : Nat) (K : oK) (p1 : Int32) (p2 : Int32) (M : oM) : Option (Int32 × oM) :=
  oB2 (f_X12_within N K ((p1 : Int32).toInt64) 1 4 M) (fun v1 M2 => cond v1 ((if ((M2.1 59 15) + p1) ≤ 120 then (f_X12_feed_30 N K  N p1 p2 0 M2) else some ((-3), M2))) (some ((-1), M2)))
set_option maxRecDepth 20000 in
theorem v_X12_feed {X : oX} {N : Nat} {K : oK} {p1 : Int32} {p2 : Int32} {M : oM} {v : Int32} {M' : oM} (hK : oSR K)  (h : f_X12_feed N K p1 p2 M = some (v, M')) : oMet X 2 J_X12_feed [(.ref 59), (.int p1), (.int p2)] K M (some (.int v)) K M' := by
  unfold f_X12_feed at h
  refine oMet_of (L := [some (.ref 59), some (.int p1), some (.int p2), none]) jJ_X12_feed.1 rfl (Nat.le_of_ble_eq_true rfl) rfl (Nat.le_refl _) (Nat.le_refl _) ?_
  have hd : 2 ≤ 2 := Nat.le_refl _
  refine oe_iload_n (pc := 0) d_X12_feed_0 rfl ?_
  refine oe_i2l (pc := 1) d_X12_feed_1 ?_
  refine oe_lconst (pc := 2) (v := 1) d_X12_feed_2 rfl ?_
  refine oe_ldc2 (pc := 3) d_X12_feed_3 co_X12_178 ?_
  obtain ⟨v1, M2, q3, h⟩ := oB2_some h
  cases v1 with
  | true =>
    replace h := oCt h
    refine oe_callS (pc := 6) d_X12_feed_6 (v_X12_within hK  q3) (by omega) ml_X12_145 jJ_X12_within rfl rfl (Nat.le_of_ble_eq_true rfl) ⟨Nat.le_refl _, Nat.le_refl _⟩ ⟨Nat.le_refl _, Nat.le_refl _⟩ ?_
    refine oe_if_ne (pc := 9) (tgt := 14) d_X12_feed_9 (by decide) (fun _ => ?_) (fun c => absurd c (by decide))
    refine oe_aload_n (pc := 14) d_X12_feed_14 rfl ?_
    refine oe_getf (pc := 15) d_X12_feed_15 fl_X12_180 ock12 (k := 15) (Nat.le_of_ble_eq_true rfl) rfl (oLt hK (a := 59) (Nat.le_of_ble_eq_true rfl)) (oSho hK (a := 59) (Nat.le_of_ble_eq_true rfl) rfl) ?_
    refine oe_iload_n (pc := 18) d_X12_feed_18 rfl ?_
    refine oe_iadd (pc := 19) d_X12_feed_19 ?_
    refine oe_bipush (pc := 20) (v := 120) d_X12_feed_20 rfl ?_
    refine oe_icmp_le (pc := 22) (tgt := 28) d_X12_feed_22 (by decide) (fun c4 => ?_) (fun c4 => ?_)
    · replace h := (if_pos c4).symm.trans h
      refine oe_iconst (pc := 28) (v := 0) d_X12_feed_28 rfl ?_
      refine oe_istore_n (pc := 29) (L2 := [_, _, _, _]) d_X12_feed_29 rfl rfl (Nat.le_of_ble_eq_true rfl) rfl ?_
      exact v_X12_feed_30 hd hK   h
    · replace h := (if_neg c4).symm.trans h
      refine oe_bipush (pc := 25) (v := (-3)) d_X12_feed_25 rfl ?_
      obtain ⟨rfl, rfl⟩ := oRes h
      exact oe_iret (pc := 27) d_X12_feed_27 ⟨_, rfl, rfl⟩
  | false =>
    replace h := oCf h
    refine oe_callS (pc := 6) d_X12_feed_6 (v_X12_within hK  q3) (by omega) ml_X12_145 jJ_X12_within rfl rfl (Nat.le_of_ble_eq_true rfl) ⟨Nat.le_refl _, Nat.le_refl _⟩ ⟨Nat.le_refl _, Nat.le_refl _⟩ ?_
    refine oe_if_ne (pc := 9) (tgt := 14) d_X12_feed_9 (by decide) (fun c => absurd (by decide) c) (fun _ => ?_)
    refine oe_iconst (pc := 12) (v := (-1)) d_X12_feed_12 rfl ?_
    obtain ⟨rfl, rfl⟩ := oRes h
    exact oe_iret (pc := 13) d_X12_feed_13 ⟨_, rfl, rfl⟩
theorem d_X12_byteAt_0 : decode J_X12_byteAt.2.1 0 = .ok (.iload_n 1, 1) := by decide +kernel
theorem d_X12_byteAt_1 : decode J_X12_byteAt.2.1 1 = .ok (.aload_n 0, 1) := by decide +kernel
theorem d_X12_byteAt_2 : decode J_X12_byteAt.2.1 2 = .ok (.getfield 180, 3) := by decide +kernel
theorem d_X12_byteAt_5 : decode J_X12_byteAt.2.1 5 = .ok (.if_icmp .ge 12, 3) := by decide +kernel
theorem d_X12_byteAt_8 : decode J_X12_byteAt.2.1 8 = .ok (.aload_n 0, 1) := by decide +kernel
theorem d_X12_byteAt_9 : decode J_X12_byteAt.2.1 9 = .ok (.getfield 37, 3) := by decide +kernel
theorem d_X12_byteAt_12 : decode J_X12_byteAt.2.1 12 = .ok (.iload_n 1, 1) := by decide +kernel
theorem d_X12_byteAt_13 : decode J_X12_byteAt.2.1 13 = .ok (.iaload, 1) := by decide +kernel
theorem d_X12_byteAt_14 : decode J_X12_byteAt.2.1 14 = .ok (.goto 4, 3) := by decide +kernel
theorem d_X12_byteAt_17 : decode J_X12_byteAt.2.1 17 = .ok (.iconst (-1), 1) := by decide +kernel
theorem d_X12_byteAt_18 : decode J_X12_byteAt.2.1 18 = .ok (.ireturn, 1) := by decide +kernel
def f_X12_byteAt (N : Nat) (K : oK) (p1 : Int32) (M : oM) : Option (Int32 × oM) :=
  (if (M.1 59 15) ≤ p1 then some ((-1), M) else oIx (p1) 120 (some ((M.1 69 (p1 : Int32).toNatClampNeg), M)))
set_option maxRecDepth 20000 in
theorem v_X12_byteAt {X : oX} {N : Nat} {K : oK} {p1 : Int32} {M : oM} {v : Int32} {M' : oM} (hK : oSR K)  (h : f_X12_byteAt N K p1 M = some (v, M')) : oMet X 1 J_X12_byteAt [(.ref 59), (.int p1)] K M (some (.int v)) K M' := by
  unfold f_X12_byteAt at h
  refine oMet_of (L := [some (.ref 59), some (.int p1)]) jJ_X12_byteAt.1 rfl (Nat.le_of_ble_eq_true rfl) rfl (Nat.le_refl _) (Nat.le_refl _) ?_
  have hd : 1 ≤ 1 := Nat.le_refl _
  refine oe_iload_n (pc := 0) d_X12_byteAt_0 rfl ?_
  refine oe_aload_n (pc := 1) d_X12_byteAt_1 rfl ?_
  refine oe_getf (pc := 2) d_X12_byteAt_2 fl_X12_180 ock12 (k := 15) (Nat.le_of_ble_eq_true rfl) rfl (oLt hK (a := 59) (Nat.le_of_ble_eq_true rfl)) (oSho hK (a := 59) (Nat.le_of_ble_eq_true rfl) rfl) ?_
  refine oe_icmp_ge (pc := 5) (tgt := 17) d_X12_byteAt_5 (by decide) (fun c1 => ?_) (fun c1 => ?_)
  · replace h := (if_pos c1).symm.trans h
    refine oe_iconst (pc := 17) (v := (-1)) d_X12_byteAt_17 rfl ?_
    obtain ⟨rfl, rfl⟩ := oRes h
    exact oe_iret (pc := 18) d_X12_byteAt_18 ⟨_, rfl, rfl⟩
  · replace h := (if_neg c1).symm.trans h
    refine oe_aload_n (pc := 8) d_X12_byteAt_8 rfl ?_
    refine oe_getr (pc := 9) d_X12_byteAt_9 fl_X12_37 ock12 (k := 14) (b := 69) (Nat.le_of_ble_eq_true rfl) (by decide) (oLt hK (a := 59) (Nat.le_of_ble_eq_true rfl)) (oSho hK (a := 59) (Nat.le_of_ble_eq_true rfl) rfl) (oRfK hK rfl) ?_
    refine oe_iload_n (pc := 12) d_X12_byteAt_12 rfl ?_
    obtain ⟨i2, h⟩ := oIx_some h
    refine oe_iald (pc := 13) d_X12_byteAt_13 (oLt hK (a := 69) (Nat.le_of_ble_eq_true rfl)) (oSha hK (a := 69) (Nat.le_of_ble_eq_true rfl) rfl) i2 ?_
    refine oe_goto (pc := 14) (tgt := 18) d_X12_byteAt_14 (by decide) ?_
    obtain ⟨rfl, rfl⟩ := oRes h
    exact oe_iret (pc := 18) d_X12_byteAt_18 ⟨_, rfl, rfl⟩
theorem d_X12_isDigit_0 : decode J_X12_isDigit.2.1 0 = .ok (.aload_n 0, 1) := by decide +kernel
theorem d_X12_isDigit_1 : decode J_X12_isDigit.2.1 1 = .ok (.iload_n 1, 1) := by decide +kernel
theorem d_X12_isDigit_2 : decode J_X12_isDigit.2.1 2 = .ok (.invokevirtual 183, 3) := by decide +kernel
theorem d_X12_isDigit_5 : decode J_X12_isDigit.2.1 5 = .ok (.i2l, 1) := by decide +kernel
theorem d_X12_isDigit_6 : decode J_X12_isDigit.2.1 6 = .ok (.ldc2_w 187, 3) := by decide +kernel
theorem d_X12_isDigit_9 : decode J_X12_isDigit.2.1 9 = .ok (.ldc2_w 189, 3) := by decide +kernel
theorem d_X12_isDigit_12 : decode J_X12_isDigit.2.1 12 = .ok (.invokestatic 145, 3) := by decide +kernel
theorem d_X12_isDigit_15 : decode J_X12_isDigit.2.1 15 = .ok (.ireturn, 1) := by decide +kernel
def f_X12_isDigit (N : Nat) (K : oK) (p1 : Int32) (M : oM) : Option (Bool × oM) :=
  oB2 (f_X12_byteAt N K p1 M) (fun v1 M2 => oB2 (f_X12_within N K ((v1 : Int32).toInt64) 48 57 M2) (fun v4 M5 => cond v4 (some (true, M5)) (some (false, M5))))
set_option maxRecDepth 20000 in
theorem v_X12_isDigit {X : oX} {N : Nat} {K : oK} {p1 : Int32} {M : oM} {v : Bool} {M' : oM} (hK : oSR K)  (h : f_X12_isDigit N K p1 M = some (v, M')) : oMet X 2 J_X12_isDigit [(.ref 59), (.int p1)] K M (some (.int (oBi v))) K M' := by
  unfold f_X12_isDigit at h
  refine oMet_of (L := [some (.ref 59), some (.int p1)]) jJ_X12_isDigit.1 rfl (Nat.le_of_ble_eq_true rfl) rfl (Nat.le_refl _) (Nat.le_refl _) ?_
  have hd : 2 ≤ 2 := Nat.le_refl _
  refine oe_aload_n (pc := 0) d_X12_isDigit_0 rfl ?_
  refine oe_iload_n (pc := 1) d_X12_isDigit_1 rfl ?_
  obtain ⟨v1, M2, q3, h⟩ := oB2_some h
  refine oe_callV (pc := 2) (ci := 12) d_X12_isDigit_2 (v_X12_byteAt hK  q3) (by omega) ml_X12_183 jJ_X12_byteAt rfl rfl (oLt hK (a := 59) (Nat.le_of_ble_eq_true rfl)) (oSho hK (a := 59) (Nat.le_of_ble_eq_true rfl) rfl) ock12 rfl (Nat.le_of_ble_eq_true rfl) ⟨Nat.le_refl _, Nat.le_refl _⟩ ⟨Nat.le_refl _, Nat.le_refl _⟩ ?_
  refine oe_i2l (pc := 5) d_X12_isDigit_5 ?_
  refine oe_ldc2 (pc := 6) d_X12_isDigit_6 co_X12_187 ?_
  refine oe_ldc2 (pc := 9) d_X12_isDigit_9 co_X12_189 ?_
  obtain ⟨v4, M5, q6, h⟩ := oB2_some h
  cases v4 with
  | true =>
    replace h := oCt h
    refine oe_callS (pc := 12) d_X12_isDigit_12 (v_X12_within hK  q6) (by omega) ml_X12_145 jJ_X12_within rfl rfl (Nat.le_of_ble_eq_true rfl) ⟨Nat.le_refl _, Nat.le_refl _⟩ ⟨Nat.le_refl _, Nat.le_refl _⟩ ?_
    obtain ⟨rfl, rfl⟩ := oRes h
    exact oe_iret (pc := 15) d_X12_isDigit_15 ⟨_, rfl, rfl⟩
  | false =>
    replace h := oCf h
    refine oe_callS (pc := 12) d_X12_isDigit_12 (v_X12_within hK  q6) (by omega) ml_X12_145 jJ_X12_within rfl rfl (Nat.le_of_ble_eq_true rfl) ⟨Nat.le_refl _, Nat.le_refl _⟩ ⟨Nat.le_refl _, Nat.le_refl _⟩ ?_
    obtain ⟨rfl, rfl⟩ := oRes h
    exact oe_iret (pc := 15) d_X12_isDigit_15 ⟨_, rfl, rfl⟩
theorem d_X12_readNumbers_0 : decode J_X12_readNumbers.2.1 0 = .ok (.iload_n 1, 1) := by decide +kernel
theorem d_X12_readNumbers_1 : decode J_X12_readNumbers.2.1 1 = .ok (.istore_n 3, 1) := by decide +kernel
theorem d_X12_readNumbers_2 : decode J_X12_readNumbers.2.1 2 = .ok (.aload_n 0, 1) := by decide +kernel
theorem d_X12_readNumbers_3 : decode J_X12_readNumbers.2.1 3 = .ok (.iconst 0, 1) := by decide +kernel
theorem d_X12_readNumbers_4 : decode J_X12_readNumbers.2.1 4 = .ok (.putfield 191, 3) := by decide +kernel
theorem d_X12_readNumbers_7 : decode J_X12_readNumbers.2.1 7 = .ok (.iload_n 3, 1) := by decide +kernel
theorem d_X12_readNumbers_8 : decode J_X12_readNumbers.2.1 8 = .ok (.istore 4, 2) := by decide +kernel
theorem d_X12_readNumbers_10 : decode J_X12_readNumbers.2.1 10 = .ok (.iconst 0, 1) := by decide +kernel
theorem d_X12_readNumbers_11 : decode J_X12_readNumbers.2.1 11 = .ok (.istore 5, 2) := by decide +kernel
theorem d_X12_readNumbers_13 : decode J_X12_readNumbers.2.1 13 = .ok (.iload_n 3, 1) := by decide +kernel
theorem d_X12_readNumbers_14 : decode J_X12_readNumbers.2.1 14 = .ok (.iload 4, 2) := by decide +kernel
theorem d_X12_readNumbers_16 : decode J_X12_readNumbers.2.1 16 = .ok (.iconst 5, 1) := by decide +kernel
theorem d_X12_readNumbers_17 : decode J_X12_readNumbers.2.1 17 = .ok (.iadd, 1) := by decide +kernel
theorem d_X12_readNumbers_18 : decode J_X12_readNumbers.2.1 18 = .ok (.if_icmp .ge 33, 3) := by decide +kernel
theorem d_X12_readNumbers_21 : decode J_X12_readNumbers.2.1 21 = .ok (.aload_n 0, 1) := by decide +kernel
theorem d_X12_readNumbers_22 : decode J_X12_readNumbers.2.1 22 = .ok (.iload_n 3, 1) := by decide +kernel
theorem d_X12_readNumbers_23 : decode J_X12_readNumbers.2.1 23 = .ok (.invokevirtual 194, 3) := by decide +kernel
theorem d_X12_readNumbers_26 : decode J_X12_readNumbers.2.1 26 = .ok (.ifCond .eq 25, 3) := by decide +kernel
theorem d_X12_readNumbers_29 : decode J_X12_readNumbers.2.1 29 = .ok (.bipush 10, 2) := by decide +kernel
theorem d_X12_readNumbers_31 : decode J_X12_readNumbers.2.1 31 = .ok (.iload 5, 2) := by decide +kernel
theorem d_X12_readNumbers_33 : decode J_X12_readNumbers.2.1 33 = .ok (.imul, 1) := by decide +kernel
theorem d_X12_readNumbers_34 : decode J_X12_readNumbers.2.1 34 = .ok (.aload_n 0, 1) := by decide +kernel
theorem d_X12_readNumbers_35 : decode J_X12_readNumbers.2.1 35 = .ok (.iload_n 3, 1) := by decide +kernel
theorem d_X12_readNumbers_36 : decode J_X12_readNumbers.2.1 36 = .ok (.invokevirtual 183, 3) := by decide +kernel
theorem d_X12_readNumbers_39 : decode J_X12_readNumbers.2.1 39 = .ok (.iadd, 1) := by decide +kernel
theorem d_X12_readNumbers_40 : decode J_X12_readNumbers.2.1 40 = .ok (.bipush 48, 2) := by decide +kernel
theorem d_X12_readNumbers_42 : decode J_X12_readNumbers.2.1 42 = .ok (.isub, 1) := by decide +kernel
theorem d_X12_readNumbers_43 : decode J_X12_readNumbers.2.1 43 = .ok (.istore 5, 2) := by decide +kernel
theorem d_X12_readNumbers_45 : decode J_X12_readNumbers.2.1 45 = .ok (.iinc 3 1, 3) := by decide +kernel
theorem d_X12_readNumbers_48 : decode J_X12_readNumbers.2.1 48 = .ok (.goto (-35), 3) := by decide +kernel
theorem d_X12_readNumbers_51 : decode J_X12_readNumbers.2.1 51 = .ok (.iload_n 3, 1) := by decide +kernel
theorem d_X12_readNumbers_52 : decode J_X12_readNumbers.2.1 52 = .ok (.iload 4, 2) := by decide +kernel
theorem d_X12_readNumbers_54 : decode J_X12_readNumbers.2.1 54 = .ok (.if_icmp .ne 5, 3) := by decide +kernel
theorem d_X12_readNumbers_57 : decode J_X12_readNumbers.2.1 57 = .ok (.iload_n 3, 1) := by decide +kernel
theorem d_X12_readNumbers_58 : decode J_X12_readNumbers.2.1 58 = .ok (.ireturn, 1) := by decide +kernel
theorem d_X12_readNumbers_59 : decode J_X12_readNumbers.2.1 59 = .ok (.aload_n 0, 1) := by decide +kernel
theorem d_X12_readNumbers_60 : decode J_X12_readNumbers.2.1 60 = .ok (.getfield 191, 3) := by decide +kernel
theorem d_X12_readNumbers_63 : decode J_X12_readNumbers.2.1 63 = .ok (.ifCond .le 45, 3) := by decide +kernel
theorem d_X12_readNumbers_66 : decode J_X12_readNumbers.2.1 66 = .ok (.iload_n 2, 1) := by decide +kernel
theorem d_X12_readNumbers_67 : decode J_X12_readNumbers.2.1 67 = .ok (.ifCond .eq 22, 3) := by decide +kernel
theorem d_X12_readNumbers_70 : decode J_X12_readNumbers.2.1 70 = .ok (.iload 5, 2) := by decide +kernel
theorem d_X12_readNumbers_72 : decode J_X12_readNumbers.2.1 72 = .ok (.aload_n 0, 1) := by decide +kernel
theorem d_X12_readNumbers_73 : decode J_X12_readNumbers.2.1 73 = .ok (.getfield 46, 3) := by decide +kernel
theorem d_X12_readNumbers_76 : decode J_X12_readNumbers.2.1 76 = .ok (.aload_n 0, 1) := by decide +kernel
theorem d_X12_readNumbers_77 : decode J_X12_readNumbers.2.1 77 = .ok (.getfield 191, 3) := by decide +kernel
theorem d_X12_readNumbers_80 : decode J_X12_readNumbers.2.1 80 = .ok (.iconst 1, 1) := by decide +kernel
theorem d_X12_readNumbers_81 : decode J_X12_readNumbers.2.1 81 = .ok (.isub, 1) := by decide +kernel
theorem d_X12_readNumbers_82 : decode J_X12_readNumbers.2.1 82 = .ok (.iaload, 1) := by decide +kernel
theorem d_X12_readNumbers_83 : decode J_X12_readNumbers.2.1 83 = .ok (.if_icmp .ge 25, 3) := by decide +kernel
theorem d_X12_readNumbers_86 : decode J_X12_readNumbers.2.1 86 = .ok (.goto 19, 3) := by decide +kernel
theorem d_X12_readNumbers_89 : decode J_X12_readNumbers.2.1 89 = .ok (.iload 5, 2) := by decide +kernel
theorem d_X12_readNumbers_91 : decode J_X12_readNumbers.2.1 91 = .ok (.aload_n 0, 1) := by decide +kernel
theorem d_X12_readNumbers_92 : decode J_X12_readNumbers.2.1 92 = .ok (.getfield 46, 3) := by decide +kernel
theorem d_X12_readNumbers_95 : decode J_X12_readNumbers.2.1 95 = .ok (.aload_n 0, 1) := by decide +kernel
theorem d_X12_readNumbers_96 : decode J_X12_readNumbers.2.1 96 = .ok (.getfield 191, 3) := by decide +kernel
theorem d_X12_readNumbers_99 : decode J_X12_readNumbers.2.1 99 = .ok (.iconst 1, 1) := by decide +kernel
theorem d_X12_readNumbers_100 : decode J_X12_readNumbers.2.1 100 = .ok (.isub, 1) := by decide +kernel
theorem d_X12_readNumbers_101 : decode J_X12_readNumbers.2.1 101 = .ok (.iaload, 1) := by decide +kernel
theorem d_X12_readNumbers_102 : decode J_X12_readNumbers.2.1 102 = .ok (.if_icmp .le 6, 3) := by decide +kernel
theorem d_X12_readNumbers_105 : decode J_X12_readNumbers.2.1 105 = .ok (.iload 4, 2) := by decide +kernel
theorem d_X12_readNumbers_107 : decode J_X12_readNumbers.2.1 107 = .ok (.ireturn, 1) := by decide +kernel
theorem d_X12_readNumbers_108 : decode J_X12_readNumbers.2.1 108 = .ok (.aload_n 0, 1) := by decide +kernel
theorem d_X12_readNumbers_109 : decode J_X12_readNumbers.2.1 109 = .ok (.getfield 46, 3) := by decide +kernel
theorem d_X12_readNumbers_112 : decode J_X12_readNumbers.2.1 112 = .ok (.aload_n 0, 1) := by decide +kernel
theorem d_X12_readNumbers_113 : decode J_X12_readNumbers.2.1 113 = .ok (.getfield 191, 3) := by decide +kernel
theorem d_X12_readNumbers_116 : decode J_X12_readNumbers.2.1 116 = .ok (.iload 5, 2) := by decide +kernel
theorem d_X12_readNumbers_118 : decode J_X12_readNumbers.2.1 118 = .ok (.iastore, 1) := by decide +kernel
theorem d_X12_readNumbers_119 : decode J_X12_readNumbers.2.1 119 = .ok (.aload_n 0, 1) := by decide +kernel
theorem d_X12_readNumbers_120 : decode J_X12_readNumbers.2.1 120 = .ok (.dup, 1) := by decide +kernel
theorem d_X12_readNumbers_121 : decode J_X12_readNumbers.2.1 121 = .ok (.getfield 191, 3) := by decide +kernel
theorem d_X12_readNumbers_124 : decode J_X12_readNumbers.2.1 124 = .ok (.iconst 1, 1) := by decide +kernel
theorem d_X12_readNumbers_125 : decode J_X12_readNumbers.2.1 125 = .ok (.iadd, 1) := by decide +kernel
theorem d_X12_readNumbers_126 : decode J_X12_readNumbers.2.1 126 = .ok (.putfield 191, 3) := by decide +kernel
theorem d_X12_readNumbers_129 : decode J_X12_readNumbers.2.1 129 = .ok (.aload_n 0, 1) := by decide +kernel
theorem d_X12_readNumbers_130 : decode J_X12_readNumbers.2.1 130 = .ok (.iload_n 3, 1) := by decide +kernel
theorem d_X12_readNumbers_131 : decode J_X12_readNumbers.2.1 131 = .ok (.invokevirtual 183, 3) := by decide +kernel
theorem d_X12_readNumbers_134 : decode J_X12_readNumbers.2.1 134 = .ok (.bipush 44, 2) := by decide +kernel
theorem d_X12_readNumbers_136 : decode J_X12_readNumbers.2.1 136 = .ok (.if_icmp .ne 12, 3) := by decide +kernel
theorem d_X12_readNumbers_139 : decode J_X12_readNumbers.2.1 139 = .ok (.aload_n 0, 1) := by decide +kernel
theorem d_X12_readNumbers_140 : decode J_X12_readNumbers.2.1 140 = .ok (.getfield 191, 3) := by decide +kernel
theorem d_X12_readNumbers_143 : decode J_X12_readNumbers.2.1 143 = .ok (.bipush 13, 2) := by decide +kernel
theorem d_X12_readNumbers_145 : decode J_X12_readNumbers.2.1 145 = .ok (.if_icmp .ne 17, 3) := by decide +kernel
theorem d_X12_readNumbers_148 : decode J_X12_readNumbers.2.1 148 = .ok (.iload_n 3, 1) := by decide +kernel
theorem d_X12_readNumbers_149 : decode J_X12_readNumbers.2.1 149 = .ok (.aload_n 0, 1) := by decide +kernel
theorem d_X12_readNumbers_150 : decode J_X12_readNumbers.2.1 150 = .ok (.getfield 180, 3) := by decide +kernel
theorem d_X12_readNumbers_153 : decode J_X12_readNumbers.2.1 153 = .ok (.if_icmp .ge 7, 3) := by decide +kernel
theorem d_X12_readNumbers_156 : decode J_X12_readNumbers.2.1 156 = .ok (.iload_n 3, 1) := by decide +kernel
theorem d_X12_readNumbers_157 : decode J_X12_readNumbers.2.1 157 = .ok (.goto 4, 3) := by decide +kernel
theorem d_X12_readNumbers_160 : decode J_X12_readNumbers.2.1 160 = .ok (.iconst (-1), 1) := by decide +kernel
theorem d_X12_readNumbers_161 : decode J_X12_readNumbers.2.1 161 = .ok (.ireturn, 1) := by decide +kernel
theorem d_X12_readNumbers_162 : decode J_X12_readNumbers.2.1 162 = .ok (.iinc 3 1, 3) := by decide +kernel
theorem d_X12_readNumbers_165 : decode J_X12_readNumbers.2.1 165 = .ok (.goto (-158), 3) := by decide +kernel
def f_X12_readNumbers_148 (N : Nat) (K : oK)  (p3 : Int32) (M : oM) : Option (Int32 × oM) :=
  (if (M.1 59 15) ≤ p3 then some ((-1), M) else some (p3, M))
set_option maxRecDepth 20000 in
theorem v_X12_readNumbers_148 {X : oX} {d N : Nat} {K : oK}  {p3 : Int32} {M : oM} {v : Int32} {M' : oM}  (hd : 3 ≤ d) (hK : oSR K)   (h : f_X12_readNumbers_148 N K  p3 M = some (v, M')) : oEv X d J_X12_readNumbers 148 [some (.ref 59), none, none, some (.int p3), none, none] [] K M (some (.int v)) K M' := by
  unfold f_X12_readNumbers_148 at h
  refine oe_iload_n (pc := 148) d_X12_readNumbers_148 rfl ?_
  refine oe_aload_n (pc := 149) d_X12_readNumbers_149 rfl ?_
  refine oe_getf (pc := 150) d_X12_readNumbers_150 fl_X12_180 ock12 (k := 15) (Nat.le_of_ble_eq_true rfl) rfl (oLt hK (a := 59) (Nat.le_of_ble_eq_true rfl)) (oSho hK (a := 59) (Nat.le_of_ble_eq_true rfl) rfl) ?_
  refine oe_icmp_ge (pc := 153) (tgt := 160) d_X12_readNumbers_153 (by decide) (fun c9 => ?_) (fun c9 => ?_)
  · replace h := (if_pos c9).symm.trans h
    refine oe_iconst (pc := 160) (v := (-1)) d_X12_readNumbers_160 rfl ?_
    obtain ⟨rfl, rfl⟩ := oRes h
    exact oe_iret (pc := 161) d_X12_readNumbers_161 ⟨_, rfl, rfl⟩
  · replace h := (if_neg c9).symm.trans h
    refine oe_iload_n (pc := 156) d_X12_readNumbers_156 rfl ?_
    refine oe_goto (pc := 157) (tgt := 161) d_X12_readNumbers_157 (by decide) ?_
    obtain ⟨rfl, rfl⟩ := oRes h
    exact oe_iret (pc := 161) d_X12_readNumbers_161 ⟨_, rfl, rfl⟩
def f_X12_readNumbers_108 (N : Nat) (K : oK) (r7 : (Int32 → Int32 → oM → Option (Int32 × oM))) (p2 : Int32) (p3 : Int32) (p5 : Int32) (M : oM) : Option (Int32 × oM) :=
  oIx ((M.1 59 19)) 13 (oB2 (f_X12_byteAt N K p3 (oUp (oUp M 72 ((M.1 59 19) : Int32).toNatClampNeg p5) 59 19 (((oUp M 72 ((M.1 59 19) : Int32).toNatClampNeg p5).1 59 19) + 1))) (fun v5 M6 => (if v5 = 44 then (if (M6.1 59 19) = 13 then (f_X12_readNumbers_148 N K  p3 M6) else (r7 p2 (p3 + 1) M6)) else (f_X12_readNumbers_148 N K  p3 M6))))
set_option maxRecDepth 20000 in
theorem v_X12_readNumbers_108 {X : oX} {d N : Nat} {K : oK} {r7 : (Int32 → Int32 → oM → Option (Int32 × oM))} {p2 : Int32} {p3 : Int32} {p5 : Int32} {M : oM} {v : Int32} {M' : oM}  (hd : 3 ≤ d) (hK : oSR K)  (hr7 : ∀ (p2 : Int32) (p3 : Int32) (M : oM) (v : Int32) (M' : oM) , r7 p2 p3 M = some (v, M') → oEv X d J_X12_readNumbers 7 [some (.ref 59), none, some (.int p2), some (.int p3), none, none] [] K M (some (.int v)) K M') (h : f_X12_readNumbers_108 N K r7 p2 p3 p5 M = some (v, M')) : oEv X d J_X12_readNumbers 108 [some (.ref 59), none, some (.int p2), some (.int p3), none, some (.int p5)] [] K M (some (.int v)) K M' := by
  unfold f_X12_readNumbers_108 at h
  refine oe_aload_n (pc := 108) d_X12_readNumbers_108 rfl ?_
  refine oe_getr (pc := 109) d_X12_readNumbers_109 fl_X12_46 ock12 (k := 18) (b := 72) (Nat.le_of_ble_eq_true rfl) (by decide) (oLt hK (a := 59) (Nat.le_of_ble_eq_true rfl)) (oSho hK (a := 59) (Nat.le_of_ble_eq_true rfl) rfl) (oRfK hK rfl) ?_
  refine oe_aload_n (pc := 112) d_X12_readNumbers_112 rfl ?_
  refine oe_getf (pc := 113) d_X12_readNumbers_113 fl_X12_191 ock12 (k := 19) (Nat.le_of_ble_eq_true rfl) rfl (oLt hK (a := 59) (Nat.le_of_ble_eq_true rfl)) (oSho hK (a := 59) (Nat.le_of_ble_eq_true rfl) rfl) ?_
  refine oe_iload (pc := 116) d_X12_readNumbers_116 rfl ?_
  obtain ⟨i4, h⟩ := oIx_some h
  refine oe_iast (pc := 118) d_X12_readNumbers_118 (oLt hK (a := 72) (Nat.le_of_ble_eq_true rfl)) (oSha hK (a := 72) (Nat.le_of_ble_eq_true rfl) rfl) i4 ?_
  refine oe_aload_n (pc := 119) d_X12_readNumbers_119 rfl ?_
  refine oe_dup (pc := 120) d_X12_readNumbers_120 rfl ?_
  refine oe_getf (pc := 121) d_X12_readNumbers_121 fl_X12_191 ock12 (k := 19) (Nat.le_of_ble_eq_true rfl) rfl (oLt hK (a := 59) (Nat.le_of_ble_eq_true rfl)) (oSho hK (a := 59) (Nat.le_of_ble_eq_true rfl) rfl) ?_
  refine oe_iconst (pc := 124) (v := 1) d_X12_readNumbers_124 rfl ?_
  refine oe_iadd (pc := 125) d_X12_readNumbers_125 ?_
  refine oe_putf (pc := 126) d_X12_readNumbers_126 fl_X12_191 ock12 (k := 19) (Nat.le_of_ble_eq_true rfl) rfl rfl (oLt hK (a := 59) (Nat.le_of_ble_eq_true rfl)) (oSho hK (a := 59) (Nat.le_of_ble_eq_true rfl) rfl) ?_
  refine oe_aload_n (pc := 129) d_X12_readNumbers_129 rfl ?_
  refine oe_iload_n (pc := 130) d_X12_readNumbers_130 rfl ?_
  obtain ⟨v5, M6, q7, h⟩ := oB2_some h
  refine oe_callV (pc := 131) (ci := 12) d_X12_readNumbers_131 (v_X12_byteAt hK  q7) (by omega) ml_X12_183 jJ_X12_byteAt rfl rfl (oLt hK (a := 59) (Nat.le_of_ble_eq_true rfl)) (oSho hK (a := 59) (Nat.le_of_ble_eq_true rfl) rfl) ock12 rfl (Nat.le_of_ble_eq_true rfl) ⟨Nat.le_refl _, Nat.le_refl _⟩ ⟨Nat.le_refl _, Nat.le_refl _⟩ ?_
  refine oe_bipush (pc := 134) (v := 44) d_X12_readNumbers_134 rfl ?_
  refine oe_icmp_ne (pc := 136) (tgt := 148) d_X12_readNumbers_136 (by decide) (fun c8 => ?_) (fun c8 => ?_)
  · replace h := (if_neg c8).symm.trans h
    refine oEv.fg [true, false, false, true, false, false] ?_
    exact v_X12_readNumbers_148 hd hK   h
  · replace h := (if_pos c8).symm.trans h
    refine oe_aload_n (pc := 139) d_X12_readNumbers_139 rfl ?_
    refine oe_getf (pc := 140) d_X12_readNumbers_140 fl_X12_191 ock12 (k := 19) (Nat.le_of_ble_eq_true rfl) rfl (oLt hK (a := 59) (Nat.le_of_ble_eq_true rfl)) (oSho hK (a := 59) (Nat.le_of_ble_eq_true rfl) rfl) ?_
    refine oe_bipush (pc := 143) (v := 13) d_X12_readNumbers_143 rfl ?_
    refine oe_icmp_ne (pc := 145) (tgt := 162) d_X12_readNumbers_145 (by decide) (fun c10 => ?_) (fun c10 => ?_)
    · replace h := (if_neg c10).symm.trans h
      refine oe_iinc (pc := 162) (v := (p3 + 1)) (L2 := [_, _, _, _, _, _]) d_X12_readNumbers_162 rfl rfl rfl (Nat.le_of_ble_eq_true rfl) rfl ?_
      refine oe_goto (pc := 165) (tgt := 7) d_X12_readNumbers_165 (by decide) ?_
      refine oEv.fg [true, false, true, true, false, false] ?_
      exact hr7 _ _ _ _ _ h
    · replace h := (if_pos c10).symm.trans h
      refine oEv.fg [true, false, false, true, false, false] ?_
      exact v_X12_readNumbers_148 hd hK   h
def f_X12_readNumbers_51 (N : Nat) (K : oK) (r7 : (Int32 → Int32 → oM → Option (Int32 × oM))) (p2 : Int32) (p3 : Int32) (p4 : Int32) (p5 : Int32) (M : oM) : Option (Int32 × oM) :=
  (if p3 = p4 then some (p3, M) else (if (M.1 59 19) ≤ 0 then (f_X12_readNumbers_108 N K r7 p2 p3 p5 M) else (if p2 = 0 then oIx (((M.1 59 19) - 1)) 13 ((if p5 ≤ (M.1 72 (((M.1 59 19) - 1) : Int32).toNatClampNeg) then (f_X12_readNumbers_108 N K r7 p2 p3 p5 M) else some (p4, M))) else oIx (((M.1 59 19) - 1)) 13 ((if (M.1 72 (((M.1 59 19) - 1) : Int32).toNatClampNeg) ≤ p5 then (f_X12_readNumbers_108 N K r7 p2 p3 p5 M) else some (p4, M))))))
set_option maxRecDepth 20000 in
theorem v_X12_readNumbers_51 {X : oX} {d N : Nat} {K : oK} {r7 : (Int32 → Int32 → oM → Option (Int32 × oM))} {p2 : Int32} {p3 : Int32} {p4 : Int32} {p5 : Int32} {M : oM} {v : Int32} {M' : oM}  (hd : 3 ≤ d) (hK : oSR K)  (hr7 : ∀ (p2 : Int32) (p3 : Int32) (M : oM) (v : Int32) (M' : oM) , r7 p2 p3 M = some (v, M') → oEv X d J_X12_readNumbers 7 [some (.ref 59), none, some (.int p2), some (.int p3), none, none] [] K M (some (.int v)) K M') (h : f_X12_readNumbers_51 N K r7 p2 p3 p4 p5 M = some (v, M')) : oEv X d J_X12_readNumbers 51 [some (.ref 59), none, some (.int p2), some (.int p3), some (.int p4), some (.int p5)] [] K M (some (.int v)) K M' := by
  unfold f_X12_readNumbers_51 at h
  refine oe_iload_n (pc := 51) d_X12_readNumbers_51 rfl ?_
  refine oe_iload (pc := 52) d_X12_readNumbers_52 rfl ?_
  refine oe_icmp_ne (pc := 54) (tgt := 59) d_X12_readNumbers_54 (by decide) (fun c2 => ?_) (fun c2 => ?_)
  · replace h := (if_neg c2).symm.trans h
    refine oe_aload_n (pc := 59) d_X12_readNumbers_59 rfl ?_
    refine oe_getf (pc := 60) d_X12_readNumbers_60 fl_X12_191 ock12 (k := 19) (Nat.le_of_ble_eq_true rfl) rfl (oLt hK (a := 59) (Nat.le_of_ble_eq_true rfl)) (oSho hK (a := 59) (Nat.le_of_ble_eq_true rfl) rfl) ?_
    refine oe_if_le (pc := 63) (tgt := 108) d_X12_readNumbers_63 (by decide) (fun c3 => ?_) (fun c3 => ?_)
    · replace h := (if_pos c3).symm.trans h
      refine oEv.fg [true, false, true, true, false, true] ?_
      exact v_X12_readNumbers_108 hd hK  hr7 h
    · replace h := (if_neg c3).symm.trans h
      refine oe_iload_n (pc := 66) d_X12_readNumbers_66 rfl ?_
      refine oe_if_eq (pc := 67) (tgt := 89) d_X12_readNumbers_67 (by decide) (fun c11 => ?_) (fun c11 => ?_)
      · replace h := (if_pos c11).symm.trans h
        refine oe_iload (pc := 89) d_X12_readNumbers_89 rfl ?_
        refine oe_aload_n (pc := 91) d_X12_readNumbers_91 rfl ?_
        refine oe_getr (pc := 92) d_X12_readNumbers_92 fl_X12_46 ock12 (k := 18) (b := 72) (Nat.le_of_ble_eq_true rfl) (by decide) (oLt hK (a := 59) (Nat.le_of_ble_eq_true rfl)) (oSho hK (a := 59) (Nat.le_of_ble_eq_true rfl) rfl) (oRfK hK rfl) ?_
        refine oe_aload_n (pc := 95) d_X12_readNumbers_95 rfl ?_
        refine oe_getf (pc := 96) d_X12_readNumbers_96 fl_X12_191 ock12 (k := 19) (Nat.le_of_ble_eq_true rfl) rfl (oLt hK (a := 59) (Nat.le_of_ble_eq_true rfl)) (oSho hK (a := 59) (Nat.le_of_ble_eq_true rfl) rfl) ?_
        refine oe_iconst (pc := 99) (v := 1) d_X12_readNumbers_99 rfl ?_
        refine oe_isub (pc := 100) d_X12_readNumbers_100 ?_
        obtain ⟨i12, h⟩ := oIx_some h
        refine oe_iald (pc := 101) d_X12_readNumbers_101 (oLt hK (a := 72) (Nat.le_of_ble_eq_true rfl)) (oSha hK (a := 72) (Nat.le_of_ble_eq_true rfl) rfl) i12 ?_
        refine oe_icmp_le (pc := 102) (tgt := 108) d_X12_readNumbers_102 (by decide) (fun c13 => ?_) (fun c13 => ?_)
        · replace h := (if_pos c13).symm.trans h
          refine oEv.fg [true, false, true, true, false, true] ?_
          exact v_X12_readNumbers_108 hd hK  hr7 h
        · replace h := (if_neg c13).symm.trans h
          refine oe_iload (pc := 105) d_X12_readNumbers_105 rfl ?_
          obtain ⟨rfl, rfl⟩ := oRes h
          exact oe_iret (pc := 107) d_X12_readNumbers_107 ⟨_, rfl, rfl⟩
      · replace h := (if_neg c11).symm.trans h
        refine oe_iload (pc := 70) d_X12_readNumbers_70 rfl ?_
        refine oe_aload_n (pc := 72) d_X12_readNumbers_72 rfl ?_
        refine oe_getr (pc := 73) d_X12_readNumbers_73 fl_X12_46 ock12 (k := 18) (b := 72) (Nat.le_of_ble_eq_true rfl) (by decide) (oLt hK (a := 59) (Nat.le_of_ble_eq_true rfl)) (oSho hK (a := 59) (Nat.le_of_ble_eq_true rfl) rfl) (oRfK hK rfl) ?_
        refine oe_aload_n (pc := 76) d_X12_readNumbers_76 rfl ?_
        refine oe_getf (pc := 77) d_X12_readNumbers_77 fl_X12_191 ock12 (k := 19) (Nat.le_of_ble_eq_true rfl) rfl (oLt hK (a := 59) (Nat.le_of_ble_eq_true rfl)) (oSho hK (a := 59) (Nat.le_of_ble_eq_true rfl) rfl) ?_
        refine oe_iconst (pc := 80) (v := 1) d_X12_readNumbers_80 rfl ?_
        refine oe_isub (pc := 81) d_X12_readNumbers_81 ?_
        obtain ⟨i14, h⟩ := oIx_some h
        refine oe_iald (pc := 82) d_X12_readNumbers_82 (oLt hK (a := 72) (Nat.le_of_ble_eq_true rfl)) (oSha hK (a := 72) (Nat.le_of_ble_eq_true rfl) rfl) i14 ?_
        refine oe_icmp_ge (pc := 83) (tgt := 108) d_X12_readNumbers_83 (by decide) (fun c15 => ?_) (fun c15 => ?_)
        · replace h := (if_pos c15).symm.trans h
          refine oEv.fg [true, false, true, true, false, true] ?_
          exact v_X12_readNumbers_108 hd hK  hr7 h
        · replace h := (if_neg c15).symm.trans h
          refine oe_goto (pc := 86) (tgt := 105) d_X12_readNumbers_86 (by decide) ?_
          refine oe_iload (pc := 105) d_X12_readNumbers_105 rfl ?_
          obtain ⟨rfl, rfl⟩ := oRes h
          exact oe_iret (pc := 107) d_X12_readNumbers_107 ⟨_, rfl, rfl⟩
  · replace h := (if_pos c2).symm.trans h
    refine oe_iload_n (pc := 57) d_X12_readNumbers_57 rfl ?_
    obtain ⟨rfl, rfl⟩ := oRes h
    exact oe_iret (pc := 58) d_X12_readNumbers_58 ⟨_, rfl, rfl⟩
def f_X12_readNumbers_13 (N : Nat) (K : oK) (r7 : (Int32 → Int32 → oM → Option (Int32 × oM))) : Nat → Int32 → Int32 → Int32 → Int32 → oM → Option (Int32 × oM)
  | 0, _, _, _, _, _ => none
  | n + 1, p2, p3, p4, p5, M => (fun r13 => (if (p4 + 5) ≤ p3 then (f_X12_readNumbers_51 N K r7 p2 p3 p4 p5 M) else oB2 (f_X12_isDigit N K p3 M) (fun v16 M17 => cond v16 (oB2 (f_X12_byteAt N K p3 M17) (fun v19 M20 => (r13 p2 (p3 + 1) p4 ((((10 : Int32) * p5) + v19) - 48) M20))) ((f_X12_readNumbers_51 N K r7 p2 p3 p4 p5 M17))))) (f_X12_readNumbers_13 N K r7 n)
set_option maxRecDepth 20000 in
theorem v_X12_readNumbers_13_L {X : oX} {d N : Nat} {K : oK} {r7 : (Int32 → Int32 → oM → Option (Int32 × oM))} (hd : 3 ≤ d) (hK : oSR K) (hr7 : ∀ (p2 : Int32) (p3 : Int32) (M : oM) (v : Int32) (M' : oM) , r7 p2 p3 M = some (v, M') → oEv X d J_X12_readNumbers 7 [some (.ref 59), none, some (.int p2), some (.int p3), none, none] [] K M (some (.int v)) K M') : ∀ (n : Nat) (p2 : Int32) (p3 : Int32) (p4 : Int32) (p5 : Int32) (M : oM) (v : Int32) (M' : oM)  , f_X12_readNumbers_13 N K r7 n p2 p3 p4 p5 M = some (v, M') → oEv X d J_X12_readNumbers 13 [some (.ref 59), none, some (.int p2), some (.int p3), some (.int p4), some (.int p5)] [] K M (some (.int v)) K M' := by
  intro n
  induction n with
  | zero =>
    intro p2 p3 p4 p5 M v M'   h
    cases h
  | succ n hr13 =>
    intro p2 p3 p4 p5 M v M'   h
    refine oe_iload_n (pc := 13) d_X12_readNumbers_13 rfl ?_
    refine oe_iload (pc := 14) d_X12_readNumbers_14 rfl ?_
    refine oe_iconst (pc := 16) (v := 5) d_X12_readNumbers_16 rfl ?_
    refine oe_iadd (pc := 17) d_X12_readNumbers_17 ?_
    refine oe_icmp_ge (pc := 18) (tgt := 51) d_X12_readNumbers_18 (by decide) (fun c1 => ?_) (fun c1 => ?_)
    · replace h := (if_pos c1).symm.trans h
      exact v_X12_readNumbers_51 hd hK  hr7 h
    · replace h := (if_neg c1).symm.trans h
      refine oe_aload_n (pc := 21) d_X12_readNumbers_21 rfl ?_
      refine oe_iload_n (pc := 22) d_X12_readNumbers_22 rfl ?_
      obtain ⟨v16, M17, q18, h⟩ := oB2_some h
      cases v16 with
      | true =>
        replace h := oCt h
        refine oe_callV (pc := 23) (ci := 12) d_X12_readNumbers_23 (v_X12_isDigit hK  q18) (by omega) ml_X12_194 jJ_X12_isDigit rfl rfl (oLt hK (a := 59) (Nat.le_of_ble_eq_true rfl)) (oSho hK (a := 59) (Nat.le_of_ble_eq_true rfl) rfl) ock12 rfl (Nat.le_of_ble_eq_true rfl) ⟨Nat.le_refl _, Nat.le_refl _⟩ ⟨Nat.le_refl _, Nat.le_refl _⟩ ?_
        refine oe_if_eq (pc := 26) (tgt := 51) d_X12_readNumbers_26 (by decide) (fun c => absurd c (by decide)) (fun _ => ?_)
        refine oe_bipush (pc := 29) (v := 10) d_X12_readNumbers_29 rfl ?_
        refine oe_iload (pc := 31) d_X12_readNumbers_31 rfl ?_
        refine oe_imul (pc := 33) d_X12_readNumbers_33 ?_
        refine oe_aload_n (pc := 34) d_X12_readNumbers_34 rfl ?_
        refine oe_iload_n (pc := 35) d_X12_readNumbers_35 rfl ?_
        obtain ⟨v19, M20, q21, h⟩ := oB2_some h
        refine oe_callV (pc := 36) (ci := 12) d_X12_readNumbers_36 (v_X12_byteAt hK  q21) (by omega) ml_X12_183 jJ_X12_byteAt rfl rfl (oLt hK (a := 59) (Nat.le_of_ble_eq_true rfl)) (oSho hK (a := 59) (Nat.le_of_ble_eq_true rfl) rfl) ock12 rfl (Nat.le_of_ble_eq_true rfl) ⟨Nat.le_refl _, Nat.le_refl _⟩ ⟨Nat.le_refl _, Nat.le_refl _⟩ ?_
        refine oe_iadd (pc := 39) d_X12_readNumbers_39 ?_
        refine oe_bipush (pc := 40) (v := 48) d_X12_readNumbers_40 rfl ?_
        refine oe_isub (pc := 42) d_X12_readNumbers_42 ?_
        refine oe_istore (pc := 43) (L2 := [_, _, _, _, _, _]) d_X12_readNumbers_43 rfl (Nat.le_of_ble_eq_true rfl) rfl ?_
        refine oe_iinc (pc := 45) (v := (p3 + 1)) (L2 := [_, _, _, _, _, _]) d_X12_readNumbers_45 rfl rfl rfl (Nat.le_of_ble_eq_true rfl) rfl ?_
        refine oe_goto (pc := 48) (tgt := 13) d_X12_readNumbers_48 (by decide) ?_
        exact hr13 _ _ _ _ _ _ _ h
      | false =>
        replace h := oCf h
        refine oe_callV (pc := 23) (ci := 12) d_X12_readNumbers_23 (v_X12_isDigit hK  q18) (by omega) ml_X12_194 jJ_X12_isDigit rfl rfl (oLt hK (a := 59) (Nat.le_of_ble_eq_true rfl)) (oSho hK (a := 59) (Nat.le_of_ble_eq_true rfl) rfl) ock12 rfl (Nat.le_of_ble_eq_true rfl) ⟨Nat.le_refl _, Nat.le_refl _⟩ ⟨Nat.le_refl _, Nat.le_refl _⟩ ?_
        refine oe_if_eq (pc := 26) (tgt := 51) d_X12_readNumbers_26 (by decide) (fun _ => ?_) (fun c => absurd (by decide) c)
        exact v_X12_readNumbers_51 hd hK  hr7 h
theorem v_X12_readNumbers_13 {X : oX} {d N : Nat} {K : oK} {r7 : (Int32 → Int32 → oM → Option (Int32 × oM))} {p2 : Int32} {p3 : Int32} {p4 : Int32} {p5 : Int32} {M : oM} {v : Int32} {M' : oM}  (hd : 3 ≤ d) (hK : oSR K)  (hr7 : ∀ (p2 : Int32) (p3 : Int32) (M : oM) (v : Int32) (M' : oM) , r7 p2 p3 M = some (v, M') → oEv X d J_X12_readNumbers 7 [some (.ref 59), none, some (.int p2), some (.int p3), none, none] [] K M (some (.int v)) K M') (h : f_X12_readNumbers_13 N K r7 N p2 p3 p4 p5 M = some (v, M')) : oEv X d J_X12_readNumbers 13 [some (.ref 59), none, some (.int p2), some (.int p3), some (.int p4), some (.int p5)] [] K M (some (.int v)) K M' := v_X12_readNumbers_13_L hd hK hr7 N p2 p3 p4 p5 M v M'   h
def f_X12_readNumbers_7 (N : Nat) (K : oK)  : Nat → Int32 → Int32 → oM → Option (Int32 × oM)
  | 0, _, _, _ => none
  | n + 1, p2, p3, M => (fun r7 => (f_X12_readNumbers_13 N K r7 N p2 p3 p3 0 M)) (f_X12_readNumbers_7 N K  n)
set_option maxRecDepth 20000 in
theorem v_X12_readNumbers_7_L {X : oX} {d N : Nat} {K : oK}  (hd : 3 ≤ d) (hK : oSR K)  : ∀ (n : Nat) (p2 : Int32) (p3 : Int32) (M : oM) (v : Int32) (M' : oM)  , f_X12_readNumbers_7 N K  n p2 p3 M = some (v, M') → oEv X d J_X12_readNumbers 7 [some (.ref 59), none, some (.int p2), some (.int p3), none, none] [] K M (some (.int v)) K M' := by
  intro n
  induction n with
  | zero =>
    intro p2 p3 M v M'   h
    cases h
  | succ n hr7 =>
    intro p2 p3 M v M'   h
    refine oe_iload_n (pc := 7) d_X12_readNumbers_7 rfl ?_
    refine oe_istore (pc := 8) (L2 := [_, _, _, _, _, _]) d_X12_readNumbers_8 rfl (Nat.le_of_ble_eq_true rfl) rfl ?_
    refine oe_iconst (pc := 10) (v := 0) d_X12_readNumbers_10 rfl ?_
    refine oe_istore (pc := 11) (L2 := [_, _, _, _, _, _]) d_X12_readNumbers_11 rfl (Nat.le_of_ble_eq_true rfl) rfl ?_
    exact v_X12_readNumbers_13 hd hK  hr7 h
theorem v_X12_readNumbers_7 {X : oX} {d N : Nat} {K : oK}  {p2 : Int32} {p3 : Int32} {M : oM} {v : Int32} {M' : oM}  (hd : 3 ≤ d) (hK : oSR K)   (h : f_X12_readNumbers_7 N K  N p2 p3 M = some (v, M')) : oEv X d J_X12_readNumbers 7 [some (.ref 59), none, some (.int p2), some (.int p3), none, none] [] K M (some (.int v)) K M' := v_X12_readNumbers_7_L hd hK  N p2 p3 M v M'   h
def f_X12_readNumbers (N : Nat) (K : oK) (p1 : Int32) (p2 : Int32) (M : oM) : Option (Int32 × oM) :=
  (f_X12_readNumbers_7 N K  N p2 p1 (oUp M 59 19 (0 : Int32)))
set_option maxRecDepth 20000 in
theorem v_X12_readNumbers {X : oX} {N : Nat} {K : oK} {p1 : Int32} {p2 : Int32} {M : oM} {v : Int32} {M' : oM} (hK : oSR K)  (h : f_X12_readNumbers N K p1 p2 M = some (v, M')) : oMet X 3 J_X12_readNumbers [(.ref 59), (.int p1), (.int p2)] K M (some (.int v)) K M' := by
  unfold f_X12_readNumbers at h
  refine oMet_of (L := [some (.ref 59), some (.int p1), some (.int p2), none, none, none]) jJ_X12_readNumbers.1 rfl (Nat.le_of_ble_eq_true rfl) rfl (Nat.le_refl _) (Nat.le_refl _) ?_
  have hd : 3 ≤ 3 := Nat.le_refl _
  refine oe_iload_n (pc := 0) d_X12_readNumbers_0 rfl ?_
  refine oe_istore_n (pc := 1) (L2 := [_, _, _, _, _, _]) d_X12_readNumbers_1 rfl rfl (Nat.le_of_ble_eq_true rfl) rfl ?_
  refine oe_aload_n (pc := 2) d_X12_readNumbers_2 rfl ?_
  refine oe_iconst (pc := 3) (v := 0) d_X12_readNumbers_3 rfl ?_
  refine oe_putf (pc := 4) d_X12_readNumbers_4 fl_X12_191 ock12 (k := 19) (Nat.le_of_ble_eq_true rfl) rfl rfl (oLt hK (a := 59) (Nat.le_of_ble_eq_true rfl)) (oSho hK (a := 59) (Nat.le_of_ble_eq_true rfl) rfl) ?_
  refine oEv.fg [true, false, true, true, false, false] ?_
  exact v_X12_readNumbers_7 hd hK   h
theorem d_X12_readTable_0 : decode J_X12_readTable.2.1 0 = .ok (.aload_n 0, 1) := by decide +kernel
theorem d_X12_readTable_1 : decode J_X12_readTable.2.1 1 = .ok (.iconst 0, 1) := by decide +kernel
theorem d_X12_readTable_2 : decode J_X12_readTable.2.1 2 = .ok (.invokevirtual 183, 3) := by decide +kernel
theorem d_X12_readTable_5 : decode J_X12_readTable.2.1 5 = .ok (.istore_n 1, 1) := by decide +kernel
theorem d_X12_readTable_6 : decode J_X12_readTable.2.1 6 = .ok (.iload_n 1, 1) := by decide +kernel
theorem d_X12_readTable_7 : decode J_X12_readTable.2.1 7 = .ok (.bipush 98, 2) := by decide +kernel
theorem d_X12_readTable_9 : decode J_X12_readTable.2.1 9 = .ok (.if_icmp .eq 11, 3) := by decide +kernel
theorem d_X12_readTable_12 : decode J_X12_readTable.2.1 12 = .ok (.iload_n 1, 1) := by decide +kernel
theorem d_X12_readTable_13 : decode J_X12_readTable.2.1 13 = .ok (.bipush 101, 2) := by decide +kernel
theorem d_X12_readTable_15 : decode J_X12_readTable.2.1 15 = .ok (.if_icmp .eq 5, 3) := by decide +kernel
theorem d_X12_readTable_18 : decode J_X12_readTable.2.1 18 = .ok (.iconst 0, 1) := by decide +kernel
theorem d_X12_readTable_19 : decode J_X12_readTable.2.1 19 = .ok (.ireturn, 1) := by decide +kernel
theorem d_X12_readTable_20 : decode J_X12_readTable.2.1 20 = .ok (.aload_n 0, 1) := by decide +kernel
theorem d_X12_readTable_21 : decode J_X12_readTable.2.1 21 = .ok (.iconst 1, 1) := by decide +kernel
theorem d_X12_readTable_22 : decode J_X12_readTable.2.1 22 = .ok (.invokevirtual 183, 3) := by decide +kernel
theorem d_X12_readTable_25 : decode J_X12_readTable.2.1 25 = .ok (.bipush 48, 2) := by decide +kernel
theorem d_X12_readTable_27 : decode J_X12_readTable.2.1 27 = .ok (.isub, 1) := by decide +kernel
theorem d_X12_readTable_28 : decode J_X12_readTable.2.1 28 = .ok (.istore_n 2, 1) := by decide +kernel
theorem d_X12_readTable_29 : decode J_X12_readTable.2.1 29 = .ok (.iload_n 2, 1) := by decide +kernel
theorem d_X12_readTable_30 : decode J_X12_readTable.2.1 30 = .ok (.i2l, 1) := by decide +kernel
theorem d_X12_readTable_31 : decode J_X12_readTable.2.1 31 = .ok (.lconst 0, 1) := by decide +kernel
theorem d_X12_readTable_32 : decode J_X12_readTable.2.1 32 = .ok (.iload_n 1, 1) := by decide +kernel
theorem d_X12_readTable_33 : decode J_X12_readTable.2.1 33 = .ok (.bipush 98, 2) := by decide +kernel
theorem d_X12_readTable_35 : decode J_X12_readTable.2.1 35 = .ok (.if_icmp .ne 9, 3) := by decide +kernel
theorem d_X12_readTable_38 : decode J_X12_readTable.2.1 38 = .ok (.ldc2_w 152, 3) := by decide +kernel
theorem d_X12_readTable_41 : decode J_X12_readTable.2.1 41 = .ok (.goto 10, 3) := by decide +kernel
theorem d_X12_readTable_44 : decode J_X12_readTable.2.1 44 = .ok (.aload_n 0, 1) := by decide +kernel
theorem d_X12_readTable_45 : decode J_X12_readTable.2.1 45 = .ok (.getfield 154, 3) := by decide +kernel
theorem d_X12_readTable_48 : decode J_X12_readTable.2.1 48 = .ok (.iconst 1, 1) := by decide +kernel
theorem d_X12_readTable_49 : decode J_X12_readTable.2.1 49 = .ok (.isub, 1) := by decide +kernel
theorem d_X12_readTable_50 : decode J_X12_readTable.2.1 50 = .ok (.i2l, 1) := by decide +kernel
theorem d_X12_readTable_51 : decode J_X12_readTable.2.1 51 = .ok (.invokestatic 145, 3) := by decide +kernel
theorem d_X12_readTable_54 : decode J_X12_readTable.2.1 54 = .ok (.ifCond .ne 5, 3) := by decide +kernel
theorem d_X12_readTable_57 : decode J_X12_readTable.2.1 57 = .ok (.iconst 1, 1) := by decide +kernel
theorem d_X12_readTable_58 : decode J_X12_readTable.2.1 58 = .ok (.ireturn, 1) := by decide +kernel
theorem d_X12_readTable_59 : decode J_X12_readTable.2.1 59 = .ok (.aload_n 0, 1) := by decide +kernel
theorem d_X12_readTable_60 : decode J_X12_readTable.2.1 60 = .ok (.iconst 2, 1) := by decide +kernel
theorem d_X12_readTable_61 : decode J_X12_readTable.2.1 61 = .ok (.invokevirtual 183, 3) := by decide +kernel
theorem d_X12_readTable_64 : decode J_X12_readTable.2.1 64 = .ok (.bipush 58, 2) := by decide +kernel
theorem d_X12_readTable_66 : decode J_X12_readTable.2.1 66 = .ok (.if_icmp .eq 5, 3) := by decide +kernel
theorem d_X12_readTable_69 : decode J_X12_readTable.2.1 69 = .ok (.iconst 2, 1) := by decide +kernel
theorem d_X12_readTable_70 : decode J_X12_readTable.2.1 70 = .ok (.ireturn, 1) := by decide +kernel
theorem d_X12_readTable_71 : decode J_X12_readTable.2.1 71 = .ok (.aload_n 0, 1) := by decide +kernel
theorem d_X12_readTable_72 : decode J_X12_readTable.2.1 72 = .ok (.iconst 3, 1) := by decide +kernel
theorem d_X12_readTable_73 : decode J_X12_readTable.2.1 73 = .ok (.iload_n 1, 1) := by decide +kernel
theorem d_X12_readTable_74 : decode J_X12_readTable.2.1 74 = .ok (.bipush 98, 2) := by decide +kernel
theorem d_X12_readTable_76 : decode J_X12_readTable.2.1 76 = .ok (.if_icmp .ne 7, 3) := by decide +kernel
theorem d_X12_readTable_79 : decode J_X12_readTable.2.1 79 = .ok (.iconst 1, 1) := by decide +kernel
theorem d_X12_readTable_80 : decode J_X12_readTable.2.1 80 = .ok (.goto 4, 3) := by decide +kernel
theorem d_X12_readTable_83 : decode J_X12_readTable.2.1 83 = .ok (.iconst 0, 1) := by decide +kernel
theorem d_X12_readTable_84 : decode J_X12_readTable.2.1 84 = .ok (.invokevirtual 197, 3) := by decide +kernel
theorem d_X12_readTable_87 : decode J_X12_readTable.2.1 87 = .ok (.istore_n 3, 1) := by decide +kernel
theorem d_X12_readTable_88 : decode J_X12_readTable.2.1 88 = .ok (.iload_n 3, 1) := by decide +kernel
theorem d_X12_readTable_89 : decode J_X12_readTable.2.1 89 = .ok (.ifCond .lt 5, 3) := by decide +kernel
theorem d_X12_readTable_92 : decode J_X12_readTable.2.1 92 = .ok (.iload_n 3, 1) := by decide +kernel
theorem d_X12_readTable_93 : decode J_X12_readTable.2.1 93 = .ok (.ireturn, 1) := by decide +kernel
theorem d_X12_readTable_94 : decode J_X12_readTable.2.1 94 = .ok (.iload_n 1, 1) := by decide +kernel
theorem d_X12_readTable_95 : decode J_X12_readTable.2.1 95 = .ok (.bipush 98, 2) := by decide +kernel
theorem d_X12_readTable_97 : decode J_X12_readTable.2.1 97 = .ok (.if_icmp .ne 7, 3) := by decide +kernel
theorem d_X12_readTable_100 : decode J_X12_readTable.2.1 100 = .ok (.iload_n 2, 1) := by decide +kernel
theorem d_X12_readTable_101 : decode J_X12_readTable.2.1 101 = .ok (.goto 6, 3) := by decide +kernel
theorem d_X12_readTable_104 : decode J_X12_readTable.2.1 104 = .ok (.iconst 3, 1) := by decide +kernel
theorem d_X12_readTable_105 : decode J_X12_readTable.2.1 105 = .ok (.iload_n 2, 1) := by decide +kernel
theorem d_X12_readTable_106 : decode J_X12_readTable.2.1 106 = .ok (.iadd, 1) := by decide +kernel
theorem d_X12_readTable_107 : decode J_X12_readTable.2.1 107 = .ok (.istore 4, 2) := by decide +kernel
theorem d_X12_readTable_109 : decode J_X12_readTable.2.1 109 = .ok (.aload_n 0, 1) := by decide +kernel
theorem d_X12_readTable_110 : decode J_X12_readTable.2.1 110 = .ok (.getfield 40, 3) := by decide +kernel
theorem d_X12_readTable_113 : decode J_X12_readTable.2.1 113 = .ok (.iload 4, 2) := by decide +kernel
theorem d_X12_readTable_115 : decode J_X12_readTable.2.1 115 = .ok (.aload_n 0, 1) := by decide +kernel
theorem d_X12_readTable_116 : decode J_X12_readTable.2.1 116 = .ok (.getfield 191, 3) := by decide +kernel
theorem d_X12_readTable_119 : decode J_X12_readTable.2.1 119 = .ok (.iastore, 1) := by decide +kernel
theorem d_X12_readTable_120 : decode J_X12_readTable.2.1 120 = .ok (.iconst 0, 1) := by decide +kernel
theorem d_X12_readTable_121 : decode J_X12_readTable.2.1 121 = .ok (.istore 5, 2) := by decide +kernel
theorem d_X12_readTable_123 : decode J_X12_readTable.2.1 123 = .ok (.iload 5, 2) := by decide +kernel
theorem d_X12_readTable_125 : decode J_X12_readTable.2.1 125 = .ok (.aload_n 0, 1) := by decide +kernel
theorem d_X12_readTable_126 : decode J_X12_readTable.2.1 126 = .ok (.getfield 191, 3) := by decide +kernel
theorem d_X12_readTable_129 : decode J_X12_readTable.2.1 129 = .ok (.if_icmp .ge 29, 3) := by decide +kernel
theorem d_X12_readTable_132 : decode J_X12_readTable.2.1 132 = .ok (.aload_n 0, 1) := by decide +kernel
theorem d_X12_readTable_133 : decode J_X12_readTable.2.1 133 = .ok (.getfield 43, 3) := by decide +kernel
theorem d_X12_readTable_136 : decode J_X12_readTable.2.1 136 = .ok (.bipush 13, 2) := by decide +kernel
theorem d_X12_readTable_138 : decode J_X12_readTable.2.1 138 = .ok (.iload 4, 2) := by decide +kernel
theorem d_X12_readTable_140 : decode J_X12_readTable.2.1 140 = .ok (.imul, 1) := by decide +kernel
theorem d_X12_readTable_141 : decode J_X12_readTable.2.1 141 = .ok (.iload 5, 2) := by decide +kernel
theorem d_X12_readTable_143 : decode J_X12_readTable.2.1 143 = .ok (.iadd, 1) := by decide +kernel
theorem d_X12_readTable_144 : decode J_X12_readTable.2.1 144 = .ok (.aload_n 0, 1) := by decide +kernel
theorem d_X12_readTable_145 : decode J_X12_readTable.2.1 145 = .ok (.getfield 46, 3) := by decide +kernel
theorem d_X12_readTable_148 : decode J_X12_readTable.2.1 148 = .ok (.iload 5, 2) := by decide +kernel
theorem d_X12_readTable_150 : decode J_X12_readTable.2.1 150 = .ok (.iaload, 1) := by decide +kernel
theorem d_X12_readTable_151 : decode J_X12_readTable.2.1 151 = .ok (.iastore, 1) := by decide +kernel
theorem d_X12_readTable_152 : decode J_X12_readTable.2.1 152 = .ok (.iinc 5 1, 3) := by decide +kernel
theorem d_X12_readTable_155 : decode J_X12_readTable.2.1 155 = .ok (.goto (-32), 3) := by decide +kernel
theorem d_X12_readTable_158 : decode J_X12_readTable.2.1 158 = .ok (.iconst (-1), 1) := by decide +kernel
theorem d_X12_readTable_159 : decode J_X12_readTable.2.1 159 = .ok (.ireturn, 1) := by decide +kernel
def f_X12_readTable_123 (N : Nat) (K : oK)  : Nat → Int32 → Int32 → oM → Option (Int32 × oM)
  | 0, _, _, _ => none
  | n + 1, p4, p5, M => (fun r123 => (if (M.1 59 19) ≤ p5 then some ((-1), M) else oIx (p5) 13 (oIx ((((13 : Int32) * p4) + p5)) 117 ((r123 p4 (p5 + 1) (oUp M 71 ((((13 : Int32) * p4) + p5) : Int32).toNatClampNeg (M.1 72 (p5 : Int32).toNatClampNeg))))))) (f_X12_readTable_123 N K  n)
set_option maxRecDepth 20000 in
theorem v_X12_readTable_123_L {X : oX} {d N : Nat} {K : oK}  (hd : 4 ≤ d) (hK : oSR K)  : ∀ (n : Nat) (p4 : Int32) (p5 : Int32) (M : oM) (v : Int32) (M' : oM)  , f_X12_readTable_123 N K  n p4 p5 M = some (v, M') → oEv X d J_X12_readTable 123 [some (.ref 59), none, none, none, some (.int p4), some (.int p5)] [] K M (some (.int v)) K M' := by
  intro n
  induction n with
  | zero =>
    intro p4 p5 M v M'   h
    cases h
  | succ n hr123 =>
    intro p4 p5 M v M'   h
    refine oe_iload (pc := 123) d_X12_readTable_123 rfl ?_
    refine oe_aload_n (pc := 125) d_X12_readTable_125 rfl ?_
    refine oe_getf (pc := 126) d_X12_readTable_126 fl_X12_191 ock12 (k := 19) (Nat.le_of_ble_eq_true rfl) rfl (oLt hK (a := 59) (Nat.le_of_ble_eq_true rfl)) (oSho hK (a := 59) (Nat.le_of_ble_eq_true rfl) rfl) ?_
    refine oe_icmp_ge (pc := 129) (tgt := 158) d_X12_readTable_129 (by decide) (fun c23 => ?_) (fun c23 => ?_)
    · replace h := (if_pos c23).symm.trans h
      refine oe_iconst (pc := 158) (v := (-1)) d_X12_readTable_158 rfl ?_
      obtain ⟨rfl, rfl⟩ := oRes h
      exact oe_iret (pc := 159) d_X12_readTable_159 ⟨_, rfl, rfl⟩
    · replace h := (if_neg c23).symm.trans h
      refine oe_aload_n (pc := 132) d_X12_readTable_132 rfl ?_
      refine oe_getr (pc := 133) d_X12_readTable_133 fl_X12_43 ock12 (k := 17) (b := 71) (Nat.le_of_ble_eq_true rfl) (by decide) (oLt hK (a := 59) (Nat.le_of_ble_eq_true rfl)) (oSho hK (a := 59) (Nat.le_of_ble_eq_true rfl) rfl) (oRfK hK rfl) ?_
      refine oe_bipush (pc := 136) (v := 13) d_X12_readTable_136 rfl ?_
      refine oe_iload (pc := 138) d_X12_readTable_138 rfl ?_
      refine oe_imul (pc := 140) d_X12_readTable_140 ?_
      refine oe_iload (pc := 141) d_X12_readTable_141 rfl ?_
      refine oe_iadd (pc := 143) d_X12_readTable_143 ?_
      refine oe_aload_n (pc := 144) d_X12_readTable_144 rfl ?_
      refine oe_getr (pc := 145) d_X12_readTable_145 fl_X12_46 ock12 (k := 18) (b := 72) (Nat.le_of_ble_eq_true rfl) (by decide) (oLt hK (a := 59) (Nat.le_of_ble_eq_true rfl)) (oSho hK (a := 59) (Nat.le_of_ble_eq_true rfl) rfl) (oRfK hK rfl) ?_
      refine oe_iload (pc := 148) d_X12_readTable_148 rfl ?_
      obtain ⟨i24, h⟩ := oIx_some h
      refine oe_iald (pc := 150) d_X12_readTable_150 (oLt hK (a := 72) (Nat.le_of_ble_eq_true rfl)) (oSha hK (a := 72) (Nat.le_of_ble_eq_true rfl) rfl) i24 ?_
      obtain ⟨i25, h⟩ := oIx_some h
      refine oe_iast (pc := 151) d_X12_readTable_151 (oLt hK (a := 71) (Nat.le_of_ble_eq_true rfl)) (oSha hK (a := 71) (Nat.le_of_ble_eq_true rfl) rfl) i25 ?_
      refine oe_iinc (pc := 152) (v := (p5 + 1)) (L2 := [_, _, _, _, _, _]) d_X12_readTable_152 rfl rfl rfl (Nat.le_of_ble_eq_true rfl) rfl ?_
      refine oe_goto (pc := 155) (tgt := 123) d_X12_readTable_155 (by decide) ?_
      exact hr123 _ _ _ _ _ h
theorem v_X12_readTable_123 {X : oX} {d N : Nat} {K : oK}  {p4 : Int32} {p5 : Int32} {M : oM} {v : Int32} {M' : oM}  (hd : 4 ≤ d) (hK : oSR K)   (h : f_X12_readTable_123 N K  N p4 p5 M = some (v, M')) : oEv X d J_X12_readTable 123 [some (.ref 59), none, none, none, some (.int p4), some (.int p5)] [] K M (some (.int v)) K M' := v_X12_readTable_123_L hd hK  N p4 p5 M v M'   h
def f_X12_readTable_107 (N : Nat) (K : oK)  (s0 : Int32) (M : oM) : Option (Int32 × oM) :=
  oIx (s0) 9 ((f_X12_readTable_123 N K  N s0 0 (oUp M 70 (s0 : Int32).toNatClampNeg (M.1 59 19))))
set_option maxRecDepth 20000 in
theorem v_X12_readTable_107 {X : oX} {d N : Nat} {K : oK}  {s0 : Int32} {M : oM} {v : Int32} {M' : oM}  (hd : 4 ≤ d) (hK : oSR K)   (h : f_X12_readTable_107 N K  s0 M = some (v, M')) : oEv X d J_X12_readTable 107 [some (.ref 59), none, none, none, none, none] [(.int s0)] K M (some (.int v)) K M' := by
  unfold f_X12_readTable_107 at h
  refine oe_istore (pc := 107) (L2 := [_, _, _, _, _, _]) d_X12_readTable_107 rfl (Nat.le_of_ble_eq_true rfl) rfl ?_
  refine oe_aload_n (pc := 109) d_X12_readTable_109 rfl ?_
  refine oe_getr (pc := 110) d_X12_readTable_110 fl_X12_40 ock12 (k := 16) (b := 70) (Nat.le_of_ble_eq_true rfl) (by decide) (oLt hK (a := 59) (Nat.le_of_ble_eq_true rfl)) (oSho hK (a := 59) (Nat.le_of_ble_eq_true rfl) rfl) (oRfK hK rfl) ?_
  refine oe_iload (pc := 113) d_X12_readTable_113 rfl ?_
  refine oe_aload_n (pc := 115) d_X12_readTable_115 rfl ?_
  refine oe_getf (pc := 116) d_X12_readTable_116 fl_X12_191 ock12 (k := 19) (Nat.le_of_ble_eq_true rfl) rfl (oLt hK (a := 59) (Nat.le_of_ble_eq_true rfl)) (oSho hK (a := 59) (Nat.le_of_ble_eq_true rfl) rfl) ?_
  obtain ⟨i22, h⟩ := oIx_some h
  refine oe_iast (pc := 119) d_X12_readTable_119 (oLt hK (a := 70) (Nat.le_of_ble_eq_true rfl)) (oSha hK (a := 70) (Nat.le_of_ble_eq_true rfl) rfl) i22 ?_
  refine oe_iconst (pc := 120) (v := 0) d_X12_readTable_120 rfl ?_
  refine oe_istore (pc := 121) (L2 := [_, _, _, _, _, _]) d_X12_readTable_121 rfl (Nat.le_of_ble_eq_true rfl) rfl ?_
  exact v_X12_readTable_123 hd hK   h
def f_X12_readTable_84 (N : Nat) (K : oK)  (p1 : Int32) (p2 : Int32) (s0 : Int32) (s1 : Int32) (M : oM) : Option (Int32 × oM) :=
  oB2 (f_X12_readNumbers N K s1 s0 M) (fun v17 M18 => (if v17 < 0 then (if p1 = 98 then (f_X12_readTable_107 N K  p2 M18) else (f_X12_readTable_107 N K  ((3 : Int32) + p2) M18)) else some (v17, M18)))
set_option maxRecDepth 20000 in
theorem v_X12_readTable_84 {X : oX} {d N : Nat} {K : oK}  {p1 : Int32} {p2 : Int32} {s0 : Int32} {s1 : Int32} {M : oM} {v : Int32} {M' : oM}  (hd : 4 ≤ d) (hK : oSR K)   (h : f_X12_readTable_84 N K  p1 p2 s0 s1 M = some (v, M')) : oEv X d J_X12_readTable 84 [some (.ref 59), some (.int p1), some (.int p2), none, none, none] [(.int s0), (.int s1), (.ref 59)] K M (some (.int v)) K M' := by
  unfold f_X12_readTable_84 at h
  obtain ⟨v17, M18, q19, h⟩ := oB2_some h
  refine oe_callV (pc := 84) (ci := 12) d_X12_readTable_84 (v_X12_readNumbers hK  q19) (by omega) ml_X12_197 jJ_X12_readNumbers rfl rfl (oLt hK (a := 59) (Nat.le_of_ble_eq_true rfl)) (oSho hK (a := 59) (Nat.le_of_ble_eq_true rfl) rfl) ock12 rfl (Nat.le_of_ble_eq_true rfl) ⟨Nat.le_refl _, Nat.le_refl _⟩ ⟨Nat.le_refl _, Nat.le_refl _⟩ ?_
  refine oe_istore_n (pc := 87) (L2 := [_, _, _, _, _, _]) d_X12_readTable_87 rfl rfl (Nat.le_of_ble_eq_true rfl) rfl ?_
  refine oe_iload_n (pc := 88) d_X12_readTable_88 rfl ?_
  refine oe_if_lt (pc := 89) (tgt := 94) d_X12_readTable_89 (by decide) (fun c20 => ?_) (fun c20 => ?_)
  · replace h := (if_pos c20).symm.trans h
    refine oe_iload_n (pc := 94) d_X12_readTable_94 rfl ?_
    refine oe_bipush (pc := 95) (v := 98) d_X12_readTable_95 rfl ?_
    refine oe_icmp_ne (pc := 97) (tgt := 104) d_X12_readTable_97 (by decide) (fun c21 => ?_) (fun c21 => ?_)
    · replace h := (if_neg c21).symm.trans h
      refine oe_iconst (pc := 104) (v := 3) d_X12_readTable_104 rfl ?_
      refine oe_iload_n (pc := 105) d_X12_readTable_105 rfl ?_
      refine oe_iadd (pc := 106) d_X12_readTable_106 ?_
      refine oEv.fg [true, false, false, false, false, false] ?_
      exact v_X12_readTable_107 hd hK   h
    · replace h := (if_pos c21).symm.trans h
      refine oe_iload_n (pc := 100) d_X12_readTable_100 rfl ?_
      refine oe_goto (pc := 101) (tgt := 107) d_X12_readTable_101 (by decide) ?_
      refine oEv.fg [true, false, false, false, false, false] ?_
      exact v_X12_readTable_107 hd hK   h
  · replace h := (if_neg c20).symm.trans h
    refine oe_iload_n (pc := 92) d_X12_readTable_92 rfl ?_
    obtain ⟨rfl, rfl⟩ := oRes h
    exact oe_iret (pc := 93) d_X12_readTable_93 ⟨_, rfl, rfl⟩
def f_X12_readTable_51 (N : Nat) (K : oK)  (p1 : Int32) (p2 : Int32) (s0 : Int64) (s1 : Int64) (s2 : Int64) (M : oM) : Option (Int32 × oM) :=
  oB2 (f_X12_within N K s2 s1 s0 M) (fun v9 M10 => cond v9 (oB2 (f_X12_byteAt N K (2 : Int32) M10) (fun v12 M13 => (if v12 = 58 then (if p1 = 98 then (f_X12_readTable_84 N K  p1 p2 1 3 M13) else (f_X12_readTable_84 N K  p1 p2 0 3 M13)) else some (2, M13)))) (some (1, M10)))
set_option maxRecDepth 20000 in
theorem v_X12_readTable_51 {X : oX} {d N : Nat} {K : oK}  {p1 : Int32} {p2 : Int32} {s0 : Int64} {s1 : Int64} {s2 : Int64} {M : oM} {v : Int32} {M' : oM}  (hd : 4 ≤ d) (hK : oSR K)   (h : f_X12_readTable_51 N K  p1 p2 s0 s1 s2 M = some (v, M')) : oEv X d J_X12_readTable 51 [some (.ref 59), some (.int p1), some (.int p2), none, none, none] [(.long s0), (.long s1), (.long s2)] K M (some (.int v)) K M' := by
  unfold f_X12_readTable_51 at h
  obtain ⟨v9, M10, q11, h⟩ := oB2_some h
  cases v9 with
  | true =>
    replace h := oCt h
    refine oe_callS (pc := 51) d_X12_readTable_51 (v_X12_within hK  q11) (by omega) ml_X12_145 jJ_X12_within rfl rfl (Nat.le_of_ble_eq_true rfl) ⟨Nat.le_refl _, Nat.le_refl _⟩ ⟨Nat.le_refl _, Nat.le_refl _⟩ ?_
    refine oe_if_ne (pc := 54) (tgt := 59) d_X12_readTable_54 (by decide) (fun _ => ?_) (fun c => absurd c (by decide))
    refine oe_aload_n (pc := 59) d_X12_readTable_59 rfl ?_
    refine oe_iconst (pc := 60) (v := 2) d_X12_readTable_60 rfl ?_
    obtain ⟨v12, M13, q14, h⟩ := oB2_some h
    refine oe_callV (pc := 61) (ci := 12) d_X12_readTable_61 (v_X12_byteAt hK  q14) (by omega) ml_X12_183 jJ_X12_byteAt rfl rfl (oLt hK (a := 59) (Nat.le_of_ble_eq_true rfl)) (oSho hK (a := 59) (Nat.le_of_ble_eq_true rfl) rfl) ock12 rfl (Nat.le_of_ble_eq_true rfl) ⟨Nat.le_refl _, Nat.le_refl _⟩ ⟨Nat.le_refl _, Nat.le_refl _⟩ ?_
    refine oe_bipush (pc := 64) (v := 58) d_X12_readTable_64 rfl ?_
    refine oe_icmp_eq (pc := 66) (tgt := 71) d_X12_readTable_66 (by decide) (fun c15 => ?_) (fun c15 => ?_)
    · replace h := (if_pos c15).symm.trans h
      refine oe_aload_n (pc := 71) d_X12_readTable_71 rfl ?_
      refine oe_iconst (pc := 72) (v := 3) d_X12_readTable_72 rfl ?_
      refine oe_iload_n (pc := 73) d_X12_readTable_73 rfl ?_
      refine oe_bipush (pc := 74) (v := 98) d_X12_readTable_74 rfl ?_
      refine oe_icmp_ne (pc := 76) (tgt := 83) d_X12_readTable_76 (by decide) (fun c16 => ?_) (fun c16 => ?_)
      · replace h := (if_neg c16).symm.trans h
        refine oe_iconst (pc := 83) (v := 0) d_X12_readTable_83 rfl ?_
        exact v_X12_readTable_84 hd hK   h
      · replace h := (if_pos c16).symm.trans h
        refine oe_iconst (pc := 79) (v := 1) d_X12_readTable_79 rfl ?_
        refine oe_goto (pc := 80) (tgt := 84) d_X12_readTable_80 (by decide) ?_
        exact v_X12_readTable_84 hd hK   h
    · replace h := (if_neg c15).symm.trans h
      refine oe_iconst (pc := 69) (v := 2) d_X12_readTable_69 rfl ?_
      obtain ⟨rfl, rfl⟩ := oRes h
      exact oe_iret (pc := 70) d_X12_readTable_70 ⟨_, rfl, rfl⟩
  | false =>
    replace h := oCf h
    refine oe_callS (pc := 51) d_X12_readTable_51 (v_X12_within hK  q11) (by omega) ml_X12_145 jJ_X12_within rfl rfl (Nat.le_of_ble_eq_true rfl) ⟨Nat.le_refl _, Nat.le_refl _⟩ ⟨Nat.le_refl _, Nat.le_refl _⟩ ?_
    refine oe_if_ne (pc := 54) (tgt := 59) d_X12_readTable_54 (by decide) (fun c => absurd (by decide) c) (fun _ => ?_)
    refine oe_iconst (pc := 57) (v := 1) d_X12_readTable_57 rfl ?_
    obtain ⟨rfl, rfl⟩ := oRes h
    exact oe_iret (pc := 58) d_X12_readTable_58 ⟨_, rfl, rfl⟩
def f_X12_readTable_20 (N : Nat) (K : oK)  (p1 : Int32) (M : oM) : Option (Int32 × oM) :=
  oB2 (f_X12_byteAt N K (1 : Int32) M) (fun v5 M6 => (if p1 = 98 then (f_X12_readTable_51 N K  p1 (v5 - 48) 2 0 (((v5 - 48) : Int32).toInt64) M6) else (f_X12_readTable_51 N K  p1 (v5 - 48) ((((M6.1 59 11) - 1) : Int32).toInt64) 0 (((v5 - 48) : Int32).toInt64) M6)))
set_option maxRecDepth 20000 in
theorem v_X12_readTable_20 {X : oX} {d N : Nat} {K : oK}  {p1 : Int32} {M : oM} {v : Int32} {M' : oM}  (hd : 4 ≤ d) (hK : oSR K)   (h : f_X12_readTable_20 N K  p1 M = some (v, M')) : oEv X d J_X12_readTable 20 [some (.ref 59), some (.int p1), none, none, none, none] [] K M (some (.int v)) K M' := by
  unfold f_X12_readTable_20 at h
  refine oe_aload_n (pc := 20) d_X12_readTable_20 rfl ?_
  refine oe_iconst (pc := 21) (v := 1) d_X12_readTable_21 rfl ?_
  obtain ⟨v5, M6, q7, h⟩ := oB2_some h
  refine oe_callV (pc := 22) (ci := 12) d_X12_readTable_22 (v_X12_byteAt hK  q7) (by omega) ml_X12_183 jJ_X12_byteAt rfl rfl (oLt hK (a := 59) (Nat.le_of_ble_eq_true rfl)) (oSho hK (a := 59) (Nat.le_of_ble_eq_true rfl) rfl) ock12 rfl (Nat.le_of_ble_eq_true rfl) ⟨Nat.le_refl _, Nat.le_refl _⟩ ⟨Nat.le_refl _, Nat.le_refl _⟩ ?_
  refine oe_bipush (pc := 25) (v := 48) d_X12_readTable_25 rfl ?_
  refine oe_isub (pc := 27) d_X12_readTable_27 ?_
  refine oe_istore_n (pc := 28) (L2 := [_, _, _, _, _, _]) d_X12_readTable_28 rfl rfl (Nat.le_of_ble_eq_true rfl) rfl ?_
  refine oe_iload_n (pc := 29) d_X12_readTable_29 rfl ?_
  refine oe_i2l (pc := 30) d_X12_readTable_30 ?_
  refine oe_lconst (pc := 31) (v := 0) d_X12_readTable_31 rfl ?_
  refine oe_iload_n (pc := 32) d_X12_readTable_32 rfl ?_
  refine oe_bipush (pc := 33) (v := 98) d_X12_readTable_33 rfl ?_
  refine oe_icmp_ne (pc := 35) (tgt := 44) d_X12_readTable_35 (by decide) (fun c8 => ?_) (fun c8 => ?_)
  · replace h := (if_neg c8).symm.trans h
    refine oe_aload_n (pc := 44) d_X12_readTable_44 rfl ?_
    refine oe_getf (pc := 45) d_X12_readTable_45 fl_X12_154 ock12 (k := 11) (Nat.le_of_ble_eq_true rfl) rfl (oLt hK (a := 59) (Nat.le_of_ble_eq_true rfl)) (oSho hK (a := 59) (Nat.le_of_ble_eq_true rfl) rfl) ?_
    refine oe_iconst (pc := 48) (v := 1) d_X12_readTable_48 rfl ?_
    refine oe_isub (pc := 49) d_X12_readTable_49 ?_
    refine oe_i2l (pc := 50) d_X12_readTable_50 ?_
    exact v_X12_readTable_51 hd hK   h
  · replace h := (if_pos c8).symm.trans h
    refine oe_ldc2 (pc := 38) d_X12_readTable_38 co_X12_152 ?_
    refine oe_goto (pc := 41) (tgt := 51) d_X12_readTable_41 (by decide) ?_
    exact v_X12_readTable_51 hd hK   h
def f_X12_readTable (N : Nat) (K : oK)  (M : oM) : Option (Int32 × oM) :=
  oB2 (f_X12_byteAt N K (0 : Int32) M) (fun v1 M2 => (if v1 = 98 then (f_X12_readTable_20 N K  v1 M2) else (if v1 = 101 then (f_X12_readTable_20 N K  v1 M2) else some (0, M2))))
set_option maxRecDepth 20000 in
theorem v_X12_readTable {X : oX} {N : Nat} {K : oK}  {M : oM} {v : Int32} {M' : oM} (hK : oSR K)  (h : f_X12_readTable N K  M = some (v, M')) : oMet X 4 J_X12_readTable [(.ref 59)] K M (some (.int v)) K M' := by
  unfold f_X12_readTable at h
  refine oMet_of (L := [some (.ref 59), none, none, none, none, none]) jJ_X12_readTable.1 rfl (Nat.le_of_ble_eq_true rfl) rfl (Nat.le_refl _) (Nat.le_refl _) ?_
  have hd : 4 ≤ 4 := Nat.le_refl _
  refine oe_aload_n (pc := 0) d_X12_readTable_0 rfl ?_
  refine oe_iconst (pc := 1) (v := 0) d_X12_readTable_1 rfl ?_
  obtain ⟨v1, M2, q3, h⟩ := oB2_some h
  refine oe_callV (pc := 2) (ci := 12) d_X12_readTable_2 (v_X12_byteAt hK  q3) (by omega) ml_X12_183 jJ_X12_byteAt rfl rfl (oLt hK (a := 59) (Nat.le_of_ble_eq_true rfl)) (oSho hK (a := 59) (Nat.le_of_ble_eq_true rfl) rfl) ock12 rfl (Nat.le_of_ble_eq_true rfl) ⟨Nat.le_refl _, Nat.le_refl _⟩ ⟨Nat.le_refl _, Nat.le_refl _⟩ ?_
  refine oe_istore_n (pc := 5) (L2 := [_, _, _, _, _, _]) d_X12_readTable_5 rfl rfl (Nat.le_of_ble_eq_true rfl) rfl ?_
  refine oe_iload_n (pc := 6) d_X12_readTable_6 rfl ?_
  refine oe_bipush (pc := 7) (v := 98) d_X12_readTable_7 rfl ?_
  refine oe_icmp_eq (pc := 9) (tgt := 20) d_X12_readTable_9 (by decide) (fun c4 => ?_) (fun c4 => ?_)
  · replace h := (if_pos c4).symm.trans h
    exact v_X12_readTable_20 hd hK   h
  · replace h := (if_neg c4).symm.trans h
    refine oe_iload_n (pc := 12) d_X12_readTable_12 rfl ?_
    refine oe_bipush (pc := 13) (v := 101) d_X12_readTable_13 rfl ?_
    refine oe_icmp_eq (pc := 15) (tgt := 20) d_X12_readTable_15 (by decide) (fun c26 => ?_) (fun c26 => ?_)
    · replace h := (if_pos c26).symm.trans h
      exact v_X12_readTable_20 hd hK   h
    · replace h := (if_neg c26).symm.trans h
      refine oe_iconst (pc := 18) (v := 0) d_X12_readTable_18 rfl ?_
      obtain ⟨rfl, rfl⟩ := oRes h
      exact oe_iret (pc := 19) d_X12_readTable_19 ⟨_, rfl, rfl⟩
