/-! walked by program: X11_parts, X11_ofPart, X11_hoseOf, X11_of, X11_pressure, X11_isNeed, X11_flowWith, X11_flow, X11_judge, X11_bound, X11_most -/
theorem d_X11_parts_0 : decode J_X11_parts.2.1 0 = .ok (.aload_n 0, 1) := by decide +kernel
theorem d_X11_parts_1 : decode J_X11_parts.2.1 1 = .ok (.iload_n 1, 1) := by decide +kernel
theorem d_X11_parts_2 : decode J_X11_parts.2.1 2 = .ok (.invokevirtual 148, 3) := by decide +kernel
theorem d_X11_parts_5 : decode J_X11_parts.2.1 5 = .ok (.astore 5, 2) := by decide +kernel
theorem d_X11_parts_7 : decode J_X11_parts.2.1 7 = .ok (.aload_n 0, 1) := by decide +kernel
theorem d_X11_parts_8 : decode J_X11_parts.2.1 8 = .ok (.iload_n 2, 1) := by decide +kernel
theorem d_X11_parts_9 : decode J_X11_parts.2.1 9 = .ok (.invokevirtual 156, 3) := by decide +kernel
theorem d_X11_parts_12 : decode J_X11_parts.2.1 12 = .ok (.astore 6, 2) := by decide +kernel
theorem d_X11_parts_14 : decode J_X11_parts.2.1 14 = .ok (.aload 5, 2) := by decide +kernel
theorem d_X11_parts_16 : decode J_X11_parts.2.1 16 = .ok (.ifnull 19, 3) := by decide +kernel
theorem d_X11_parts_19 : decode J_X11_parts.2.1 19 = .ok (.aload 6, 2) := by decide +kernel
theorem d_X11_parts_21 : decode J_X11_parts.2.1 21 = .ok (.ifnull 14, 3) := by decide +kernel
theorem d_X11_parts_24 : decode J_X11_parts.2.1 24 = .ok (.iload 4, 2) := by decide +kernel
theorem d_X11_parts_26 : decode J_X11_parts.2.1 26 = .ok (.iconst 1, 1) := by decide +kernel
theorem d_X11_parts_27 : decode J_X11_parts.2.1 27 = .ok (.bipush 20, 2) := by decide +kernel
theorem d_X11_parts_29 : decode J_X11_parts.2.1 29 = .ok (.invokestatic 89, 3) := by decide +kernel
theorem d_X11_parts_32 : decode J_X11_parts.2.1 32 = .ok (.ifCond .ne 5, 3) := by decide +kernel
theorem d_X11_parts_35 : decode J_X11_parts.2.1 35 = .ok (.iconst (-1), 1) := by decide +kernel
theorem d_X11_parts_36 : decode J_X11_parts.2.1 36 = .ok (.ireturn, 1) := by decide +kernel
theorem d_X11_parts_37 : decode J_X11_parts.2.1 37 = .ok (.aload 6, 2) := by decide +kernel
theorem d_X11_parts_39 : decode J_X11_parts.2.1 39 = .ok (.getfield 160, 3) := by decide +kernel
theorem d_X11_parts_42 : decode J_X11_parts.2.1 42 = .ok (.iconst 1, 1) := by decide +kernel
theorem d_X11_parts_43 : decode J_X11_parts.2.1 43 = .ok (.if_icmp .eq 20, 3) := by decide +kernel
theorem d_X11_parts_46 : decode J_X11_parts.2.1 46 = .ok (.aload 6, 2) := by decide +kernel
theorem d_X11_parts_48 : decode J_X11_parts.2.1 48 = .ok (.getfield 160, 3) := by decide +kernel
theorem d_X11_parts_51 : decode J_X11_parts.2.1 51 = .ok (.iconst 2, 1) := by decide +kernel
theorem d_X11_parts_52 : decode J_X11_parts.2.1 52 = .ok (.if_icmp .ne 14, 3) := by decide +kernel
theorem d_X11_parts_55 : decode J_X11_parts.2.1 55 = .ok (.aload 6, 2) := by decide +kernel
theorem d_X11_parts_57 : decode J_X11_parts.2.1 57 = .ok (.getfield 163, 3) := by decide +kernel
theorem d_X11_parts_60 : decode J_X11_parts.2.1 60 = .ok (.ifCond .eq 6, 3) := by decide +kernel
theorem d_X11_parts_63 : decode J_X11_parts.2.1 63 = .ok (.bipush (-12), 2) := by decide +kernel
theorem d_X11_parts_65 : decode J_X11_parts.2.1 65 = .ok (.ireturn, 1) := by decide +kernel
theorem d_X11_parts_66 : decode J_X11_parts.2.1 66 = .ok (.aload 6, 2) := by decide +kernel
theorem d_X11_parts_68 : decode J_X11_parts.2.1 68 = .ok (.getfield 160, 3) := by decide +kernel
theorem d_X11_parts_71 : decode J_X11_parts.2.1 71 = .ok (.ifCond .ne 7, 3) := by decide +kernel
theorem d_X11_parts_74 : decode J_X11_parts.2.1 74 = .ok (.iconst 0, 1) := by decide +kernel
theorem d_X11_parts_75 : decode J_X11_parts.2.1 75 = .ok (.goto 14, 3) := by decide +kernel
theorem d_X11_parts_78 : decode J_X11_parts.2.1 78 = .ok (.aload_n 0, 1) := by decide +kernel
theorem d_X11_parts_79 : decode J_X11_parts.2.1 79 = .ok (.aload 5, 2) := by decide +kernel
theorem d_X11_parts_81 : decode J_X11_parts.2.1 81 = .ok (.aload 6, 2) := by decide +kernel
theorem d_X11_parts_83 : decode J_X11_parts.2.1 83 = .ok (.iload_n 3, 1) := by decide +kernel
theorem d_X11_parts_84 : decode J_X11_parts.2.1 84 = .ok (.iload 4, 2) := by decide +kernel
theorem d_X11_parts_86 : decode J_X11_parts.2.1 86 = .ok (.invokevirtual 166, 3) := by decide +kernel
theorem d_X11_parts_89 : decode J_X11_parts.2.1 89 = .ok (.ireturn, 1) := by decide +kernel
def f_X11_parts_66 (N : Nat) (K : oK)  (p3 : Int32) (p4 : Int32) (p5 : Nat) (p6 : Nat) (M : oM) : Option (Int32 × oM) :=
  (if (M.1 p6 1) = 0 then some (0, M) else oB2 (f_X11_addParts N K p5 p6 p3 p4 M) (fun v19 M20 => some (v19, M20)))
set_option maxRecDepth 20000 in
theorem v_X11_parts_66 {X : oX} {d N : Nat} {K : oK}  {p3 : Int32} {p4 : Int32} {p5 : Nat} {p6 : Nat} {M : oM} {v : Int32} {M' : oM}  (hd : 6 ≤ d) (hK : oSR K) (hh_p5 : oLS K p5) (hh_p6 : oSS K p6)  (h : f_X11_parts_66 N K  p3 p4 p5 p6 M = some (v, M')) : oEv X d J_X11_parts 66 [some (.ref 0), none, none, some (.int p3), some (.int p4), some (.ref p5), some (.ref p6)] [] K M (some (.int v)) K M' := by
  unfold f_X11_parts_66 at h
  refine oe_aload (pc := 66) d_X11_parts_66 rfl ?_
  refine oe_getf (pc := 68) d_X11_parts_68 fl_X11_160 ock9 (k := 1) (Nat.le_of_ble_eq_true rfl) rfl (oSSa hh_p6 (j := 0) (Nat.le_of_ble_eq_true rfl)) (oSSo hh_p6) ?_
  refine oe_if_ne (pc := 71) (tgt := 78) d_X11_parts_71 (by decide) (fun c18 => ?_) (fun c18 => ?_)
  · replace h := (if_neg c18).symm.trans h
    refine oe_aload_n (pc := 78) d_X11_parts_78 rfl ?_
    refine oe_aload (pc := 79) d_X11_parts_79 rfl ?_
    refine oe_aload (pc := 81) d_X11_parts_81 rfl ?_
    refine oe_iload_n (pc := 83) d_X11_parts_83 rfl ?_
    refine oe_iload (pc := 84) d_X11_parts_84 rfl ?_
    obtain ⟨v19, M20, q21, h⟩ := oB2_some h
    refine oe_callV (pc := 86) (ci := 11) d_X11_parts_86 (v_X11_addParts hK hh_p5 hh_p6 q21) (by omega) ml_X11_166 jJ_X11_addParts rfl rfl (oLt hK (a := 0) (Nat.le_of_ble_eq_true rfl)) (oSho hK (a := 0) (Nat.le_of_ble_eq_true rfl) rfl) ock11 rfl (Nat.le_of_ble_eq_true rfl) ⟨Nat.le_refl _, Nat.le_refl _⟩ ⟨Nat.le_refl _, Nat.le_refl _⟩ ?_
    obtain ⟨rfl, rfl⟩ := oRes h
    exact oe_iret (pc := 89) d_X11_parts_89 ⟨_, rfl, rfl⟩
  · replace h := (if_pos c18).symm.trans h
    refine oe_iconst (pc := 74) (v := 0) d_X11_parts_74 rfl ?_
    refine oe_goto (pc := 75) (tgt := 89) d_X11_parts_75 (by decide) ?_
    obtain ⟨rfl, rfl⟩ := oRes h
    exact oe_iret (pc := 89) d_X11_parts_89 ⟨_, rfl, rfl⟩
def f_X11_parts (N : Nat) (K : oK) (p1 : Int32) (p2 : Int32) (p3 : Int32) (p4 : Int32) (M : oM) : Option (Int32 × oM) :=
  oB2 (f_X11_layingAt N K p1 M) (fun v1 M2 => oCs v1 (oB2 (f_X11_shelfAt N K p2 M2) (fun v5 M6 => oCs v5 (some ((-1), M6)) (fun h8 => some ((-1), M6)))) (fun h4 => oB2 (f_X11_shelfAt N K p2 M2) (fun v9 M10 => oCs v9 (some ((-1), M10)) (fun h12 => oB2 (f_X11_within N K p4 (1 : Int32) (20 : Int32) M10) (fun v13 M14 => cond v13 ((if (M14.1 h12 1) = 1 then some ((-12), M14) else (if (M14.1 h12 1) = 2 then (if (M14.1 h12 3) = 0 then (f_X11_parts_66 N K  p3 p4 h4 h12 M14) else some ((-12), M14)) else (f_X11_parts_66 N K  p3 p4 h4 h12 M14)))) (some ((-1), M14)))))))
set_option maxRecDepth 20000 in
theorem v_X11_parts {X : oX} {N : Nat} {K : oK} {p1 : Int32} {p2 : Int32} {p3 : Int32} {p4 : Int32} {M : oM} {v : Int32} {M' : oM} (hK : oSR K)  (h : f_X11_parts N K p1 p2 p3 p4 M = some (v, M')) : oMet X 6 J_X11_parts [(.ref 0), (.int p1), (.int p2), (.int p3), (.int p4)] K M (some (.int v)) K M' := by
  unfold f_X11_parts at h
  refine oMet_of (L := [some (.ref 0), some (.int p1), some (.int p2), some (.int p3), some (.int p4), none, none]) jJ_X11_parts.1 rfl (Nat.le_of_ble_eq_true rfl) rfl (Nat.le_refl _) (Nat.le_refl _) ?_
  have hd : 6 ≤ 6 := Nat.le_refl _
  refine oe_aload_n (pc := 0) d_X11_parts_0 rfl ?_
  refine oe_iload_n (pc := 1) d_X11_parts_1 rfl ?_
  obtain ⟨v1, M2, q3, h⟩ := oB2_some h
  cases v1 with
  | none =>
    replace h := oCsN h
    refine oe_callV (pc := 2) (ci := 11) d_X11_parts_2 (v_X11_layingAt hK  q3) (by omega) ml_X11_148 jJ_X11_layingAt rfl rfl (oLt hK (a := 0) (Nat.le_of_ble_eq_true rfl)) (oSho hK (a := 0) (Nat.le_of_ble_eq_true rfl) rfl) ock11 rfl (Nat.le_of_ble_eq_true rfl) ⟨Nat.le_refl _, Nat.le_refl _⟩ ⟨Nat.le_refl _, Nat.le_refl _⟩ ?_
    refine oe_astoreN (pc := 5) (L2 := [_, _, _, _, _, _, _]) d_X11_parts_5 rfl (Nat.le_of_ble_eq_true rfl) rfl ?_
    refine oe_aload_n (pc := 7) d_X11_parts_7 rfl ?_
    refine oe_iload_n (pc := 8) d_X11_parts_8 rfl ?_
    obtain ⟨v5, M6, q7, h⟩ := oB2_some h
    cases v5 with
    | none =>
      replace h := oCsN h
      refine oe_callV (pc := 9) (ci := 11) d_X11_parts_9 (v_X11_shelfAt hK  q7) (by omega) ml_X11_156 jJ_X11_shelfAt rfl rfl (oLt hK (a := 0) (Nat.le_of_ble_eq_true rfl)) (oSho hK (a := 0) (Nat.le_of_ble_eq_true rfl) rfl) ock11 rfl (Nat.le_of_ble_eq_true rfl) ⟨Nat.le_refl _, Nat.le_refl _⟩ ⟨Nat.le_refl _, Nat.le_refl _⟩ ?_
      refine oe_astoreN (pc := 12) (L2 := [_, _, _, _, _, _, _]) d_X11_parts_12 rfl (Nat.le_of_ble_eq_true rfl) rfl ?_
      refine oe_aloadN (pc := 14) d_X11_parts_14 rfl ?_
      refine oe_ifnullN (pc := 16) (tgt := 35) d_X11_parts_16 (by decide) ?_
      refine oe_iconst (pc := 35) (v := (-1)) d_X11_parts_35 rfl ?_
      obtain ⟨rfl, rfl⟩ := oRes h
      exact oe_iret (pc := 36) d_X11_parts_36 ⟨_, rfl, rfl⟩
    | some h8 =>
      replace h := oCsS h
      have hh_h8 : oSS K h8 := o_X11_shelfAt_ok hK q7
      refine oe_callV (pc := 9) (ci := 11) d_X11_parts_9 (v_X11_shelfAt hK  q7) (by omega) ml_X11_156 jJ_X11_shelfAt rfl rfl (oLt hK (a := 0) (Nat.le_of_ble_eq_true rfl)) (oSho hK (a := 0) (Nat.le_of_ble_eq_true rfl) rfl) ock11 rfl (Nat.le_of_ble_eq_true rfl) ⟨Nat.le_refl _, Nat.le_refl _⟩ ⟨Nat.le_refl _, Nat.le_refl _⟩ ?_
      refine oe_astore (pc := 12) (L2 := [_, _, _, _, _, _, _]) d_X11_parts_12 rfl (Nat.le_of_ble_eq_true rfl) rfl ?_
      refine oe_aloadN (pc := 14) d_X11_parts_14 rfl ?_
      refine oe_ifnullN (pc := 16) (tgt := 35) d_X11_parts_16 (by decide) ?_
      refine oe_iconst (pc := 35) (v := (-1)) d_X11_parts_35 rfl ?_
      obtain ⟨rfl, rfl⟩ := oRes h
      exact oe_iret (pc := 36) d_X11_parts_36 ⟨_, rfl, rfl⟩
  | some h4 =>
    replace h := oCsS h
    have hh_h4 : oLS K h4 := o_X11_layingAt_ok hK q3
    refine oe_callV (pc := 2) (ci := 11) d_X11_parts_2 (v_X11_layingAt hK  q3) (by omega) ml_X11_148 jJ_X11_layingAt rfl rfl (oLt hK (a := 0) (Nat.le_of_ble_eq_true rfl)) (oSho hK (a := 0) (Nat.le_of_ble_eq_true rfl) rfl) ock11 rfl (Nat.le_of_ble_eq_true rfl) ⟨Nat.le_refl _, Nat.le_refl _⟩ ⟨Nat.le_refl _, Nat.le_refl _⟩ ?_
    refine oe_astore (pc := 5) (L2 := [_, _, _, _, _, _, _]) d_X11_parts_5 rfl (Nat.le_of_ble_eq_true rfl) rfl ?_
    refine oe_aload_n (pc := 7) d_X11_parts_7 rfl ?_
    refine oe_iload_n (pc := 8) d_X11_parts_8 rfl ?_
    obtain ⟨v9, M10, q11, h⟩ := oB2_some h
    cases v9 with
    | none =>
      replace h := oCsN h
      refine oe_callV (pc := 9) (ci := 11) d_X11_parts_9 (v_X11_shelfAt hK  q11) (by omega) ml_X11_156 jJ_X11_shelfAt rfl rfl (oLt hK (a := 0) (Nat.le_of_ble_eq_true rfl)) (oSho hK (a := 0) (Nat.le_of_ble_eq_true rfl) rfl) ock11 rfl (Nat.le_of_ble_eq_true rfl) ⟨Nat.le_refl _, Nat.le_refl _⟩ ⟨Nat.le_refl _, Nat.le_refl _⟩ ?_
      refine oe_astoreN (pc := 12) (L2 := [_, _, _, _, _, _, _]) d_X11_parts_12 rfl (Nat.le_of_ble_eq_true rfl) rfl ?_
      refine oe_aload (pc := 14) d_X11_parts_14 rfl ?_
      refine oe_ifnull (pc := 16) d_X11_parts_16 ?_
      refine oe_aloadN (pc := 19) d_X11_parts_19 rfl ?_
      refine oe_ifnullN (pc := 21) (tgt := 35) d_X11_parts_21 (by decide) ?_
      refine oe_iconst (pc := 35) (v := (-1)) d_X11_parts_35 rfl ?_
      obtain ⟨rfl, rfl⟩ := oRes h
      exact oe_iret (pc := 36) d_X11_parts_36 ⟨_, rfl, rfl⟩
    | some h12 =>
      replace h := oCsS h
      have hh_h12 : oSS K h12 := o_X11_shelfAt_ok hK q11
      refine oe_callV (pc := 9) (ci := 11) d_X11_parts_9 (v_X11_shelfAt hK  q11) (by omega) ml_X11_156 jJ_X11_shelfAt rfl rfl (oLt hK (a := 0) (Nat.le_of_ble_eq_true rfl)) (oSho hK (a := 0) (Nat.le_of_ble_eq_true rfl) rfl) ock11 rfl (Nat.le_of_ble_eq_true rfl) ⟨Nat.le_refl _, Nat.le_refl _⟩ ⟨Nat.le_refl _, Nat.le_refl _⟩ ?_
      refine oe_astore (pc := 12) (L2 := [_, _, _, _, _, _, _]) d_X11_parts_12 rfl (Nat.le_of_ble_eq_true rfl) rfl ?_
      refine oe_aload (pc := 14) d_X11_parts_14 rfl ?_
      refine oe_ifnull (pc := 16) d_X11_parts_16 ?_
      refine oe_aload (pc := 19) d_X11_parts_19 rfl ?_
      refine oe_ifnull (pc := 21) d_X11_parts_21 ?_
      refine oe_iload (pc := 24) d_X11_parts_24 rfl ?_
      refine oe_iconst (pc := 26) (v := 1) d_X11_parts_26 rfl ?_
      refine oe_bipush (pc := 27) (v := 20) d_X11_parts_27 rfl ?_
      obtain ⟨v13, M14, q15, h⟩ := oB2_some h
      cases v13 with
      | true =>
        replace h := oCt h
        refine oe_callS (pc := 29) d_X11_parts_29 (v_X11_within hK  q15) (by omega) ml_X11_89 jJ_X11_within rfl rfl (Nat.le_of_ble_eq_true rfl) ⟨Nat.le_refl _, Nat.le_refl _⟩ ⟨Nat.le_refl _, Nat.le_refl _⟩ ?_
        refine oe_if_ne (pc := 32) (tgt := 37) d_X11_parts_32 (by decide) (fun _ => ?_) (fun c => absurd c (by decide))
        refine oe_aload (pc := 37) d_X11_parts_37 rfl ?_
        refine oe_getf (pc := 39) d_X11_parts_39 fl_X11_160 ock9 (k := 1) (Nat.le_of_ble_eq_true rfl) rfl (oSSa hh_h12 (j := 0) (Nat.le_of_ble_eq_true rfl)) (oSSo hh_h12) ?_
        refine oe_iconst (pc := 42) (v := 1) d_X11_parts_42 rfl ?_
        refine oe_icmp_eq (pc := 43) (tgt := 63) d_X11_parts_43 (by decide) (fun c16 => ?_) (fun c16 => ?_)
        · replace h := (if_pos c16).symm.trans h
          refine oe_bipush (pc := 63) (v := (-12)) d_X11_parts_63 rfl ?_
          obtain ⟨rfl, rfl⟩ := oRes h
          exact oe_iret (pc := 65) d_X11_parts_65 ⟨_, rfl, rfl⟩
        · replace h := (if_neg c16).symm.trans h
          refine oe_aload (pc := 46) d_X11_parts_46 rfl ?_
          refine oe_getf (pc := 48) d_X11_parts_48 fl_X11_160 ock9 (k := 1) (Nat.le_of_ble_eq_true rfl) rfl (oSSa hh_h12 (j := 0) (Nat.le_of_ble_eq_true rfl)) (oSSo hh_h12) ?_
          refine oe_iconst (pc := 51) (v := 2) d_X11_parts_51 rfl ?_
          refine oe_icmp_ne (pc := 52) (tgt := 66) d_X11_parts_52 (by decide) (fun c17 => ?_) (fun c17 => ?_)
          · replace h := (if_neg c17).symm.trans h
            refine oEv.fg [true, false, false, true, true, true, true] ?_
            exact v_X11_parts_66 hd hK hh_h4 hh_h12  h
          · replace h := (if_pos c17).symm.trans h
            refine oe_aload (pc := 55) d_X11_parts_55 rfl ?_
            refine oe_getf (pc := 57) d_X11_parts_57 fl_X11_163 ock9 (k := 3) (Nat.le_of_ble_eq_true rfl) rfl (oSSa hh_h12 (j := 0) (Nat.le_of_ble_eq_true rfl)) (oSSo hh_h12) ?_
            refine oe_if_eq (pc := 60) (tgt := 66) d_X11_parts_60 (by decide) (fun c22 => ?_) (fun c22 => ?_)
            · replace h := (if_pos c22).symm.trans h
              refine oEv.fg [true, false, false, true, true, true, true] ?_
              exact v_X11_parts_66 hd hK hh_h4 hh_h12  h
            · replace h := (if_neg c22).symm.trans h
              refine oe_bipush (pc := 63) (v := (-12)) d_X11_parts_63 rfl ?_
              obtain ⟨rfl, rfl⟩ := oRes h
              exact oe_iret (pc := 65) d_X11_parts_65 ⟨_, rfl, rfl⟩
      | false =>
        replace h := oCf h
        refine oe_callS (pc := 29) d_X11_parts_29 (v_X11_within hK  q15) (by omega) ml_X11_89 jJ_X11_within rfl rfl (Nat.le_of_ble_eq_true rfl) ⟨Nat.le_refl _, Nat.le_refl _⟩ ⟨Nat.le_refl _, Nat.le_refl _⟩ ?_
        refine oe_if_ne (pc := 32) (tgt := 37) d_X11_parts_32 (by decide) (fun c => absurd (by decide) c) (fun _ => ?_)
        refine oe_iconst (pc := 35) (v := (-1)) d_X11_parts_35 rfl ?_
        obtain ⟨rfl, rfl⟩ := oRes h
        exact oe_iret (pc := 36) d_X11_parts_36 ⟨_, rfl, rfl⟩
theorem d_X11_ofPart_0 : decode J_X11_ofPart.2.1 0 = .ok (.aload_n 0, 1) := by decide +kernel
theorem d_X11_ofPart_1 : decode J_X11_ofPart.2.1 1 = .ok (.iload_n 2, 1) := by decide +kernel
theorem d_X11_ofPart_2 : decode J_X11_ofPart.2.1 2 = .ok (.invokevirtual 188, 3) := by decide +kernel
theorem d_X11_ofPart_5 : decode J_X11_ofPart.2.1 5 = .ok (.ifCond .ne 5, 3) := by decide +kernel
theorem d_X11_ofPart_8 : decode J_X11_ofPart.2.1 8 = .ok (.iconst (-1), 1) := by decide +kernel
theorem d_X11_ofPart_9 : decode J_X11_ofPart.2.1 9 = .ok (.ireturn, 1) := by decide +kernel
theorem d_X11_ofPart_10 : decode J_X11_ofPart.2.1 10 = .ok (.iload_n 1, 1) := by decide +kernel
theorem d_X11_ofPart_11 : decode J_X11_ofPart.2.1 11 = .ok (.tableswitch 46 1 3 #[25, 32, 39], 25) := by decide +kernel
theorem d_X11_ofPart_36 : decode J_X11_ofPart.2.1 36 = .ok (.aload_n 0, 1) := by decide +kernel
theorem d_X11_ofPart_37 : decode J_X11_ofPart.2.1 37 = .ok (.getfield 261, 3) := by decide +kernel
theorem d_X11_ofPart_40 : decode J_X11_ofPart.2.1 40 = .ok (.iload_n 2, 1) := by decide +kernel
theorem d_X11_ofPart_41 : decode J_X11_ofPart.2.1 41 = .ok (.iaload, 1) := by decide +kernel
theorem d_X11_ofPart_42 : decode J_X11_ofPart.2.1 42 = .ok (.ireturn, 1) := by decide +kernel
theorem d_X11_ofPart_43 : decode J_X11_ofPart.2.1 43 = .ok (.aload_n 0, 1) := by decide +kernel
theorem d_X11_ofPart_44 : decode J_X11_ofPart.2.1 44 = .ok (.getfield 233, 3) := by decide +kernel
theorem d_X11_ofPart_47 : decode J_X11_ofPart.2.1 47 = .ok (.iload_n 2, 1) := by decide +kernel
theorem d_X11_ofPart_48 : decode J_X11_ofPart.2.1 48 = .ok (.iaload, 1) := by decide +kernel
theorem d_X11_ofPart_49 : decode J_X11_ofPart.2.1 49 = .ok (.ireturn, 1) := by decide +kernel
theorem d_X11_ofPart_50 : decode J_X11_ofPart.2.1 50 = .ok (.aload_n 0, 1) := by decide +kernel
theorem d_X11_ofPart_51 : decode J_X11_ofPart.2.1 51 = .ok (.getfield 369, 3) := by decide +kernel
theorem d_X11_ofPart_54 : decode J_X11_ofPart.2.1 54 = .ok (.iload_n 2, 1) := by decide +kernel
theorem d_X11_ofPart_55 : decode J_X11_ofPart.2.1 55 = .ok (.iaload, 1) := by decide +kernel
theorem d_X11_ofPart_56 : decode J_X11_ofPart.2.1 56 = .ok (.ireturn, 1) := by decide +kernel
theorem d_X11_ofPart_57 : decode J_X11_ofPart.2.1 57 = .ok (.iconst (-1), 1) := by decide +kernel
theorem d_X11_ofPart_58 : decode J_X11_ofPart.2.1 58 = .ok (.ireturn, 1) := by decide +kernel
def f_X11_ofPart (N : Nat) (K : oK) (p0 : Nat) (p1 : Int32) (p2 : Int32) (M : oM) : Option (Int32 × oM) :=
  oB2 (f_X6_isPart N K p0 p2 M) (fun v1 M2 => cond v1 ((if p1 = 1 then oIx (p2) 24 (some ((M2.1 (p0 + 1) (p2 : Int32).toNatClampNeg), M2)) else (if p1 = 2 then oIx (p2) 24 (some ((M2.1 (p0 + 2) (p2 : Int32).toNatClampNeg), M2)) else (if p1 = 3 then oIx (p2) 24 (some ((M2.1 (p0 + 3) (p2 : Int32).toNatClampNeg), M2)) else some ((-1), M2))))) (some ((-1), M2)))
set_option maxRecDepth 20000 in
theorem v_X11_ofPart {X : oX} {N : Nat} {K : oK} {p0 : Nat} {p1 : Int32} {p2 : Int32} {M : oM} {v : Int32} {M' : oM} (hK : oSR K) (hh_p0 : oLS K p0) (h : f_X11_ofPart N K p0 p1 p2 M = some (v, M')) : oMet X 2 J_X11_ofPart [(.ref p0), (.int p1), (.int p2)] K M (some (.int v)) K M' := by
  unfold f_X11_ofPart at h
  refine oMet_of (L := [some (.ref p0), some (.int p1), some (.int p2)]) jJ_X11_ofPart.1 rfl (Nat.le_of_ble_eq_true rfl) rfl (Nat.le_refl _) (Nat.le_refl _) ?_
  have hd : 2 ≤ 2 := Nat.le_refl _
  refine oe_aload_n (pc := 0) d_X11_ofPart_0 rfl ?_
  refine oe_iload_n (pc := 1) d_X11_ofPart_1 rfl ?_
  obtain ⟨v1, M2, q3, h⟩ := oB2_some h
  cases v1 with
  | true =>
    replace h := oCt h
    refine oe_callV (pc := 2) (ci := 6) d_X11_ofPart_2 (v_X6_isPart hK hh_p0 q3) (by omega) ml_X11_188 jJ_X6_isPart rfl rfl (oLSa hh_p0 (j := 0) (Nat.le_of_ble_eq_true rfl)) (oLSo hh_p0) ock6 rfl (Nat.le_of_ble_eq_true rfl) ⟨Nat.le_refl _, Nat.le_refl _⟩ ⟨Nat.le_refl _, Nat.le_refl _⟩ ?_
    refine oe_if_ne (pc := 5) (tgt := 10) d_X11_ofPart_5 (by decide) (fun _ => ?_) (fun c => absurd c (by decide))
    refine oe_iload_n (pc := 10) d_X11_ofPart_10 rfl ?_
    by_cases c11_0 : p1 = 1
    · replace h := (if_pos c11_0).symm.trans h
      refine oe_tableIn (pc := 11) (tgt := 36) (off := 25) d_X11_ofPart_11 (by rw [c11_0]; decide) (by rw [c11_0]; decide) (by rw [c11_0]; rfl) (by decide) ?_
      refine oe_aload_n (pc := 36) d_X11_ofPart_36 rfl ?_
      refine oe_getr (pc := 37) d_X11_ofPart_37 fl_X11_261 ock6 (k := 3) (b := p0 + 1) (Nat.le_of_ble_eq_true rfl) (by decide) (oLSa hh_p0 (j := 0) (Nat.le_of_ble_eq_true rfl)) (oLSo hh_p0) (oLSf hh_p0 (j := 1) (by decide) (by decide)) ?_
      refine oe_iload_n (pc := 40) d_X11_ofPart_40 rfl ?_
      obtain ⟨i4, h⟩ := oIx_some h
      refine oe_iald (pc := 41) d_X11_ofPart_41 (oLSa hh_p0 (j := 1) (Nat.le_of_ble_eq_true rfl)) (oLSr hh_p0 (j := 1) (by decide) (Nat.le_of_ble_eq_true rfl)) i4 ?_
      obtain ⟨rfl, rfl⟩ := oRes h
      exact oe_iret (pc := 42) d_X11_ofPart_42 ⟨_, rfl, rfl⟩
    · replace h := (if_neg c11_0).symm.trans h
      by_cases c11_1 : p1 = 2
      · replace h := (if_pos c11_1).symm.trans h
        refine oe_tableIn (pc := 11) (tgt := 43) (off := 32) d_X11_ofPart_11 (by rw [c11_1]; decide) (by rw [c11_1]; decide) (by rw [c11_1]; rfl) (by decide) ?_
        refine oe_aload_n (pc := 43) d_X11_ofPart_43 rfl ?_
        refine oe_getr (pc := 44) d_X11_ofPart_44 fl_X11_233 ock6 (k := 4) (b := p0 + 2) (Nat.le_of_ble_eq_true rfl) (by decide) (oLSa hh_p0 (j := 0) (Nat.le_of_ble_eq_true rfl)) (oLSo hh_p0) (oLSf hh_p0 (j := 2) (by decide) (by decide)) ?_
        refine oe_iload_n (pc := 47) d_X11_ofPart_47 rfl ?_
        obtain ⟨i5, h⟩ := oIx_some h
        refine oe_iald (pc := 48) d_X11_ofPart_48 (oLSa hh_p0 (j := 2) (Nat.le_of_ble_eq_true rfl)) (oLSr hh_p0 (j := 2) (by decide) (Nat.le_of_ble_eq_true rfl)) i5 ?_
        obtain ⟨rfl, rfl⟩ := oRes h
        exact oe_iret (pc := 49) d_X11_ofPart_49 ⟨_, rfl, rfl⟩
      · replace h := (if_neg c11_1).symm.trans h
        by_cases c11_2 : p1 = 3
        · replace h := (if_pos c11_2).symm.trans h
          refine oe_tableIn (pc := 11) (tgt := 50) (off := 39) d_X11_ofPart_11 (by rw [c11_2]; decide) (by rw [c11_2]; decide) (by rw [c11_2]; rfl) (by decide) ?_
          refine oe_aload_n (pc := 50) d_X11_ofPart_50 rfl ?_
          refine oe_getr (pc := 51) d_X11_ofPart_51 fl_X11_369 ock6 (k := 5) (b := p0 + 3) (Nat.le_of_ble_eq_true rfl) (by decide) (oLSa hh_p0 (j := 0) (Nat.le_of_ble_eq_true rfl)) (oLSo hh_p0) (oLSf hh_p0 (j := 3) (by decide) (by decide)) ?_
          refine oe_iload_n (pc := 54) d_X11_ofPart_54 rfl ?_
          obtain ⟨i6, h⟩ := oIx_some h
          refine oe_iald (pc := 55) d_X11_ofPart_55 (oLSa hh_p0 (j := 3) (Nat.le_of_ble_eq_true rfl)) (oLSr hh_p0 (j := 3) (by decide) (Nat.le_of_ble_eq_true rfl)) i6 ?_
          obtain ⟨rfl, rfl⟩ := oRes h
          exact oe_iret (pc := 56) d_X11_ofPart_56 ⟨_, rfl, rfl⟩
        · replace h := (if_neg c11_2).symm.trans h
          refine oe_tableOut (pc := 11) (tgt := 57) d_X11_ofPart_11 (by have := oNe (k := 1) c11_0 rfl; have := oNe (k := 2) c11_1 rfl; have := oNe (k := 3) c11_2 rfl; omega) (by decide) ?_
          refine oe_iconst (pc := 57) (v := (-1)) d_X11_ofPart_57 rfl ?_
          obtain ⟨rfl, rfl⟩ := oRes h
          exact oe_iret (pc := 58) d_X11_ofPart_58 ⟨_, rfl, rfl⟩
  | false =>
    replace h := oCf h
    refine oe_callV (pc := 2) (ci := 6) d_X11_ofPart_2 (v_X6_isPart hK hh_p0 q3) (by omega) ml_X11_188 jJ_X6_isPart rfl rfl (oLSa hh_p0 (j := 0) (Nat.le_of_ble_eq_true rfl)) (oLSo hh_p0) ock6 rfl (Nat.le_of_ble_eq_true rfl) ⟨Nat.le_refl _, Nat.le_refl _⟩ ⟨Nat.le_refl _, Nat.le_refl _⟩ ?_
    refine oe_if_ne (pc := 5) (tgt := 10) d_X11_ofPart_5 (by decide) (fun c => absurd (by decide) c) (fun _ => ?_)
    refine oe_iconst (pc := 8) (v := (-1)) d_X11_ofPart_8 rfl ?_
    obtain ⟨rfl, rfl⟩ := oRes h
    exact oe_iret (pc := 9) d_X11_ofPart_9 ⟨_, rfl, rfl⟩
theorem d_X11_hoseOf_0 : decode J_X11_hoseOf.2.1 0 = .ok (.iconst 0, 1) := by decide +kernel
theorem d_X11_hoseOf_1 : decode J_X11_hoseOf.2.1 1 = .ok (.istore_n 3, 1) := by decide +kernel
theorem d_X11_hoseOf_2 : decode J_X11_hoseOf.2.1 2 = .ok (.iconst 0, 1) := by decide +kernel
theorem d_X11_hoseOf_3 : decode J_X11_hoseOf.2.1 3 = .ok (.istore 4, 2) := by decide +kernel
theorem d_X11_hoseOf_5 : decode J_X11_hoseOf.2.1 5 = .ok (.iload 4, 2) := by decide +kernel
theorem d_X11_hoseOf_7 : decode J_X11_hoseOf.2.1 7 = .ok (.aload_n 1, 1) := by decide +kernel
theorem d_X11_hoseOf_8 : decode J_X11_hoseOf.2.1 8 = .ok (.getfield 177, 3) := by decide +kernel
theorem d_X11_hoseOf_11 : decode J_X11_hoseOf.2.1 11 = .ok (.if_icmp .ge 56, 3) := by decide +kernel
theorem d_X11_hoseOf_14 : decode J_X11_hoseOf.2.1 14 = .ok (.aload_n 1, 1) := by decide +kernel
theorem d_X11_hoseOf_15 : decode J_X11_hoseOf.2.1 15 = .ok (.getfield 261, 3) := by decide +kernel
theorem d_X11_hoseOf_18 : decode J_X11_hoseOf.2.1 18 = .ok (.iload 4, 2) := by decide +kernel
theorem d_X11_hoseOf_20 : decode J_X11_hoseOf.2.1 20 = .ok (.iaload, 1) := by decide +kernel
theorem d_X11_hoseOf_21 : decode J_X11_hoseOf.2.1 21 = .ok (.iconst 1, 1) := by decide +kernel
theorem d_X11_hoseOf_22 : decode J_X11_hoseOf.2.1 22 = .ok (.if_icmp .ne 39, 3) := by decide +kernel
theorem d_X11_hoseOf_25 : decode J_X11_hoseOf.2.1 25 = .ok (.aload_n 1, 1) := by decide +kernel
theorem d_X11_hoseOf_26 : decode J_X11_hoseOf.2.1 26 = .ok (.getfield 369, 3) := by decide +kernel
theorem d_X11_hoseOf_29 : decode J_X11_hoseOf.2.1 29 = .ok (.iload 4, 2) := by decide +kernel
theorem d_X11_hoseOf_31 : decode J_X11_hoseOf.2.1 31 = .ok (.iaload, 1) := by decide +kernel
theorem d_X11_hoseOf_32 : decode J_X11_hoseOf.2.1 32 = .ok (.iload_n 2, 1) := by decide +kernel
theorem d_X11_hoseOf_33 : decode J_X11_hoseOf.2.1 33 = .ok (.if_icmp .ne 28, 3) := by decide +kernel
theorem d_X11_hoseOf_36 : decode J_X11_hoseOf.2.1 36 = .ok (.iload_n 3, 1) := by decide +kernel
theorem d_X11_hoseOf_37 : decode J_X11_hoseOf.2.1 37 = .ok (.aload_n 1, 1) := by decide +kernel
theorem d_X11_hoseOf_38 : decode J_X11_hoseOf.2.1 38 = .ok (.iload 4, 2) := by decide +kernel
theorem d_X11_hoseOf_40 : decode J_X11_hoseOf.2.1 40 = .ok (.iconst (-1), 1) := by decide +kernel
theorem d_X11_hoseOf_41 : decode J_X11_hoseOf.2.1 41 = .ok (.invokevirtual 230, 3) := by decide +kernel
theorem d_X11_hoseOf_44 : decode J_X11_hoseOf.2.1 44 = .ok (.aload_n 0, 1) := by decide +kernel
theorem d_X11_hoseOf_45 : decode J_X11_hoseOf.2.1 45 = .ok (.getfield 21, 3) := by decide +kernel
theorem d_X11_hoseOf_48 : decode J_X11_hoseOf.2.1 48 = .ok (.aload_n 1, 1) := by decide +kernel
theorem d_X11_hoseOf_49 : decode J_X11_hoseOf.2.1 49 = .ok (.getfield 233, 3) := by decide +kernel
theorem d_X11_hoseOf_52 : decode J_X11_hoseOf.2.1 52 = .ok (.iload 4, 2) := by decide +kernel
theorem d_X11_hoseOf_54 : decode J_X11_hoseOf.2.1 54 = .ok (.iaload, 1) := by decide +kernel
theorem d_X11_hoseOf_55 : decode J_X11_hoseOf.2.1 55 = .ok (.invokevirtual 236, 3) := by decide +kernel
theorem d_X11_hoseOf_58 : decode J_X11_hoseOf.2.1 58 = .ok (.imul, 1) := by decide +kernel
theorem d_X11_hoseOf_59 : decode J_X11_hoseOf.2.1 59 = .ok (.iadd, 1) := by decide +kernel
theorem d_X11_hoseOf_60 : decode J_X11_hoseOf.2.1 60 = .ok (.istore_n 3, 1) := by decide +kernel
theorem d_X11_hoseOf_61 : decode J_X11_hoseOf.2.1 61 = .ok (.iinc 4 1, 3) := by decide +kernel
theorem d_X11_hoseOf_64 : decode J_X11_hoseOf.2.1 64 = .ok (.goto (-59), 3) := by decide +kernel
theorem d_X11_hoseOf_67 : decode J_X11_hoseOf.2.1 67 = .ok (.iload_n 3, 1) := by decide +kernel
theorem d_X11_hoseOf_68 : decode J_X11_hoseOf.2.1 68 = .ok (.ireturn, 1) := by decide +kernel
def f_X11_hoseOf_61 (N : Nat) (K : oK) (r5 : (Nat → Int32 → Int32 → Int32 → oM → Option (Int32 × oM))) (p1 : Nat) (p2 : Int32) (p3 : Int32) (p4 : Int32) (M : oM) : Option (Int32 × oM) :=
  (r5 p1 p2 p3 (p4 + 1) M)
set_option maxRecDepth 20000 in
theorem v_X11_hoseOf_61 {X : oX} {d N : Nat} {K : oK} {r5 : (Nat → Int32 → Int32 → Int32 → oM → Option (Int32 × oM))} {p1 : Nat} {p2 : Int32} {p3 : Int32} {p4 : Int32} {M : oM} {v : Int32} {M' : oM}  (hd : 3 ≤ d) (hK : oSR K) (hh_p1 : oLS K p1) (hr5 : ∀ (p1 : Nat) (p2 : Int32) (p3 : Int32) (p4 : Int32) (M : oM) (v : Int32) (M' : oM)  (hh_p1 : oLS K p1), r5 p1 p2 p3 p4 M = some (v, M') → oEv X d J_X11_hoseOf 5 [some (.ref 0), some (.ref p1), some (.int p2), some (.int p3), some (.int p4)] [] K M (some (.int v)) K M') (h : f_X11_hoseOf_61 N K r5 p1 p2 p3 p4 M = some (v, M')) : oEv X d J_X11_hoseOf 61 [some (.ref 0), some (.ref p1), some (.int p2), some (.int p3), some (.int p4)] [] K M (some (.int v)) K M' := by
  unfold f_X11_hoseOf_61 at h
  refine oe_iinc (pc := 61) (v := (p4 + 1)) (L2 := [_, _, _, _, _]) d_X11_hoseOf_61 rfl rfl rfl (Nat.le_of_ble_eq_true rfl) rfl ?_
  refine oe_goto (pc := 64) (tgt := 5) d_X11_hoseOf_64 (by decide) ?_
  exact hr5 _ _ _ _ _ _ _ hh_p1 h
def f_X11_hoseOf_5 (N : Nat) (K : oK)  : Nat → Nat → Int32 → Int32 → Int32 → oM → Option (Int32 × oM)
  | 0, _, _, _, _, _ => none
  | n + 1, p1, p2, p3, p4, M => (fun r5 => (if (M.1 p1 7) ≤ p4 then some (p3, M) else oIx (p4) 24 ((if (M.1 (p1 + 1) (p4 : Int32).toNatClampNeg) = 1 then oIx (p4) 24 ((if (M.1 (p1 + 3) (p4 : Int32).toNatClampNeg) = p2 then oB2 (f_X6_lines N K p1 p4 ((-1) : Int32) M) (fun v6 M7 => oIx (p4) 24 (oB2 (f_X4_lengthsOf N K (M7.1 (p1 + 2) (p4 : Int32).toNatClampNeg) M7) (fun v10 M11 => (f_X11_hoseOf_61 N K r5 p1 p2 (p3 + (v6 * v10)) p4 M11)))) else (f_X11_hoseOf_61 N K r5 p1 p2 p3 p4 M))) else (f_X11_hoseOf_61 N K r5 p1 p2 p3 p4 M))))) (f_X11_hoseOf_5 N K  n)
set_option maxRecDepth 20000 in
theorem v_X11_hoseOf_5_L {X : oX} {d N : Nat} {K : oK}  (hd : 3 ≤ d) (hK : oSR K)  : ∀ (n : Nat) (p1 : Nat) (p2 : Int32) (p3 : Int32) (p4 : Int32) (M : oM) (v : Int32) (M' : oM)  (hh_p1 : oLS K p1), f_X11_hoseOf_5 N K  n p1 p2 p3 p4 M = some (v, M') → oEv X d J_X11_hoseOf 5 [some (.ref 0), some (.ref p1), some (.int p2), some (.int p3), some (.int p4)] [] K M (some (.int v)) K M' := by
  intro n
  induction n with
  | zero =>
    intro p1 p2 p3 p4 M v M'  hh_p1 h
    cases h
  | succ n hr5 =>
    intro p1 p2 p3 p4 M v M'  hh_p1 h
    refine oe_iload (pc := 5) d_X11_hoseOf_5 rfl ?_
    refine oe_aload_n (pc := 7) d_X11_hoseOf_7 rfl ?_
    refine oe_getf (pc := 8) d_X11_hoseOf_8 fl_X11_177 ock6 (k := 7) (Nat.le_of_ble_eq_true rfl) rfl (oLSa hh_p1 (j := 0) (Nat.le_of_ble_eq_true rfl)) (oLSo hh_p1) ?_
    refine oe_icmp_ge (pc := 11) (tgt := 67) d_X11_hoseOf_11 (by decide) (fun c1 => ?_) (fun c1 => ?_)
    · replace h := (if_pos c1).symm.trans h
      refine oe_iload_n (pc := 67) d_X11_hoseOf_67 rfl ?_
      obtain ⟨rfl, rfl⟩ := oRes h
      exact oe_iret (pc := 68) d_X11_hoseOf_68 ⟨_, rfl, rfl⟩
    · replace h := (if_neg c1).symm.trans h
      refine oe_aload_n (pc := 14) d_X11_hoseOf_14 rfl ?_
      refine oe_getr (pc := 15) d_X11_hoseOf_15 fl_X11_261 ock6 (k := 3) (b := p1 + 1) (Nat.le_of_ble_eq_true rfl) (by decide) (oLSa hh_p1 (j := 0) (Nat.le_of_ble_eq_true rfl)) (oLSo hh_p1) (oLSf hh_p1 (j := 1) (by decide) (by decide)) ?_
      refine oe_iload (pc := 18) d_X11_hoseOf_18 rfl ?_
      obtain ⟨i2, h⟩ := oIx_some h
      refine oe_iald (pc := 20) d_X11_hoseOf_20 (oLSa hh_p1 (j := 1) (Nat.le_of_ble_eq_true rfl)) (oLSr hh_p1 (j := 1) (by decide) (Nat.le_of_ble_eq_true rfl)) i2 ?_
      refine oe_iconst (pc := 21) (v := 1) d_X11_hoseOf_21 rfl ?_
      refine oe_icmp_ne (pc := 22) (tgt := 61) d_X11_hoseOf_22 (by decide) (fun c3 => ?_) (fun c3 => ?_)
      · replace h := (if_neg c3).symm.trans h
        exact v_X11_hoseOf_61 hd hK hh_p1 hr5 h
      · replace h := (if_pos c3).symm.trans h
        refine oe_aload_n (pc := 25) d_X11_hoseOf_25 rfl ?_
        refine oe_getr (pc := 26) d_X11_hoseOf_26 fl_X11_369 ock6 (k := 5) (b := p1 + 3) (Nat.le_of_ble_eq_true rfl) (by decide) (oLSa hh_p1 (j := 0) (Nat.le_of_ble_eq_true rfl)) (oLSo hh_p1) (oLSf hh_p1 (j := 3) (by decide) (by decide)) ?_
        refine oe_iload (pc := 29) d_X11_hoseOf_29 rfl ?_
        obtain ⟨i4, h⟩ := oIx_some h
        refine oe_iald (pc := 31) d_X11_hoseOf_31 (oLSa hh_p1 (j := 3) (Nat.le_of_ble_eq_true rfl)) (oLSr hh_p1 (j := 3) (by decide) (Nat.le_of_ble_eq_true rfl)) i4 ?_
        refine oe_iload_n (pc := 32) d_X11_hoseOf_32 rfl ?_
        refine oe_icmp_ne (pc := 33) (tgt := 61) d_X11_hoseOf_33 (by decide) (fun c5 => ?_) (fun c5 => ?_)
        · replace h := (if_neg c5).symm.trans h
          exact v_X11_hoseOf_61 hd hK hh_p1 hr5 h
        · replace h := (if_pos c5).symm.trans h
          refine oe_iload_n (pc := 36) d_X11_hoseOf_36 rfl ?_
          refine oe_aload_n (pc := 37) d_X11_hoseOf_37 rfl ?_
          refine oe_iload (pc := 38) d_X11_hoseOf_38 rfl ?_
          refine oe_iconst (pc := 40) (v := (-1)) d_X11_hoseOf_40 rfl ?_
          obtain ⟨v6, M7, q8, h⟩ := oB2_some h
          refine oe_callV (pc := 41) (ci := 6) d_X11_hoseOf_41 (v_X6_lines hK hh_p1 q8) (by omega) ml_X11_230 jJ_X6_lines rfl rfl (oLSa hh_p1 (j := 0) (Nat.le_of_ble_eq_true rfl)) (oLSo hh_p1) ock6 rfl (Nat.le_of_ble_eq_true rfl) ⟨Nat.le_refl _, Nat.le_refl _⟩ ⟨Nat.le_refl _, Nat.le_refl _⟩ ?_
          refine oe_aload_n (pc := 44) d_X11_hoseOf_44 rfl ?_
          refine oe_getr (pc := 45) d_X11_hoseOf_45 fl_X11_21 ock11 (k := 1) (b := 6) (Nat.le_of_ble_eq_true rfl) (by decide) (oLt hK (a := 0) (Nat.le_of_ble_eq_true rfl)) (oSho hK (a := 0) (Nat.le_of_ble_eq_true rfl) rfl) (oRfK hK rfl) ?_
          refine oe_aload_n (pc := 48) d_X11_hoseOf_48 rfl ?_
          refine oe_getr (pc := 49) d_X11_hoseOf_49 fl_X11_233 ock6 (k := 4) (b := p1 + 2) (Nat.le_of_ble_eq_true rfl) (by decide) (oLSa hh_p1 (j := 0) (Nat.le_of_ble_eq_true rfl)) (oLSo hh_p1) (oLSf hh_p1 (j := 2) (by decide) (by decide)) ?_
          refine oe_iload (pc := 52) d_X11_hoseOf_52 rfl ?_
          obtain ⟨i9, h⟩ := oIx_some h
          refine oe_iald (pc := 54) d_X11_hoseOf_54 (oLSa hh_p1 (j := 2) (Nat.le_of_ble_eq_true rfl)) (oLSr hh_p1 (j := 2) (by decide) (Nat.le_of_ble_eq_true rfl)) i9 ?_
          obtain ⟨v10, M11, q12, h⟩ := oB2_some h
          refine oe_callV (pc := 55) (ci := 4) d_X11_hoseOf_55 (v_X4_lengthsOf hK  q12) (by omega) ml_X11_236 jJ_X4_lengthsOf rfl rfl (oLt hK (a := 6) (Nat.le_of_ble_eq_true rfl)) (oSho hK (a := 6) (Nat.le_of_ble_eq_true rfl) rfl) ock4 rfl (Nat.le_of_ble_eq_true rfl) ⟨Nat.le_refl _, Nat.le_refl _⟩ ⟨Nat.le_refl _, Nat.le_refl _⟩ ?_
          refine oe_imul (pc := 58) d_X11_hoseOf_58 ?_
          refine oe_iadd (pc := 59) d_X11_hoseOf_59 ?_
          refine oe_istore_n (pc := 60) (L2 := [_, _, _, _, _]) d_X11_hoseOf_60 rfl rfl (Nat.le_of_ble_eq_true rfl) rfl ?_
          exact v_X11_hoseOf_61 hd hK hh_p1 hr5 h
theorem v_X11_hoseOf_5 {X : oX} {d N : Nat} {K : oK}  {p1 : Nat} {p2 : Int32} {p3 : Int32} {p4 : Int32} {M : oM} {v : Int32} {M' : oM}  (hd : 3 ≤ d) (hK : oSR K) (hh_p1 : oLS K p1)  (h : f_X11_hoseOf_5 N K  N p1 p2 p3 p4 M = some (v, M')) : oEv X d J_X11_hoseOf 5 [some (.ref 0), some (.ref p1), some (.int p2), some (.int p3), some (.int p4)] [] K M (some (.int v)) K M' := v_X11_hoseOf_5_L hd hK  N p1 p2 p3 p4 M v M'  hh_p1 h
def f_X11_hoseOf (N : Nat) (K : oK) (p1 : Nat) (p2 : Int32) (M : oM) : Option (Int32 × oM) :=
  (f_X11_hoseOf_5 N K  N p1 p2 0 0 M)
set_option maxRecDepth 20000 in
theorem v_X11_hoseOf {X : oX} {N : Nat} {K : oK} {p1 : Nat} {p2 : Int32} {M : oM} {v : Int32} {M' : oM} (hK : oSR K) (hh_p1 : oLS K p1) (h : f_X11_hoseOf N K p1 p2 M = some (v, M')) : oMet X 3 J_X11_hoseOf [(.ref 0), (.ref p1), (.int p2)] K M (some (.int v)) K M' := by
  unfold f_X11_hoseOf at h
  refine oMet_of (L := [some (.ref 0), some (.ref p1), some (.int p2), none, none]) jJ_X11_hoseOf.1 rfl (Nat.le_of_ble_eq_true rfl) rfl (Nat.le_refl _) (Nat.le_refl _) ?_
  have hd : 3 ≤ 3 := Nat.le_refl _
  refine oe_iconst (pc := 0) (v := 0) d_X11_hoseOf_0 rfl ?_
  refine oe_istore_n (pc := 1) (L2 := [_, _, _, _, _]) d_X11_hoseOf_1 rfl rfl (Nat.le_of_ble_eq_true rfl) rfl ?_
  refine oe_iconst (pc := 2) (v := 0) d_X11_hoseOf_2 rfl ?_
  refine oe_istore (pc := 3) (L2 := [_, _, _, _, _]) d_X11_hoseOf_3 rfl (Nat.le_of_ble_eq_true rfl) rfl ?_
  exact v_X11_hoseOf_5 hd hK hh_p1  h
theorem d_X11_of_0 : decode J_X11_of.2.1 0 = .ok (.aload_n 0, 1) := by decide +kernel
theorem d_X11_of_1 : decode J_X11_of.2.1 1 = .ok (.iload_n 1, 1) := by decide +kernel
theorem d_X11_of_2 : decode J_X11_of.2.1 2 = .ok (.invokevirtual 148, 3) := by decide +kernel
theorem d_X11_of_5 : decode J_X11_of.2.1 5 = .ok (.astore_n 3, 1) := by decide +kernel
theorem d_X11_of_6 : decode J_X11_of.2.1 6 = .ok (.aload_n 3, 1) := by decide +kernel
theorem d_X11_of_7 : decode J_X11_of.2.1 7 = .ok (.ifnull 7, 3) := by decide +kernel
theorem d_X11_of_10 : decode J_X11_of.2.1 10 = .ok (.iload_n 2, 1) := by decide +kernel
theorem d_X11_of_11 : decode J_X11_of.2.1 11 = .ok (.ifCond .ge 5, 3) := by decide +kernel
theorem d_X11_of_14 : decode J_X11_of.2.1 14 = .ok (.iconst (-1), 1) := by decide +kernel
theorem d_X11_of_15 : decode J_X11_of.2.1 15 = .ok (.ireturn, 1) := by decide +kernel
theorem d_X11_of_16 : decode J_X11_of.2.1 16 = .ok (.iload_n 2, 1) := by decide +kernel
theorem d_X11_of_17 : decode J_X11_of.2.1 17 = .ok (.bipush 100, 2) := by decide +kernel
theorem d_X11_of_19 : decode J_X11_of.2.1 19 = .ok (.if_icmp .lt 16, 3) := by decide +kernel
theorem d_X11_of_22 : decode J_X11_of.2.1 22 = .ok (.aload_n 3, 1) := by decide +kernel
theorem d_X11_of_23 : decode J_X11_of.2.1 23 = .ok (.iload_n 2, 1) := by decide +kernel
theorem d_X11_of_24 : decode J_X11_of.2.1 24 = .ok (.bipush 100, 2) := by decide +kernel
theorem d_X11_of_26 : decode J_X11_of.2.1 26 = .ok (.idiv, 1) := by decide +kernel
theorem d_X11_of_27 : decode J_X11_of.2.1 27 = .ok (.iload_n 2, 1) := by decide +kernel
theorem d_X11_of_28 : decode J_X11_of.2.1 28 = .ok (.bipush 100, 2) := by decide +kernel
theorem d_X11_of_30 : decode J_X11_of.2.1 30 = .ok (.irem, 1) := by decide +kernel
theorem d_X11_of_31 : decode J_X11_of.2.1 31 = .ok (.invokestatic 170, 3) := by decide +kernel
theorem d_X11_of_34 : decode J_X11_of.2.1 34 = .ok (.ireturn, 1) := by decide +kernel
theorem d_X11_of_35 : decode J_X11_of.2.1 35 = .ok (.iload_n 2, 1) := by decide +kernel
theorem d_X11_of_36 : decode J_X11_of.2.1 36 = .ok (.tableswitch 64 0 5 #[40, 45, 50, 55, 55, 55], 40) := by decide +kernel
theorem d_X11_of_76 : decode J_X11_of.2.1 76 = .ok (.aload_n 3, 1) := by decide +kernel
theorem d_X11_of_77 : decode J_X11_of.2.1 77 = .ok (.getfield 174, 3) := by decide +kernel
theorem d_X11_of_80 : decode J_X11_of.2.1 80 = .ok (.ireturn, 1) := by decide +kernel
theorem d_X11_of_81 : decode J_X11_of.2.1 81 = .ok (.aload_n 3, 1) := by decide +kernel
theorem d_X11_of_82 : decode J_X11_of.2.1 82 = .ok (.getfield 177, 3) := by decide +kernel
theorem d_X11_of_85 : decode J_X11_of.2.1 85 = .ok (.ireturn, 1) := by decide +kernel
theorem d_X11_of_86 : decode J_X11_of.2.1 86 = .ok (.aload_n 3, 1) := by decide +kernel
theorem d_X11_of_87 : decode J_X11_of.2.1 87 = .ok (.invokevirtual 180, 3) := by decide +kernel
theorem d_X11_of_90 : decode J_X11_of.2.1 90 = .ok (.ireturn, 1) := by decide +kernel
theorem d_X11_of_91 : decode J_X11_of.2.1 91 = .ok (.aload_n 0, 1) := by decide +kernel
theorem d_X11_of_92 : decode J_X11_of.2.1 92 = .ok (.aload_n 3, 1) := by decide +kernel
theorem d_X11_of_93 : decode J_X11_of.2.1 93 = .ok (.iload_n 2, 1) := by decide +kernel
theorem d_X11_of_94 : decode J_X11_of.2.1 94 = .ok (.iconst 3, 1) := by decide +kernel
theorem d_X11_of_95 : decode J_X11_of.2.1 95 = .ok (.isub, 1) := by decide +kernel
theorem d_X11_of_96 : decode J_X11_of.2.1 96 = .ok (.invokevirtual 184, 3) := by decide +kernel
theorem d_X11_of_99 : decode J_X11_of.2.1 99 = .ok (.ireturn, 1) := by decide +kernel
theorem d_X11_of_100 : decode J_X11_of.2.1 100 = .ok (.iconst (-1), 1) := by decide +kernel
theorem d_X11_of_101 : decode J_X11_of.2.1 101 = .ok (.ireturn, 1) := by decide +kernel
def f_X11_of (N : Nat) (K : oK) (p1 : Int32) (p2 : Int32) (M : oM) : Option (Int32 × oM) :=
  oB2 (f_X11_layingAt N K p1 M) (fun v1 M2 => oCs v1 (some ((-1), M2)) (fun h4 => (if 0 ≤ p2 then (if p2 < 100 then (if p2 = 0 then some ((M2.1 h4 1), M2) else (if p2 = 1 then some ((M2.1 h4 7), M2) else (if p2 = 2 then oB2 (f_X6_end N K h4 M2) (fun v7 M8 => some (v7, M8)) else (if p2 = 3 then oB2 (f_X11_hoseOf N K h4 (p2 - 3) M2) (fun v10 M11 => some (v10, M11)) else (if p2 = 4 then oB2 (f_X11_hoseOf N K h4 (p2 - 3) M2) (fun v13 M14 => some (v13, M14)) else (if p2 = 5 then oB2 (f_X11_hoseOf N K h4 (p2 - 3) M2) (fun v16 M17 => some (v16, M17)) else some ((-1), M2))))))) else oB2 (f_X11_ofPart N K h4 (p2 / 100) (p2 - p2 / 100 * 100) M2) (fun v19 M20 => some (v19, M20))) else some ((-1), M2))))
set_option maxRecDepth 20000 in
theorem v_X11_of {X : oX} {N : Nat} {K : oK} {p1 : Int32} {p2 : Int32} {M : oM} {v : Int32} {M' : oM} (hK : oSR K)  (h : f_X11_of N K p1 p2 M = some (v, M')) : oMet X 4 J_X11_of [(.ref 0), (.int p1), (.int p2)] K M (some (.int v)) K M' := by
  unfold f_X11_of at h
  refine oMet_of (L := [some (.ref 0), some (.int p1), some (.int p2), none]) jJ_X11_of.1 rfl (Nat.le_of_ble_eq_true rfl) rfl (Nat.le_refl _) (Nat.le_refl _) ?_
  have hd : 4 ≤ 4 := Nat.le_refl _
  refine oe_aload_n (pc := 0) d_X11_of_0 rfl ?_
  refine oe_iload_n (pc := 1) d_X11_of_1 rfl ?_
  obtain ⟨v1, M2, q3, h⟩ := oB2_some h
  cases v1 with
  | none =>
    replace h := oCsN h
    refine oe_callV (pc := 2) (ci := 11) d_X11_of_2 (v_X11_layingAt hK  q3) (by omega) ml_X11_148 jJ_X11_layingAt rfl rfl (oLt hK (a := 0) (Nat.le_of_ble_eq_true rfl)) (oSho hK (a := 0) (Nat.le_of_ble_eq_true rfl) rfl) ock11 rfl (Nat.le_of_ble_eq_true rfl) ⟨Nat.le_refl _, Nat.le_refl _⟩ ⟨Nat.le_refl _, Nat.le_refl _⟩ ?_
    refine oe_astore_nN (pc := 5) (L2 := [_, _, _, _]) d_X11_of_5 rfl rfl (Nat.le_of_ble_eq_true rfl) rfl ?_
    refine oe_aload_nN (pc := 6) d_X11_of_6 rfl ?_
    refine oe_ifnullN (pc := 7) (tgt := 14) d_X11_of_7 (by decide) ?_
    refine oe_iconst (pc := 14) (v := (-1)) d_X11_of_14 rfl ?_
    obtain ⟨rfl, rfl⟩ := oRes h
    exact oe_iret (pc := 15) d_X11_of_15 ⟨_, rfl, rfl⟩
  | some h4 =>
    replace h := oCsS h
    have hh_h4 : oLS K h4 := o_X11_layingAt_ok hK q3
    refine oe_callV (pc := 2) (ci := 11) d_X11_of_2 (v_X11_layingAt hK  q3) (by omega) ml_X11_148 jJ_X11_layingAt rfl rfl (oLt hK (a := 0) (Nat.le_of_ble_eq_true rfl)) (oSho hK (a := 0) (Nat.le_of_ble_eq_true rfl) rfl) ock11 rfl (Nat.le_of_ble_eq_true rfl) ⟨Nat.le_refl _, Nat.le_refl _⟩ ⟨Nat.le_refl _, Nat.le_refl _⟩ ?_
    refine oe_astore_n (pc := 5) (L2 := [_, _, _, _]) d_X11_of_5 rfl rfl (Nat.le_of_ble_eq_true rfl) rfl ?_
    refine oe_aload_n (pc := 6) d_X11_of_6 rfl ?_
    refine oe_ifnull (pc := 7) d_X11_of_7 ?_
    refine oe_iload_n (pc := 10) d_X11_of_10 rfl ?_
    refine oe_if_ge (pc := 11) (tgt := 16) d_X11_of_11 (by decide) (fun c5 => ?_) (fun c5 => ?_)
    · replace h := (if_pos c5).symm.trans h
      refine oe_iload_n (pc := 16) d_X11_of_16 rfl ?_
      refine oe_bipush (pc := 17) (v := 100) d_X11_of_17 rfl ?_
      refine oe_icmp_lt (pc := 19) (tgt := 35) d_X11_of_19 (by decide) (fun c6 => ?_) (fun c6 => ?_)
      · replace h := (if_pos c6).symm.trans h
        refine oe_iload_n (pc := 35) d_X11_of_35 rfl ?_
        by_cases c36_0 : p2 = 0
        · replace h := (if_pos c36_0).symm.trans h
          refine oe_tableIn (pc := 36) (tgt := 76) (off := 40) d_X11_of_36 (by rw [c36_0]; decide) (by rw [c36_0]; decide) (by rw [c36_0]; rfl) (by decide) ?_
          refine oe_aload_n (pc := 76) d_X11_of_76 rfl ?_
          refine oe_getf (pc := 77) d_X11_of_77 fl_X11_174 ock6 (k := 1) (Nat.le_of_ble_eq_true rfl) rfl (oLSa hh_h4 (j := 0) (Nat.le_of_ble_eq_true rfl)) (oLSo hh_h4) ?_
          obtain ⟨rfl, rfl⟩ := oRes h
          exact oe_iret (pc := 80) d_X11_of_80 ⟨_, rfl, rfl⟩
        · replace h := (if_neg c36_0).symm.trans h
          by_cases c36_1 : p2 = 1
          · replace h := (if_pos c36_1).symm.trans h
            refine oe_tableIn (pc := 36) (tgt := 81) (off := 45) d_X11_of_36 (by rw [c36_1]; decide) (by rw [c36_1]; decide) (by rw [c36_1]; rfl) (by decide) ?_
            refine oe_aload_n (pc := 81) d_X11_of_81 rfl ?_
            refine oe_getf (pc := 82) d_X11_of_82 fl_X11_177 ock6 (k := 7) (Nat.le_of_ble_eq_true rfl) rfl (oLSa hh_h4 (j := 0) (Nat.le_of_ble_eq_true rfl)) (oLSo hh_h4) ?_
            obtain ⟨rfl, rfl⟩ := oRes h
            exact oe_iret (pc := 85) d_X11_of_85 ⟨_, rfl, rfl⟩
          · replace h := (if_neg c36_1).symm.trans h
            by_cases c36_2 : p2 = 2
            · replace h := (if_pos c36_2).symm.trans h
              refine oe_tableIn (pc := 36) (tgt := 86) (off := 50) d_X11_of_36 (by rw [c36_2]; decide) (by rw [c36_2]; decide) (by rw [c36_2]; rfl) (by decide) ?_
              refine oe_aload_n (pc := 86) d_X11_of_86 rfl ?_
              obtain ⟨v7, M8, q9, h⟩ := oB2_some h
              refine oe_callV (pc := 87) (ci := 6) d_X11_of_87 (v_X6_end hK hh_h4 q9) (by omega) ml_X11_180 jJ_X6_end rfl rfl (oLSa hh_h4 (j := 0) (Nat.le_of_ble_eq_true rfl)) (oLSo hh_h4) ock6 rfl (Nat.le_of_ble_eq_true rfl) ⟨Nat.le_refl _, Nat.le_refl _⟩ ⟨Nat.le_refl _, Nat.le_refl _⟩ ?_
              obtain ⟨rfl, rfl⟩ := oRes h
              exact oe_iret (pc := 90) d_X11_of_90 ⟨_, rfl, rfl⟩
            · replace h := (if_neg c36_2).symm.trans h
              by_cases c36_3 : p2 = 3
              · replace h := (if_pos c36_3).symm.trans h
                refine oe_tableIn (pc := 36) (tgt := 91) (off := 55) d_X11_of_36 (by rw [c36_3]; decide) (by rw [c36_3]; decide) (by rw [c36_3]; rfl) (by decide) ?_
                refine oe_aload_n (pc := 91) d_X11_of_91 rfl ?_
                refine oe_aload_n (pc := 92) d_X11_of_92 rfl ?_
                refine oe_iload_n (pc := 93) d_X11_of_93 rfl ?_
                refine oe_iconst (pc := 94) (v := 3) d_X11_of_94 rfl ?_
                refine oe_isub (pc := 95) d_X11_of_95 ?_
                obtain ⟨v10, M11, q12, h⟩ := oB2_some h
                refine oe_callV (pc := 96) (ci := 11) d_X11_of_96 (v_X11_hoseOf hK hh_h4 q12) (by omega) ml_X11_184 jJ_X11_hoseOf rfl rfl (oLt hK (a := 0) (Nat.le_of_ble_eq_true rfl)) (oSho hK (a := 0) (Nat.le_of_ble_eq_true rfl) rfl) ock11 rfl (Nat.le_of_ble_eq_true rfl) ⟨Nat.le_refl _, Nat.le_refl _⟩ ⟨Nat.le_refl _, Nat.le_refl _⟩ ?_
                obtain ⟨rfl, rfl⟩ := oRes h
                exact oe_iret (pc := 99) d_X11_of_99 ⟨_, rfl, rfl⟩
              · replace h := (if_neg c36_3).symm.trans h
                by_cases c36_4 : p2 = 4
                · replace h := (if_pos c36_4).symm.trans h
                  refine oe_tableIn (pc := 36) (tgt := 91) (off := 55) d_X11_of_36 (by rw [c36_4]; decide) (by rw [c36_4]; decide) (by rw [c36_4]; rfl) (by decide) ?_
                  refine oe_aload_n (pc := 91) d_X11_of_91 rfl ?_
                  refine oe_aload_n (pc := 92) d_X11_of_92 rfl ?_
                  refine oe_iload_n (pc := 93) d_X11_of_93 rfl ?_
                  refine oe_iconst (pc := 94) (v := 3) d_X11_of_94 rfl ?_
                  refine oe_isub (pc := 95) d_X11_of_95 ?_
                  obtain ⟨v13, M14, q15, h⟩ := oB2_some h
                  refine oe_callV (pc := 96) (ci := 11) d_X11_of_96 (v_X11_hoseOf hK hh_h4 q15) (by omega) ml_X11_184 jJ_X11_hoseOf rfl rfl (oLt hK (a := 0) (Nat.le_of_ble_eq_true rfl)) (oSho hK (a := 0) (Nat.le_of_ble_eq_true rfl) rfl) ock11 rfl (Nat.le_of_ble_eq_true rfl) ⟨Nat.le_refl _, Nat.le_refl _⟩ ⟨Nat.le_refl _, Nat.le_refl _⟩ ?_
                  obtain ⟨rfl, rfl⟩ := oRes h
                  exact oe_iret (pc := 99) d_X11_of_99 ⟨_, rfl, rfl⟩
                · replace h := (if_neg c36_4).symm.trans h
                  by_cases c36_5 : p2 = 5
                  · replace h := (if_pos c36_5).symm.trans h
                    refine oe_tableIn (pc := 36) (tgt := 91) (off := 55) d_X11_of_36 (by rw [c36_5]; decide) (by rw [c36_5]; decide) (by rw [c36_5]; rfl) (by decide) ?_
                    refine oe_aload_n (pc := 91) d_X11_of_91 rfl ?_
                    refine oe_aload_n (pc := 92) d_X11_of_92 rfl ?_
                    refine oe_iload_n (pc := 93) d_X11_of_93 rfl ?_
                    refine oe_iconst (pc := 94) (v := 3) d_X11_of_94 rfl ?_
                    refine oe_isub (pc := 95) d_X11_of_95 ?_
                    obtain ⟨v16, M17, q18, h⟩ := oB2_some h
                    refine oe_callV (pc := 96) (ci := 11) d_X11_of_96 (v_X11_hoseOf hK hh_h4 q18) (by omega) ml_X11_184 jJ_X11_hoseOf rfl rfl (oLt hK (a := 0) (Nat.le_of_ble_eq_true rfl)) (oSho hK (a := 0) (Nat.le_of_ble_eq_true rfl) rfl) ock11 rfl (Nat.le_of_ble_eq_true rfl) ⟨Nat.le_refl _, Nat.le_refl _⟩ ⟨Nat.le_refl _, Nat.le_refl _⟩ ?_
                    obtain ⟨rfl, rfl⟩ := oRes h
                    exact oe_iret (pc := 99) d_X11_of_99 ⟨_, rfl, rfl⟩
                  · replace h := (if_neg c36_5).symm.trans h
                    refine oe_tableOut (pc := 36) (tgt := 100) d_X11_of_36 (by have := oNe (k := 0) c36_0 rfl; have := oNe (k := 1) c36_1 rfl; have := oNe (k := 2) c36_2 rfl; have := oNe (k := 3) c36_3 rfl; have := oNe (k := 4) c36_4 rfl; have := oNe (k := 5) c36_5 rfl; omega) (by decide) ?_
                    refine oe_iconst (pc := 100) (v := (-1)) d_X11_of_100 rfl ?_
                    obtain ⟨rfl, rfl⟩ := oRes h
                    exact oe_iret (pc := 101) d_X11_of_101 ⟨_, rfl, rfl⟩
      · replace h := (if_neg c6).symm.trans h
        refine oe_aload_n (pc := 22) d_X11_of_22 rfl ?_
        refine oe_iload_n (pc := 23) d_X11_of_23 rfl ?_
        refine oe_bipush (pc := 24) (v := 100) d_X11_of_24 rfl ?_
        refine oe_idiv (pc := 26) d_X11_of_26 (by decide) ?_
        refine oe_iload_n (pc := 27) d_X11_of_27 rfl ?_
        refine oe_bipush (pc := 28) (v := 100) d_X11_of_28 rfl ?_
        refine oe_irem (pc := 30) d_X11_of_30 (by decide) ?_
        obtain ⟨v19, M20, q21, h⟩ := oB2_some h
        refine oe_callS (pc := 31) d_X11_of_31 (v_X11_ofPart hK hh_h4 q21) (by omega) ml_X11_170 jJ_X11_ofPart rfl rfl (Nat.le_of_ble_eq_true rfl) ⟨Nat.le_refl _, Nat.le_refl _⟩ ⟨Nat.le_refl _, Nat.le_refl _⟩ ?_
        obtain ⟨rfl, rfl⟩ := oRes h
        exact oe_iret (pc := 34) d_X11_of_34 ⟨_, rfl, rfl⟩
    · replace h := (if_neg c5).symm.trans h
      refine oe_iconst (pc := 14) (v := (-1)) d_X11_of_14 rfl ?_
      obtain ⟨rfl, rfl⟩ := oRes h
      exact oe_iret (pc := 15) d_X11_of_15 ⟨_, rfl, rfl⟩
theorem d_X11_pressure_0 : decode J_X11_pressure.2.1 0 = .ok (.aload_n 0, 1) := by decide +kernel
theorem d_X11_pressure_1 : decode J_X11_pressure.2.1 1 = .ok (.iload_n 1, 1) := by decide +kernel
theorem d_X11_pressure_2 : decode J_X11_pressure.2.1 2 = .ok (.invokevirtual 148, 3) := by decide +kernel
theorem d_X11_pressure_5 : decode J_X11_pressure.2.1 5 = .ok (.astore 4, 2) := by decide +kernel
theorem d_X11_pressure_7 : decode J_X11_pressure.2.1 7 = .ok (.aload 4, 2) := by decide +kernel
theorem d_X11_pressure_9 : decode J_X11_pressure.2.1 9 = .ok (.ifnull 19, 3) := by decide +kernel
theorem d_X11_pressure_12 : decode J_X11_pressure.2.1 12 = .ok (.aload 4, 2) := by decide +kernel
theorem d_X11_pressure_14 : decode J_X11_pressure.2.1 14 = .ok (.iload_n 2, 1) := by decide +kernel
theorem d_X11_pressure_15 : decode J_X11_pressure.2.1 15 = .ok (.invokevirtual 188, 3) := by decide +kernel
theorem d_X11_pressure_18 : decode J_X11_pressure.2.1 18 = .ok (.ifCond .eq 10, 3) := by decide +kernel
theorem d_X11_pressure_21 : decode J_X11_pressure.2.1 21 = .ok (.iload_n 3, 1) := by decide +kernel
theorem d_X11_pressure_22 : decode J_X11_pressure.2.1 22 = .ok (.invokestatic 126, 3) := by decide +kernel
theorem d_X11_pressure_25 : decode J_X11_pressure.2.1 25 = .ok (.ifCond .ne 6, 3) := by decide +kernel
theorem d_X11_pressure_28 : decode J_X11_pressure.2.1 28 = .ok (.ldc 191, 2) := by decide +kernel
theorem d_X11_pressure_30 : decode J_X11_pressure.2.1 30 = .ok (.ireturn, 1) := by decide +kernel
theorem d_X11_pressure_31 : decode J_X11_pressure.2.1 31 = .ok (.aload_n 0, 1) := by decide +kernel
theorem d_X11_pressure_32 : decode J_X11_pressure.2.1 32 = .ok (.getfield 50, 3) := by decide +kernel
theorem d_X11_pressure_35 : decode J_X11_pressure.2.1 35 = .ok (.aload 4, 2) := by decide +kernel
theorem d_X11_pressure_37 : decode J_X11_pressure.2.1 37 = .ok (.iconst 0, 1) := by decide +kernel
theorem d_X11_pressure_38 : decode J_X11_pressure.2.1 38 = .ok (.iconst 0, 1) := by decide +kernel
theorem d_X11_pressure_39 : decode J_X11_pressure.2.1 39 = .ok (.invokevirtual 192, 3) := by decide +kernel
theorem d_X11_pressure_42 : decode J_X11_pressure.2.1 42 = .ok (.aload_n 0, 1) := by decide +kernel
theorem d_X11_pressure_43 : decode J_X11_pressure.2.1 43 = .ok (.getfield 50, 3) := by decide +kernel
theorem d_X11_pressure_46 : decode J_X11_pressure.2.1 46 = .ok (.iload_n 2, 1) := by decide +kernel
theorem d_X11_pressure_47 : decode J_X11_pressure.2.1 47 = .ok (.iload_n 3, 1) := by decide +kernel
theorem d_X11_pressure_48 : decode J_X11_pressure.2.1 48 = .ok (.invokevirtual 196, 3) := by decide +kernel
theorem d_X11_pressure_51 : decode J_X11_pressure.2.1 51 = .ok (.ireturn, 1) := by decide +kernel
def f_X11_pressure_28 (N : Nat) (K : oK)   (M : oM) : Option (Int32 × oM) :=
  some ((-2000000000), M)
set_option maxRecDepth 20000 in
theorem v_X11_pressure_28 {X : oX} {d N : Nat} {K : oK}   {M : oM} {v : Int32} {M' : oM}  (hd : 5 ≤ d) (hK : oSR K)   (h : f_X11_pressure_28 N K   M = some (v, M')) : oEv X d J_X11_pressure 28 [none, none, none, none, none] [] K M (some (.int v)) K M' := by
  unfold f_X11_pressure_28 at h
  refine oe_ldc (pc := 28) d_X11_pressure_28 co_X11_191 ?_
  obtain ⟨rfl, rfl⟩ := oRes h
  exact oe_iret (pc := 30) d_X11_pressure_30 ⟨_, rfl, rfl⟩
def f_X11_pressure (N : Nat) (K : oK) (p1 : Int32) (p2 : Int32) (p3 : Int32) (M : oM) : Option (Int32 × oM) :=
  oB2 (f_X11_layingAt N K p1 M) (fun v1 M2 => oCs v1 ((f_X11_pressure_28 N K   M2)) (fun h4 => oB2 (f_X6_isPart N K h4 p2 M2) (fun v5 M6 => cond v5 (oB2 (f_X11_isFlow N K p3 M6) (fun v8 M9 => cond v8 (oB2 (f_X2_lay N K h4 (0 : Int32) (0 : Int32) M9) (fun v11 M12 => oB2 (f_X2_pressureBehind N K p2 p3 M12) (fun v14 M15 => some (v14, M15)))) ((f_X11_pressure_28 N K   M9)))) ((f_X11_pressure_28 N K   M6)))))
set_option maxRecDepth 20000 in
theorem v_X11_pressure {X : oX} {N : Nat} {K : oK} {p1 : Int32} {p2 : Int32} {p3 : Int32} {M : oM} {v : Int32} {M' : oM} (hK : oSR K)  (h : f_X11_pressure N K p1 p2 p3 M = some (v, M')) : oMet X 5 J_X11_pressure [(.ref 0), (.int p1), (.int p2), (.int p3)] K M (some (.int v)) K M' := by
  unfold f_X11_pressure at h
  refine oMet_of (L := [some (.ref 0), some (.int p1), some (.int p2), some (.int p3), none]) jJ_X11_pressure.1 rfl (Nat.le_of_ble_eq_true rfl) rfl (Nat.le_refl _) (Nat.le_refl _) ?_
  have hd : 5 ≤ 5 := Nat.le_refl _
  refine oe_aload_n (pc := 0) d_X11_pressure_0 rfl ?_
  refine oe_iload_n (pc := 1) d_X11_pressure_1 rfl ?_
  obtain ⟨v1, M2, q3, h⟩ := oB2_some h
  cases v1 with
  | none =>
    replace h := oCsN h
    refine oe_callV (pc := 2) (ci := 11) d_X11_pressure_2 (v_X11_layingAt hK  q3) (by omega) ml_X11_148 jJ_X11_layingAt rfl rfl (oLt hK (a := 0) (Nat.le_of_ble_eq_true rfl)) (oSho hK (a := 0) (Nat.le_of_ble_eq_true rfl) rfl) ock11 rfl (Nat.le_of_ble_eq_true rfl) ⟨Nat.le_refl _, Nat.le_refl _⟩ ⟨Nat.le_refl _, Nat.le_refl _⟩ ?_
    refine oe_astoreN (pc := 5) (L2 := [_, _, _, _, _]) d_X11_pressure_5 rfl (Nat.le_of_ble_eq_true rfl) rfl ?_
    refine oe_aloadN (pc := 7) d_X11_pressure_7 rfl ?_
    refine oe_ifnullN (pc := 9) (tgt := 28) d_X11_pressure_9 (by decide) ?_
    refine oEv.fg [false, false, false, false, false] ?_
    exact v_X11_pressure_28 hd hK   h
  | some h4 =>
    replace h := oCsS h
    have hh_h4 : oLS K h4 := o_X11_layingAt_ok hK q3
    refine oe_callV (pc := 2) (ci := 11) d_X11_pressure_2 (v_X11_layingAt hK  q3) (by omega) ml_X11_148 jJ_X11_layingAt rfl rfl (oLt hK (a := 0) (Nat.le_of_ble_eq_true rfl)) (oSho hK (a := 0) (Nat.le_of_ble_eq_true rfl) rfl) ock11 rfl (Nat.le_of_ble_eq_true rfl) ⟨Nat.le_refl _, Nat.le_refl _⟩ ⟨Nat.le_refl _, Nat.le_refl _⟩ ?_
    refine oe_astore (pc := 5) (L2 := [_, _, _, _, _]) d_X11_pressure_5 rfl (Nat.le_of_ble_eq_true rfl) rfl ?_
    refine oe_aload (pc := 7) d_X11_pressure_7 rfl ?_
    refine oe_ifnull (pc := 9) d_X11_pressure_9 ?_
    refine oe_aload (pc := 12) d_X11_pressure_12 rfl ?_
    refine oe_iload_n (pc := 14) d_X11_pressure_14 rfl ?_
    obtain ⟨v5, M6, q7, h⟩ := oB2_some h
    cases v5 with
    | true =>
      replace h := oCt h
      refine oe_callV (pc := 15) (ci := 6) d_X11_pressure_15 (v_X6_isPart hK hh_h4 q7) (by omega) ml_X11_188 jJ_X6_isPart rfl rfl (oLSa hh_h4 (j := 0) (Nat.le_of_ble_eq_true rfl)) (oLSo hh_h4) ock6 rfl (Nat.le_of_ble_eq_true rfl) ⟨Nat.le_refl _, Nat.le_refl _⟩ ⟨Nat.le_refl _, Nat.le_refl _⟩ ?_
      refine oe_if_eq (pc := 18) (tgt := 28) d_X11_pressure_18 (by decide) (fun c => absurd c (by decide)) (fun _ => ?_)
      refine oe_iload_n (pc := 21) d_X11_pressure_21 rfl ?_
      obtain ⟨v8, M9, q10, h⟩ := oB2_some h
      cases v8 with
      | true =>
        replace h := oCt h
        refine oe_callS (pc := 22) d_X11_pressure_22 (v_X11_isFlow hK  q10) (by omega) ml_X11_126 jJ_X11_isFlow rfl rfl (Nat.le_of_ble_eq_true rfl) ⟨Nat.le_refl _, Nat.le_refl _⟩ ⟨Nat.le_refl _, Nat.le_refl _⟩ ?_
        refine oe_if_ne (pc := 25) (tgt := 31) d_X11_pressure_25 (by decide) (fun _ => ?_) (fun c => absurd c (by decide))
        refine oe_aload_n (pc := 31) d_X11_pressure_31 rfl ?_
        refine oe_getr (pc := 32) d_X11_pressure_32 fl_X11_50 ock11 (k := 5) (b := 21) (Nat.le_of_ble_eq_true rfl) (by decide) (oLt hK (a := 0) (Nat.le_of_ble_eq_true rfl)) (oSho hK (a := 0) (Nat.le_of_ble_eq_true rfl) rfl) (oRfK hK rfl) ?_
        refine oe_aload (pc := 35) d_X11_pressure_35 rfl ?_
        refine oe_iconst (pc := 37) (v := 0) d_X11_pressure_37 rfl ?_
        refine oe_iconst (pc := 38) (v := 0) d_X11_pressure_38 rfl ?_
        obtain ⟨v11, M12, q13, h⟩ := oB2_some h
        refine oe_callV (pc := 39) (ci := 2) d_X11_pressure_39 (v_X2_lay hK hh_h4 q13) (by omega) ml_X11_192 jJ_X2_lay rfl rfl (oLt hK (a := 21) (Nat.le_of_ble_eq_true rfl)) (oSho hK (a := 21) (Nat.le_of_ble_eq_true rfl) rfl) ock2 rfl (Nat.le_of_ble_eq_true rfl) ⟨Nat.le_refl _, Nat.le_refl _⟩ ⟨Nat.le_refl _, Nat.le_refl _⟩ ?_
        refine oe_aload_n (pc := 42) d_X11_pressure_42 rfl ?_
        refine oe_getr (pc := 43) d_X11_pressure_43 fl_X11_50 ock11 (k := 5) (b := 21) (Nat.le_of_ble_eq_true rfl) (by decide) (oLt hK (a := 0) (Nat.le_of_ble_eq_true rfl)) (oSho hK (a := 0) (Nat.le_of_ble_eq_true rfl) rfl) (oRfK hK rfl) ?_
        refine oe_iload_n (pc := 46) d_X11_pressure_46 rfl ?_
        refine oe_iload_n (pc := 47) d_X11_pressure_47 rfl ?_
        obtain ⟨v14, M15, q16, h⟩ := oB2_some h
        refine oe_callV (pc := 48) (ci := 2) d_X11_pressure_48 (v_X2_pressureBehind hK  q16) (by omega) ml_X11_196 jJ_X2_pressureBehind rfl rfl (oLt hK (a := 21) (Nat.le_of_ble_eq_true rfl)) (oSho hK (a := 21) (Nat.le_of_ble_eq_true rfl) rfl) ock2 rfl (Nat.le_of_ble_eq_true rfl) ⟨Nat.le_refl _, Nat.le_refl _⟩ ⟨Nat.le_refl _, Nat.le_refl _⟩ ?_
        obtain ⟨rfl, rfl⟩ := oRes h
        exact oe_iret (pc := 51) d_X11_pressure_51 ⟨_, rfl, rfl⟩
      | false =>
        replace h := oCf h
        refine oe_callS (pc := 22) d_X11_pressure_22 (v_X11_isFlow hK  q10) (by omega) ml_X11_126 jJ_X11_isFlow rfl rfl (Nat.le_of_ble_eq_true rfl) ⟨Nat.le_refl _, Nat.le_refl _⟩ ⟨Nat.le_refl _, Nat.le_refl _⟩ ?_
        refine oe_if_ne (pc := 25) (tgt := 31) d_X11_pressure_25 (by decide) (fun c => absurd (by decide) c) (fun _ => ?_)
        refine oEv.fg [false, false, false, false, false] ?_
        exact v_X11_pressure_28 hd hK   h
    | false =>
      replace h := oCf h
      refine oe_callV (pc := 15) (ci := 6) d_X11_pressure_15 (v_X6_isPart hK hh_h4 q7) (by omega) ml_X11_188 jJ_X6_isPart rfl rfl (oLSa hh_h4 (j := 0) (Nat.le_of_ble_eq_true rfl)) (oLSo hh_h4) ock6 rfl (Nat.le_of_ble_eq_true rfl) ⟨Nat.le_refl _, Nat.le_refl _⟩ ⟨Nat.le_refl _, Nat.le_refl _⟩ ?_
      refine oe_if_eq (pc := 18) (tgt := 28) d_X11_pressure_18 (by decide) (fun _ => ?_) (fun c => absurd (by decide) c)
      refine oEv.fg [false, false, false, false, false] ?_
      exact v_X11_pressure_28 hd hK   h
theorem d_X11_isNeed_0 : decode J_X11_isNeed.2.1 0 = .ok (.iload_n 0, 1) := by decide +kernel
theorem d_X11_isNeed_1 : decode J_X11_isNeed.2.1 1 = .ok (.iconst 0, 1) := by decide +kernel
theorem d_X11_isNeed_2 : decode J_X11_isNeed.2.1 2 = .ok (.ldc_w 353, 3) := by decide +kernel
theorem d_X11_isNeed_5 : decode J_X11_isNeed.2.1 5 = .ok (.invokestatic 89, 3) := by decide +kernel
theorem d_X11_isNeed_8 : decode J_X11_isNeed.2.1 8 = .ok (.ireturn, 1) := by decide +kernel
def f_X11_isNeed (N : Nat) (K : oK) (p0 : Int32) (M : oM) : Option (Bool × oM) :=
  oB2 (f_X11_within N K p0 (0 : Int32) (99999 : Int32) M) (fun v1 M2 => cond v1 (some (true, M2)) (some (false, M2)))
set_option maxRecDepth 20000 in
theorem v_X11_isNeed {X : oX} {N : Nat} {K : oK} {p0 : Int32} {M : oM} {v : Bool} {M' : oM} (hK : oSR K)  (h : f_X11_isNeed N K p0 M = some (v, M')) : oMet X 2 J_X11_isNeed [(.int p0)] K M (some (.int (oBi v))) K M' := by
  unfold f_X11_isNeed at h
  refine oMet_of (L := [some (.int p0)]) jJ_X11_isNeed.1 rfl (Nat.le_of_ble_eq_true rfl) rfl (Nat.le_refl _) (Nat.le_refl _) ?_
  have hd : 2 ≤ 2 := Nat.le_refl _
  refine oe_iload_n (pc := 0) d_X11_isNeed_0 rfl ?_
  refine oe_iconst (pc := 1) (v := 0) d_X11_isNeed_1 rfl ?_
  refine oe_ldcw (pc := 2) d_X11_isNeed_2 co_X11_353 ?_
  obtain ⟨v1, M2, q3, h⟩ := oB2_some h
  cases v1 with
  | true =>
    replace h := oCt h
    refine oe_callS (pc := 5) d_X11_isNeed_5 (v_X11_within hK  q3) (by omega) ml_X11_89 jJ_X11_within rfl rfl (Nat.le_of_ble_eq_true rfl) ⟨Nat.le_refl _, Nat.le_refl _⟩ ⟨Nat.le_refl _, Nat.le_refl _⟩ ?_
    obtain ⟨rfl, rfl⟩ := oRes h
    exact oe_iret (pc := 8) d_X11_isNeed_8 ⟨_, rfl, rfl⟩
  | false =>
    replace h := oCf h
    refine oe_callS (pc := 5) d_X11_isNeed_5 (v_X11_within hK  q3) (by omega) ml_X11_89 jJ_X11_within rfl rfl (Nat.le_of_ble_eq_true rfl) ⟨Nat.le_refl _, Nat.le_refl _⟩ ⟨Nat.le_refl _, Nat.le_refl _⟩ ?_
    obtain ⟨rfl, rfl⟩ := oRes h
    exact oe_iret (pc := 8) d_X11_isNeed_8 ⟨_, rfl, rfl⟩
theorem d_X11_flowWith_0 : decode J_X11_flowWith.2.1 0 = .ok (.aload_n 0, 1) := by decide +kernel
theorem d_X11_flowWith_1 : decode J_X11_flowWith.2.1 1 = .ok (.getfield 50, 3) := by decide +kernel
theorem d_X11_flowWith_4 : decode J_X11_flowWith.2.1 4 = .ok (.aload_n 1, 1) := by decide +kernel
theorem d_X11_flowWith_5 : decode J_X11_flowWith.2.1 5 = .ok (.iload_n 3, 1) := by decide +kernel
theorem d_X11_flowWith_6 : decode J_X11_flowWith.2.1 6 = .ok (.iload 4, 2) := by decide +kernel
theorem d_X11_flowWith_8 : decode J_X11_flowWith.2.1 8 = .ok (.invokevirtual 192, 3) := by decide +kernel
theorem d_X11_flowWith_11 : decode J_X11_flowWith.2.1 11 = .ok (.aload_n 0, 1) := by decide +kernel
theorem d_X11_flowWith_12 : decode J_X11_flowWith.2.1 12 = .ok (.getfield 50, 3) := by decide +kernel
theorem d_X11_flowWith_15 : decode J_X11_flowWith.2.1 15 = .ok (.iload_n 2, 1) := by decide +kernel
theorem d_X11_flowWith_16 : decode J_X11_flowWith.2.1 16 = .ok (.invokevirtual 357, 3) := by decide +kernel
theorem d_X11_flowWith_19 : decode J_X11_flowWith.2.1 19 = .ok (.ireturn, 1) := by decide +kernel
def f_X11_flowWith (N : Nat) (K : oK) (p1 : Nat) (p2 : Int32) (p3 : Int32) (p4 : Int32) (M : oM) : Option (Int32 × oM) :=
  oB2 (f_X2_lay N K p1 p3 p4 M) (fun v1 M2 => oB2 (f_X2_greatest N K p2 M2) (fun v4 M5 => some (v4, M5)))
set_option maxRecDepth 20000 in
theorem v_X11_flowWith {X : oX} {N : Nat} {K : oK} {p1 : Nat} {p2 : Int32} {p3 : Int32} {p4 : Int32} {M : oM} {v : Int32} {M' : oM} (hK : oSR K) (hh_p1 : oLS K p1) (h : f_X11_flowWith N K p1 p2 p3 p4 M = some (v, M')) : oMet X 6 J_X11_flowWith [(.ref 0), (.ref p1), (.int p2), (.int p3), (.int p4)] K M (some (.int v)) K M' := by
  unfold f_X11_flowWith at h
  refine oMet_of (L := [some (.ref 0), some (.ref p1), some (.int p2), some (.int p3), some (.int p4)]) jJ_X11_flowWith.1 rfl (Nat.le_of_ble_eq_true rfl) rfl (Nat.le_refl _) (Nat.le_refl _) ?_
  have hd : 6 ≤ 6 := Nat.le_refl _
  refine oe_aload_n (pc := 0) d_X11_flowWith_0 rfl ?_
  refine oe_getr (pc := 1) d_X11_flowWith_1 fl_X11_50 ock11 (k := 5) (b := 21) (Nat.le_of_ble_eq_true rfl) (by decide) (oLt hK (a := 0) (Nat.le_of_ble_eq_true rfl)) (oSho hK (a := 0) (Nat.le_of_ble_eq_true rfl) rfl) (oRfK hK rfl) ?_
  refine oe_aload_n (pc := 4) d_X11_flowWith_4 rfl ?_
  refine oe_iload_n (pc := 5) d_X11_flowWith_5 rfl ?_
  refine oe_iload (pc := 6) d_X11_flowWith_6 rfl ?_
  obtain ⟨v1, M2, q3, h⟩ := oB2_some h
  refine oe_callV (pc := 8) (ci := 2) d_X11_flowWith_8 (v_X2_lay hK hh_p1 q3) (by omega) ml_X11_192 jJ_X2_lay rfl rfl (oLt hK (a := 21) (Nat.le_of_ble_eq_true rfl)) (oSho hK (a := 21) (Nat.le_of_ble_eq_true rfl) rfl) ock2 rfl (Nat.le_of_ble_eq_true rfl) ⟨Nat.le_refl _, Nat.le_refl _⟩ ⟨Nat.le_refl _, Nat.le_refl _⟩ ?_
  refine oe_aload_n (pc := 11) d_X11_flowWith_11 rfl ?_
  refine oe_getr (pc := 12) d_X11_flowWith_12 fl_X11_50 ock11 (k := 5) (b := 21) (Nat.le_of_ble_eq_true rfl) (by decide) (oLt hK (a := 0) (Nat.le_of_ble_eq_true rfl)) (oSho hK (a := 0) (Nat.le_of_ble_eq_true rfl) rfl) (oRfK hK rfl) ?_
  refine oe_iload_n (pc := 15) d_X11_flowWith_15 rfl ?_
  obtain ⟨v4, M5, q6, h⟩ := oB2_some h
  refine oe_callV (pc := 16) (ci := 2) d_X11_flowWith_16 (v_X2_greatest hK  q6) (by omega) ml_X11_357 jJ_X2_greatest rfl rfl (oLt hK (a := 21) (Nat.le_of_ble_eq_true rfl)) (oSho hK (a := 21) (Nat.le_of_ble_eq_true rfl) rfl) ock2 rfl (Nat.le_of_ble_eq_true rfl) ⟨Nat.le_refl _, Nat.le_refl _⟩ ⟨Nat.le_refl _, Nat.le_refl _⟩ ?_
  obtain ⟨rfl, rfl⟩ := oRes h
  exact oe_iret (pc := 19) d_X11_flowWith_19 ⟨_, rfl, rfl⟩
theorem d_X11_flow_0 : decode J_X11_flow.2.1 0 = .ok (.aload_n 0, 1) := by decide +kernel
theorem d_X11_flow_1 : decode J_X11_flow.2.1 1 = .ok (.iload_n 1, 1) := by decide +kernel
theorem d_X11_flow_2 : decode J_X11_flow.2.1 2 = .ok (.invokevirtual 148, 3) := by decide +kernel
theorem d_X11_flow_5 : decode J_X11_flow.2.1 5 = .ok (.astore_n 3, 1) := by decide +kernel
theorem d_X11_flow_6 : decode J_X11_flow.2.1 6 = .ok (.aload_n 3, 1) := by decide +kernel
theorem d_X11_flow_7 : decode J_X11_flow.2.1 7 = .ok (.ifnull 10, 3) := by decide +kernel
theorem d_X11_flow_10 : decode J_X11_flow.2.1 10 = .ok (.iload_n 2, 1) := by decide +kernel
theorem d_X11_flow_11 : decode J_X11_flow.2.1 11 = .ok (.invokestatic 199, 3) := by decide +kernel
theorem d_X11_flow_14 : decode J_X11_flow.2.1 14 = .ok (.ifCond .ne 7, 3) := by decide +kernel
theorem d_X11_flow_17 : decode J_X11_flow.2.1 17 = .ok (.iconst (-1), 1) := by decide +kernel
theorem d_X11_flow_18 : decode J_X11_flow.2.1 18 = .ok (.goto 11, 3) := by decide +kernel
theorem d_X11_flow_21 : decode J_X11_flow.2.1 21 = .ok (.aload_n 0, 1) := by decide +kernel
theorem d_X11_flow_22 : decode J_X11_flow.2.1 22 = .ok (.aload_n 3, 1) := by decide +kernel
theorem d_X11_flow_23 : decode J_X11_flow.2.1 23 = .ok (.iload_n 2, 1) := by decide +kernel
theorem d_X11_flow_24 : decode J_X11_flow.2.1 24 = .ok (.iconst 0, 1) := by decide +kernel
theorem d_X11_flow_25 : decode J_X11_flow.2.1 25 = .ok (.iconst 0, 1) := by decide +kernel
theorem d_X11_flow_26 : decode J_X11_flow.2.1 26 = .ok (.invokevirtual 202, 3) := by decide +kernel
theorem d_X11_flow_29 : decode J_X11_flow.2.1 29 = .ok (.ireturn, 1) := by decide +kernel
def f_X11_flow (N : Nat) (K : oK) (p1 : Int32) (p2 : Int32) (M : oM) : Option (Int32 × oM) :=
  oB2 (f_X11_layingAt N K p1 M) (fun v1 M2 => oCs v1 (some ((-1), M2)) (fun h4 => oB2 (f_X11_isNeed N K p2 M2) (fun v5 M6 => cond v5 (oB2 (f_X11_flowWith N K h4 p2 (0 : Int32) (0 : Int32) M6) (fun v8 M9 => some (v8, M9))) (some ((-1), M6)))))
set_option maxRecDepth 20000 in
theorem v_X11_flow {X : oX} {N : Nat} {K : oK} {p1 : Int32} {p2 : Int32} {M : oM} {v : Int32} {M' : oM} (hK : oSR K)  (h : f_X11_flow N K p1 p2 M = some (v, M')) : oMet X 7 J_X11_flow [(.ref 0), (.int p1), (.int p2)] K M (some (.int v)) K M' := by
  unfold f_X11_flow at h
  refine oMet_of (L := [some (.ref 0), some (.int p1), some (.int p2), none]) jJ_X11_flow.1 rfl (Nat.le_of_ble_eq_true rfl) rfl (Nat.le_refl _) (Nat.le_refl _) ?_
  have hd : 7 ≤ 7 := Nat.le_refl _
  refine oe_aload_n (pc := 0) d_X11_flow_0 rfl ?_
  refine oe_iload_n (pc := 1) d_X11_flow_1 rfl ?_
  obtain ⟨v1, M2, q3, h⟩ := oB2_some h
  cases v1 with
  | none =>
    replace h := oCsN h
    refine oe_callV (pc := 2) (ci := 11) d_X11_flow_2 (v_X11_layingAt hK  q3) (by omega) ml_X11_148 jJ_X11_layingAt rfl rfl (oLt hK (a := 0) (Nat.le_of_ble_eq_true rfl)) (oSho hK (a := 0) (Nat.le_of_ble_eq_true rfl) rfl) ock11 rfl (Nat.le_of_ble_eq_true rfl) ⟨Nat.le_refl _, Nat.le_refl _⟩ ⟨Nat.le_refl _, Nat.le_refl _⟩ ?_
    refine oe_astore_nN (pc := 5) (L2 := [_, _, _, _]) d_X11_flow_5 rfl rfl (Nat.le_of_ble_eq_true rfl) rfl ?_
    refine oe_aload_nN (pc := 6) d_X11_flow_6 rfl ?_
    refine oe_ifnullN (pc := 7) (tgt := 17) d_X11_flow_7 (by decide) ?_
    refine oe_iconst (pc := 17) (v := (-1)) d_X11_flow_17 rfl ?_
    refine oe_goto (pc := 18) (tgt := 29) d_X11_flow_18 (by decide) ?_
    obtain ⟨rfl, rfl⟩ := oRes h
    exact oe_iret (pc := 29) d_X11_flow_29 ⟨_, rfl, rfl⟩
  | some h4 =>
    replace h := oCsS h
    have hh_h4 : oLS K h4 := o_X11_layingAt_ok hK q3
    refine oe_callV (pc := 2) (ci := 11) d_X11_flow_2 (v_X11_layingAt hK  q3) (by omega) ml_X11_148 jJ_X11_layingAt rfl rfl (oLt hK (a := 0) (Nat.le_of_ble_eq_true rfl)) (oSho hK (a := 0) (Nat.le_of_ble_eq_true rfl) rfl) ock11 rfl (Nat.le_of_ble_eq_true rfl) ⟨Nat.le_refl _, Nat.le_refl _⟩ ⟨Nat.le_refl _, Nat.le_refl _⟩ ?_
    refine oe_astore_n (pc := 5) (L2 := [_, _, _, _]) d_X11_flow_5 rfl rfl (Nat.le_of_ble_eq_true rfl) rfl ?_
    refine oe_aload_n (pc := 6) d_X11_flow_6 rfl ?_
    refine oe_ifnull (pc := 7) d_X11_flow_7 ?_
    refine oe_iload_n (pc := 10) d_X11_flow_10 rfl ?_
    obtain ⟨v5, M6, q7, h⟩ := oB2_some h
    cases v5 with
    | true =>
      replace h := oCt h
      refine oe_callS (pc := 11) d_X11_flow_11 (v_X11_isNeed hK  q7) (by omega) ml_X11_199 jJ_X11_isNeed rfl rfl (Nat.le_of_ble_eq_true rfl) ⟨Nat.le_refl _, Nat.le_refl _⟩ ⟨Nat.le_refl _, Nat.le_refl _⟩ ?_
      refine oe_if_ne (pc := 14) (tgt := 21) d_X11_flow_14 (by decide) (fun _ => ?_) (fun c => absurd c (by decide))
      refine oe_aload_n (pc := 21) d_X11_flow_21 rfl ?_
      refine oe_aload_n (pc := 22) d_X11_flow_22 rfl ?_
      refine oe_iload_n (pc := 23) d_X11_flow_23 rfl ?_
      refine oe_iconst (pc := 24) (v := 0) d_X11_flow_24 rfl ?_
      refine oe_iconst (pc := 25) (v := 0) d_X11_flow_25 rfl ?_
      obtain ⟨v8, M9, q10, h⟩ := oB2_some h
      refine oe_callV (pc := 26) (ci := 11) d_X11_flow_26 (v_X11_flowWith hK hh_h4 q10) (by omega) ml_X11_202 jJ_X11_flowWith rfl rfl (oLt hK (a := 0) (Nat.le_of_ble_eq_true rfl)) (oSho hK (a := 0) (Nat.le_of_ble_eq_true rfl) rfl) ock11 rfl (Nat.le_of_ble_eq_true rfl) ⟨Nat.le_refl _, Nat.le_refl _⟩ ⟨Nat.le_refl _, Nat.le_refl _⟩ ?_
      obtain ⟨rfl, rfl⟩ := oRes h
      exact oe_iret (pc := 29) d_X11_flow_29 ⟨_, rfl, rfl⟩
    | false =>
      replace h := oCf h
      refine oe_callS (pc := 11) d_X11_flow_11 (v_X11_isNeed hK  q7) (by omega) ml_X11_199 jJ_X11_isNeed rfl rfl (Nat.le_of_ble_eq_true rfl) ⟨Nat.le_refl _, Nat.le_refl _⟩ ⟨Nat.le_refl _, Nat.le_refl _⟩ ?_
      refine oe_if_ne (pc := 14) (tgt := 21) d_X11_flow_14 (by decide) (fun c => absurd (by decide) c) (fun _ => ?_)
      refine oe_iconst (pc := 17) (v := (-1)) d_X11_flow_17 rfl ?_
      refine oe_goto (pc := 18) (tgt := 29) d_X11_flow_18 (by decide) ?_
      obtain ⟨rfl, rfl⟩ := oRes h
      exact oe_iret (pc := 29) d_X11_flow_29 ⟨_, rfl, rfl⟩
theorem d_X11_judge_0 : decode J_X11_judge.2.1 0 = .ok (.aload_n 0, 1) := by decide +kernel
theorem d_X11_judge_1 : decode J_X11_judge.2.1 1 = .ok (.iload_n 1, 1) := by decide +kernel
theorem d_X11_judge_2 : decode J_X11_judge.2.1 2 = .ok (.invokevirtual 148, 3) := by decide +kernel
theorem d_X11_judge_5 : decode J_X11_judge.2.1 5 = .ok (.astore 4, 2) := by decide +kernel
theorem d_X11_judge_7 : decode J_X11_judge.2.1 7 = .ok (.aload 4, 2) := by decide +kernel
theorem d_X11_judge_9 : decode J_X11_judge.2.1 9 = .ok (.ifnull 17, 3) := by decide +kernel
theorem d_X11_judge_12 : decode J_X11_judge.2.1 12 = .ok (.iload_n 2, 1) := by decide +kernel
theorem d_X11_judge_13 : decode J_X11_judge.2.1 13 = .ok (.invokestatic 126, 3) := by decide +kernel
theorem d_X11_judge_16 : decode J_X11_judge.2.1 16 = .ok (.ifCond .eq 10, 3) := by decide +kernel
theorem d_X11_judge_19 : decode J_X11_judge.2.1 19 = .ok (.iload_n 3, 1) := by decide +kernel
theorem d_X11_judge_20 : decode J_X11_judge.2.1 20 = .ok (.invokestatic 199, 3) := by decide +kernel
theorem d_X11_judge_23 : decode J_X11_judge.2.1 23 = .ok (.ifCond .ne 5, 3) := by decide +kernel
theorem d_X11_judge_26 : decode J_X11_judge.2.1 26 = .ok (.iconst (-1), 1) := by decide +kernel
theorem d_X11_judge_27 : decode J_X11_judge.2.1 27 = .ok (.ireturn, 1) := by decide +kernel
theorem d_X11_judge_28 : decode J_X11_judge.2.1 28 = .ok (.aload_n 0, 1) := by decide +kernel
theorem d_X11_judge_29 : decode J_X11_judge.2.1 29 = .ok (.getfield 50, 3) := by decide +kernel
theorem d_X11_judge_32 : decode J_X11_judge.2.1 32 = .ok (.aload 4, 2) := by decide +kernel
theorem d_X11_judge_34 : decode J_X11_judge.2.1 34 = .ok (.iconst 0, 1) := by decide +kernel
theorem d_X11_judge_35 : decode J_X11_judge.2.1 35 = .ok (.iconst 0, 1) := by decide +kernel
theorem d_X11_judge_36 : decode J_X11_judge.2.1 36 = .ok (.invokevirtual 192, 3) := by decide +kernel
theorem d_X11_judge_39 : decode J_X11_judge.2.1 39 = .ok (.aload_n 0, 1) := by decide +kernel
theorem d_X11_judge_40 : decode J_X11_judge.2.1 40 = .ok (.getfield 50, 3) := by decide +kernel
theorem d_X11_judge_43 : decode J_X11_judge.2.1 43 = .ok (.iload_n 2, 1) := by decide +kernel
theorem d_X11_judge_44 : decode J_X11_judge.2.1 44 = .ok (.iload_n 3, 1) := by decide +kernel
theorem d_X11_judge_45 : decode J_X11_judge.2.1 45 = .ok (.iconst 1, 1) := by decide +kernel
theorem d_X11_judge_46 : decode J_X11_judge.2.1 46 = .ok (.invokevirtual 205, 3) := by decide +kernel
theorem d_X11_judge_49 : decode J_X11_judge.2.1 49 = .ok (.ireturn, 1) := by decide +kernel
def f_X11_judge (N : Nat) (K : oK) (p1 : Int32) (p2 : Int32) (p3 : Int32) (M : oM) : Option (Int32 × oM) :=
  oB2 (f_X11_layingAt N K p1 M) (fun v1 M2 => oCs v1 (some ((-1), M2)) (fun h4 => oB2 (f_X11_isFlow N K p2 M2) (fun v5 M6 => cond v5 (oB2 (f_X11_isNeed N K p3 M6) (fun v8 M9 => cond v8 (oB2 (f_X2_lay N K h4 (0 : Int32) (0 : Int32) M9) (fun v11 M12 => oB2 (f_X2_judged N K p2 p3 (1 : Int32) M12) (fun v14 M15 => some (v14, M15)))) (some ((-1), M9)))) (some ((-1), M6)))))
set_option maxRecDepth 20000 in
theorem v_X11_judge {X : oX} {N : Nat} {K : oK} {p1 : Int32} {p2 : Int32} {p3 : Int32} {M : oM} {v : Int32} {M' : oM} (hK : oSR K)  (h : f_X11_judge N K p1 p2 p3 M = some (v, M')) : oMet X 5 J_X11_judge [(.ref 0), (.int p1), (.int p2), (.int p3)] K M (some (.int v)) K M' := by
  unfold f_X11_judge at h
  refine oMet_of (L := [some (.ref 0), some (.int p1), some (.int p2), some (.int p3), none]) jJ_X11_judge.1 rfl (Nat.le_of_ble_eq_true rfl) rfl (Nat.le_refl _) (Nat.le_refl _) ?_
  have hd : 5 ≤ 5 := Nat.le_refl _
  refine oe_aload_n (pc := 0) d_X11_judge_0 rfl ?_
  refine oe_iload_n (pc := 1) d_X11_judge_1 rfl ?_
  obtain ⟨v1, M2, q3, h⟩ := oB2_some h
  cases v1 with
  | none =>
    replace h := oCsN h
    refine oe_callV (pc := 2) (ci := 11) d_X11_judge_2 (v_X11_layingAt hK  q3) (by omega) ml_X11_148 jJ_X11_layingAt rfl rfl (oLt hK (a := 0) (Nat.le_of_ble_eq_true rfl)) (oSho hK (a := 0) (Nat.le_of_ble_eq_true rfl) rfl) ock11 rfl (Nat.le_of_ble_eq_true rfl) ⟨Nat.le_refl _, Nat.le_refl _⟩ ⟨Nat.le_refl _, Nat.le_refl _⟩ ?_
    refine oe_astoreN (pc := 5) (L2 := [_, _, _, _, _]) d_X11_judge_5 rfl (Nat.le_of_ble_eq_true rfl) rfl ?_
    refine oe_aloadN (pc := 7) d_X11_judge_7 rfl ?_
    refine oe_ifnullN (pc := 9) (tgt := 26) d_X11_judge_9 (by decide) ?_
    refine oe_iconst (pc := 26) (v := (-1)) d_X11_judge_26 rfl ?_
    obtain ⟨rfl, rfl⟩ := oRes h
    exact oe_iret (pc := 27) d_X11_judge_27 ⟨_, rfl, rfl⟩
  | some h4 =>
    replace h := oCsS h
    have hh_h4 : oLS K h4 := o_X11_layingAt_ok hK q3
    refine oe_callV (pc := 2) (ci := 11) d_X11_judge_2 (v_X11_layingAt hK  q3) (by omega) ml_X11_148 jJ_X11_layingAt rfl rfl (oLt hK (a := 0) (Nat.le_of_ble_eq_true rfl)) (oSho hK (a := 0) (Nat.le_of_ble_eq_true rfl) rfl) ock11 rfl (Nat.le_of_ble_eq_true rfl) ⟨Nat.le_refl _, Nat.le_refl _⟩ ⟨Nat.le_refl _, Nat.le_refl _⟩ ?_
    refine oe_astore (pc := 5) (L2 := [_, _, _, _, _]) d_X11_judge_5 rfl (Nat.le_of_ble_eq_true rfl) rfl ?_
    refine oe_aload (pc := 7) d_X11_judge_7 rfl ?_
    refine oe_ifnull (pc := 9) d_X11_judge_9 ?_
    refine oe_iload_n (pc := 12) d_X11_judge_12 rfl ?_
    obtain ⟨v5, M6, q7, h⟩ := oB2_some h
    cases v5 with
    | true =>
      replace h := oCt h
      refine oe_callS (pc := 13) d_X11_judge_13 (v_X11_isFlow hK  q7) (by omega) ml_X11_126 jJ_X11_isFlow rfl rfl (Nat.le_of_ble_eq_true rfl) ⟨Nat.le_refl _, Nat.le_refl _⟩ ⟨Nat.le_refl _, Nat.le_refl _⟩ ?_
      refine oe_if_eq (pc := 16) (tgt := 26) d_X11_judge_16 (by decide) (fun c => absurd c (by decide)) (fun _ => ?_)
      refine oe_iload_n (pc := 19) d_X11_judge_19 rfl ?_
      obtain ⟨v8, M9, q10, h⟩ := oB2_some h
      cases v8 with
      | true =>
        replace h := oCt h
        refine oe_callS (pc := 20) d_X11_judge_20 (v_X11_isNeed hK  q10) (by omega) ml_X11_199 jJ_X11_isNeed rfl rfl (Nat.le_of_ble_eq_true rfl) ⟨Nat.le_refl _, Nat.le_refl _⟩ ⟨Nat.le_refl _, Nat.le_refl _⟩ ?_
        refine oe_if_ne (pc := 23) (tgt := 28) d_X11_judge_23 (by decide) (fun _ => ?_) (fun c => absurd c (by decide))
        refine oe_aload_n (pc := 28) d_X11_judge_28 rfl ?_
        refine oe_getr (pc := 29) d_X11_judge_29 fl_X11_50 ock11 (k := 5) (b := 21) (Nat.le_of_ble_eq_true rfl) (by decide) (oLt hK (a := 0) (Nat.le_of_ble_eq_true rfl)) (oSho hK (a := 0) (Nat.le_of_ble_eq_true rfl) rfl) (oRfK hK rfl) ?_
        refine oe_aload (pc := 32) d_X11_judge_32 rfl ?_
        refine oe_iconst (pc := 34) (v := 0) d_X11_judge_34 rfl ?_
        refine oe_iconst (pc := 35) (v := 0) d_X11_judge_35 rfl ?_
        obtain ⟨v11, M12, q13, h⟩ := oB2_some h
        refine oe_callV (pc := 36) (ci := 2) d_X11_judge_36 (v_X2_lay hK hh_h4 q13) (by omega) ml_X11_192 jJ_X2_lay rfl rfl (oLt hK (a := 21) (Nat.le_of_ble_eq_true rfl)) (oSho hK (a := 21) (Nat.le_of_ble_eq_true rfl) rfl) ock2 rfl (Nat.le_of_ble_eq_true rfl) ⟨Nat.le_refl _, Nat.le_refl _⟩ ⟨Nat.le_refl _, Nat.le_refl _⟩ ?_
        refine oe_aload_n (pc := 39) d_X11_judge_39 rfl ?_
        refine oe_getr (pc := 40) d_X11_judge_40 fl_X11_50 ock11 (k := 5) (b := 21) (Nat.le_of_ble_eq_true rfl) (by decide) (oLt hK (a := 0) (Nat.le_of_ble_eq_true rfl)) (oSho hK (a := 0) (Nat.le_of_ble_eq_true rfl) rfl) (oRfK hK rfl) ?_
        refine oe_iload_n (pc := 43) d_X11_judge_43 rfl ?_
        refine oe_iload_n (pc := 44) d_X11_judge_44 rfl ?_
        refine oe_iconst (pc := 45) (v := 1) d_X11_judge_45 rfl ?_
        obtain ⟨v14, M15, q16, h⟩ := oB2_some h
        refine oe_callV (pc := 46) (ci := 2) d_X11_judge_46 (v_X2_judged hK  q16) (by omega) ml_X11_205 jJ_X2_judged rfl rfl (oLt hK (a := 21) (Nat.le_of_ble_eq_true rfl)) (oSho hK (a := 21) (Nat.le_of_ble_eq_true rfl) rfl) ock2 rfl (Nat.le_of_ble_eq_true rfl) ⟨Nat.le_refl _, Nat.le_refl _⟩ ⟨Nat.le_refl _, Nat.le_refl _⟩ ?_
        obtain ⟨rfl, rfl⟩ := oRes h
        exact oe_iret (pc := 49) d_X11_judge_49 ⟨_, rfl, rfl⟩
      | false =>
        replace h := oCf h
        refine oe_callS (pc := 20) d_X11_judge_20 (v_X11_isNeed hK  q10) (by omega) ml_X11_199 jJ_X11_isNeed rfl rfl (Nat.le_of_ble_eq_true rfl) ⟨Nat.le_refl _, Nat.le_refl _⟩ ⟨Nat.le_refl _, Nat.le_refl _⟩ ?_
        refine oe_if_ne (pc := 23) (tgt := 28) d_X11_judge_23 (by decide) (fun c => absurd (by decide) c) (fun _ => ?_)
        refine oe_iconst (pc := 26) (v := (-1)) d_X11_judge_26 rfl ?_
        obtain ⟨rfl, rfl⟩ := oRes h
        exact oe_iret (pc := 27) d_X11_judge_27 ⟨_, rfl, rfl⟩
    | false =>
      replace h := oCf h
      refine oe_callS (pc := 13) d_X11_judge_13 (v_X11_isFlow hK  q7) (by omega) ml_X11_126 jJ_X11_isFlow rfl rfl (Nat.le_of_ble_eq_true rfl) ⟨Nat.le_refl _, Nat.le_refl _⟩ ⟨Nat.le_refl _, Nat.le_refl _⟩ ?_
      refine oe_if_eq (pc := 16) (tgt := 26) d_X11_judge_16 (by decide) (fun _ => ?_) (fun c => absurd (by decide) c)
      refine oe_iconst (pc := 26) (v := (-1)) d_X11_judge_26 rfl ?_
      obtain ⟨rfl, rfl⟩ := oRes h
      exact oe_iret (pc := 27) d_X11_judge_27 ⟨_, rfl, rfl⟩
theorem d_X11_bound_0 : decode J_X11_bound.2.1 0 = .ok (.aload_n 0, 1) := by decide +kernel
theorem d_X11_bound_1 : decode J_X11_bound.2.1 1 = .ok (.iload_n 1, 1) := by decide +kernel
theorem d_X11_bound_2 : decode J_X11_bound.2.1 2 = .ok (.invokevirtual 148, 3) := by decide +kernel
theorem d_X11_bound_5 : decode J_X11_bound.2.1 5 = .ok (.astore_n 3, 1) := by decide +kernel
theorem d_X11_bound_6 : decode J_X11_bound.2.1 6 = .ok (.aload_n 3, 1) := by decide +kernel
theorem d_X11_bound_7 : decode J_X11_bound.2.1 7 = .ok (.ifnull 10, 3) := by decide +kernel
theorem d_X11_bound_10 : decode J_X11_bound.2.1 10 = .ok (.iload_n 2, 1) := by decide +kernel
theorem d_X11_bound_11 : decode J_X11_bound.2.1 11 = .ok (.invokestatic 199, 3) := by decide +kernel
theorem d_X11_bound_14 : decode J_X11_bound.2.1 14 = .ok (.ifCond .ne 5, 3) := by decide +kernel
theorem d_X11_bound_17 : decode J_X11_bound.2.1 17 = .ok (.iconst (-1), 1) := by decide +kernel
theorem d_X11_bound_18 : decode J_X11_bound.2.1 18 = .ok (.ireturn, 1) := by decide +kernel
theorem d_X11_bound_19 : decode J_X11_bound.2.1 19 = .ok (.aload_n 0, 1) := by decide +kernel
theorem d_X11_bound_20 : decode J_X11_bound.2.1 20 = .ok (.aload_n 3, 1) := by decide +kernel
theorem d_X11_bound_21 : decode J_X11_bound.2.1 21 = .ok (.iload_n 2, 1) := by decide +kernel
theorem d_X11_bound_22 : decode J_X11_bound.2.1 22 = .ok (.iconst 0, 1) := by decide +kernel
theorem d_X11_bound_23 : decode J_X11_bound.2.1 23 = .ok (.iconst 0, 1) := by decide +kernel
theorem d_X11_bound_24 : decode J_X11_bound.2.1 24 = .ok (.invokevirtual 202, 3) := by decide +kernel
theorem d_X11_bound_27 : decode J_X11_bound.2.1 27 = .ok (.istore 4, 2) := by decide +kernel
theorem d_X11_bound_29 : decode J_X11_bound.2.1 29 = .ok (.iload 4, 2) := by decide +kernel
theorem d_X11_bound_31 : decode J_X11_bound.2.1 31 = .ok (.bipush (-2), 2) := by decide +kernel
theorem d_X11_bound_33 : decode J_X11_bound.2.1 33 = .ok (.if_icmp .eq 24, 3) := by decide +kernel
theorem d_X11_bound_36 : decode J_X11_bound.2.1 36 = .ok (.aload_n 0, 1) := by decide +kernel
theorem d_X11_bound_37 : decode J_X11_bound.2.1 37 = .ok (.getfield 50, 3) := by decide +kernel
theorem d_X11_bound_40 : decode J_X11_bound.2.1 40 = .ok (.iload 4, 2) := by decide +kernel
theorem d_X11_bound_42 : decode J_X11_bound.2.1 42 = .ok (.iload_n 2, 1) := by decide +kernel
theorem d_X11_bound_43 : decode J_X11_bound.2.1 43 = .ok (.iconst 1, 1) := by decide +kernel
theorem d_X11_bound_44 : decode J_X11_bound.2.1 44 = .ok (.invokevirtual 205, 3) := by decide +kernel
theorem d_X11_bound_47 : decode J_X11_bound.2.1 47 = .ok (.bipush (-2), 2) := by decide +kernel
theorem d_X11_bound_49 : decode J_X11_bound.2.1 49 = .ok (.if_icmp .ne 8, 3) := by decide +kernel
theorem d_X11_bound_52 : decode J_X11_bound.2.1 52 = .ok (.iload 4, 2) := by decide +kernel
theorem d_X11_bound_54 : decode J_X11_bound.2.1 54 = .ok (.goto 5, 3) := by decide +kernel
theorem d_X11_bound_57 : decode J_X11_bound.2.1 57 = .ok (.bipush (-2), 2) := by decide +kernel
theorem d_X11_bound_59 : decode J_X11_bound.2.1 59 = .ok (.ireturn, 1) := by decide +kernel
def f_X11_bound (N : Nat) (K : oK) (p1 : Int32) (p2 : Int32) (M : oM) : Option (Int32 × oM) :=
  oB2 (f_X11_layingAt N K p1 M) (fun v1 M2 => oCs v1 (some ((-1), M2)) (fun h4 => oB2 (f_X11_isNeed N K p2 M2) (fun v5 M6 => cond v5 (oB2 (f_X11_flowWith N K h4 p2 (0 : Int32) (0 : Int32) M6) (fun v8 M9 => (if v8 = (-2) then some ((-2), M9) else oB2 (f_X2_judged N K v8 p2 (1 : Int32) M9) (fun v12 M13 => (if v12 = (-2) then some (v8, M13) else some ((-2), M13)))))) (some ((-1), M6)))))
set_option maxRecDepth 20000 in
theorem v_X11_bound {X : oX} {N : Nat} {K : oK} {p1 : Int32} {p2 : Int32} {M : oM} {v : Int32} {M' : oM} (hK : oSR K)  (h : f_X11_bound N K p1 p2 M = some (v, M')) : oMet X 7 J_X11_bound [(.ref 0), (.int p1), (.int p2)] K M (some (.int v)) K M' := by
  unfold f_X11_bound at h
  refine oMet_of (L := [some (.ref 0), some (.int p1), some (.int p2), none, none]) jJ_X11_bound.1 rfl (Nat.le_of_ble_eq_true rfl) rfl (Nat.le_refl _) (Nat.le_refl _) ?_
  have hd : 7 ≤ 7 := Nat.le_refl _
  refine oe_aload_n (pc := 0) d_X11_bound_0 rfl ?_
  refine oe_iload_n (pc := 1) d_X11_bound_1 rfl ?_
  obtain ⟨v1, M2, q3, h⟩ := oB2_some h
  cases v1 with
  | none =>
    replace h := oCsN h
    refine oe_callV (pc := 2) (ci := 11) d_X11_bound_2 (v_X11_layingAt hK  q3) (by omega) ml_X11_148 jJ_X11_layingAt rfl rfl (oLt hK (a := 0) (Nat.le_of_ble_eq_true rfl)) (oSho hK (a := 0) (Nat.le_of_ble_eq_true rfl) rfl) ock11 rfl (Nat.le_of_ble_eq_true rfl) ⟨Nat.le_refl _, Nat.le_refl _⟩ ⟨Nat.le_refl _, Nat.le_refl _⟩ ?_
    refine oe_astore_nN (pc := 5) (L2 := [_, _, _, _, _]) d_X11_bound_5 rfl rfl (Nat.le_of_ble_eq_true rfl) rfl ?_
    refine oe_aload_nN (pc := 6) d_X11_bound_6 rfl ?_
    refine oe_ifnullN (pc := 7) (tgt := 17) d_X11_bound_7 (by decide) ?_
    refine oe_iconst (pc := 17) (v := (-1)) d_X11_bound_17 rfl ?_
    obtain ⟨rfl, rfl⟩ := oRes h
    exact oe_iret (pc := 18) d_X11_bound_18 ⟨_, rfl, rfl⟩
  | some h4 =>
    replace h := oCsS h
    have hh_h4 : oLS K h4 := o_X11_layingAt_ok hK q3
    refine oe_callV (pc := 2) (ci := 11) d_X11_bound_2 (v_X11_layingAt hK  q3) (by omega) ml_X11_148 jJ_X11_layingAt rfl rfl (oLt hK (a := 0) (Nat.le_of_ble_eq_true rfl)) (oSho hK (a := 0) (Nat.le_of_ble_eq_true rfl) rfl) ock11 rfl (Nat.le_of_ble_eq_true rfl) ⟨Nat.le_refl _, Nat.le_refl _⟩ ⟨Nat.le_refl _, Nat.le_refl _⟩ ?_
    refine oe_astore_n (pc := 5) (L2 := [_, _, _, _, _]) d_X11_bound_5 rfl rfl (Nat.le_of_ble_eq_true rfl) rfl ?_
    refine oe_aload_n (pc := 6) d_X11_bound_6 rfl ?_
    refine oe_ifnull (pc := 7) d_X11_bound_7 ?_
    refine oe_iload_n (pc := 10) d_X11_bound_10 rfl ?_
    obtain ⟨v5, M6, q7, h⟩ := oB2_some h
    cases v5 with
    | true =>
      replace h := oCt h
      refine oe_callS (pc := 11) d_X11_bound_11 (v_X11_isNeed hK  q7) (by omega) ml_X11_199 jJ_X11_isNeed rfl rfl (Nat.le_of_ble_eq_true rfl) ⟨Nat.le_refl _, Nat.le_refl _⟩ ⟨Nat.le_refl _, Nat.le_refl _⟩ ?_
      refine oe_if_ne (pc := 14) (tgt := 19) d_X11_bound_14 (by decide) (fun _ => ?_) (fun c => absurd c (by decide))
      refine oe_aload_n (pc := 19) d_X11_bound_19 rfl ?_
      refine oe_aload_n (pc := 20) d_X11_bound_20 rfl ?_
      refine oe_iload_n (pc := 21) d_X11_bound_21 rfl ?_
      refine oe_iconst (pc := 22) (v := 0) d_X11_bound_22 rfl ?_
      refine oe_iconst (pc := 23) (v := 0) d_X11_bound_23 rfl ?_
      obtain ⟨v8, M9, q10, h⟩ := oB2_some h
      refine oe_callV (pc := 24) (ci := 11) d_X11_bound_24 (v_X11_flowWith hK hh_h4 q10) (by omega) ml_X11_202 jJ_X11_flowWith rfl rfl (oLt hK (a := 0) (Nat.le_of_ble_eq_true rfl)) (oSho hK (a := 0) (Nat.le_of_ble_eq_true rfl) rfl) ock11 rfl (Nat.le_of_ble_eq_true rfl) ⟨Nat.le_refl _, Nat.le_refl _⟩ ⟨Nat.le_refl _, Nat.le_refl _⟩ ?_
      refine oe_istore (pc := 27) (L2 := [_, _, _, _, _]) d_X11_bound_27 rfl (Nat.le_of_ble_eq_true rfl) rfl ?_
      refine oe_iload (pc := 29) d_X11_bound_29 rfl ?_
      refine oe_bipush (pc := 31) (v := (-2)) d_X11_bound_31 rfl ?_
      refine oe_icmp_eq (pc := 33) (tgt := 57) d_X11_bound_33 (by decide) (fun c11 => ?_) (fun c11 => ?_)
      · replace h := (if_pos c11).symm.trans h
        refine oe_bipush (pc := 57) (v := (-2)) d_X11_bound_57 rfl ?_
        obtain ⟨rfl, rfl⟩ := oRes h
        exact oe_iret (pc := 59) d_X11_bound_59 ⟨_, rfl, rfl⟩
      · replace h := (if_neg c11).symm.trans h
        refine oe_aload_n (pc := 36) d_X11_bound_36 rfl ?_
        refine oe_getr (pc := 37) d_X11_bound_37 fl_X11_50 ock11 (k := 5) (b := 21) (Nat.le_of_ble_eq_true rfl) (by decide) (oLt hK (a := 0) (Nat.le_of_ble_eq_true rfl)) (oSho hK (a := 0) (Nat.le_of_ble_eq_true rfl) rfl) (oRfK hK rfl) ?_
        refine oe_iload (pc := 40) d_X11_bound_40 rfl ?_
        refine oe_iload_n (pc := 42) d_X11_bound_42 rfl ?_
        refine oe_iconst (pc := 43) (v := 1) d_X11_bound_43 rfl ?_
        obtain ⟨v12, M13, q14, h⟩ := oB2_some h
        refine oe_callV (pc := 44) (ci := 2) d_X11_bound_44 (v_X2_judged hK  q14) (by omega) ml_X11_205 jJ_X2_judged rfl rfl (oLt hK (a := 21) (Nat.le_of_ble_eq_true rfl)) (oSho hK (a := 21) (Nat.le_of_ble_eq_true rfl) rfl) ock2 rfl (Nat.le_of_ble_eq_true rfl) ⟨Nat.le_refl _, Nat.le_refl _⟩ ⟨Nat.le_refl _, Nat.le_refl _⟩ ?_
        refine oe_bipush (pc := 47) (v := (-2)) d_X11_bound_47 rfl ?_
        refine oe_icmp_ne (pc := 49) (tgt := 57) d_X11_bound_49 (by decide) (fun c15 => ?_) (fun c15 => ?_)
        · replace h := (if_neg c15).symm.trans h
          refine oe_bipush (pc := 57) (v := (-2)) d_X11_bound_57 rfl ?_
          obtain ⟨rfl, rfl⟩ := oRes h
          exact oe_iret (pc := 59) d_X11_bound_59 ⟨_, rfl, rfl⟩
        · replace h := (if_pos c15).symm.trans h
          refine oe_iload (pc := 52) d_X11_bound_52 rfl ?_
          refine oe_goto (pc := 54) (tgt := 59) d_X11_bound_54 (by decide) ?_
          obtain ⟨rfl, rfl⟩ := oRes h
          exact oe_iret (pc := 59) d_X11_bound_59 ⟨_, rfl, rfl⟩
    | false =>
      replace h := oCf h
      refine oe_callS (pc := 11) d_X11_bound_11 (v_X11_isNeed hK  q7) (by omega) ml_X11_199 jJ_X11_isNeed rfl rfl (Nat.le_of_ble_eq_true rfl) ⟨Nat.le_refl _, Nat.le_refl _⟩ ⟨Nat.le_refl _, Nat.le_refl _⟩ ?_
      refine oe_if_ne (pc := 14) (tgt := 19) d_X11_bound_14 (by decide) (fun c => absurd (by decide) c) (fun _ => ?_)
      refine oe_iconst (pc := 17) (v := (-1)) d_X11_bound_17 rfl ?_
      obtain ⟨rfl, rfl⟩ := oRes h
      exact oe_iret (pc := 18) d_X11_bound_18 ⟨_, rfl, rfl⟩
theorem d_X11_most_0 : decode J_X11_most.2.1 0 = .ok (.aload_n 0, 1) := by decide +kernel
theorem d_X11_most_1 : decode J_X11_most.2.1 1 = .ok (.iload_n 1, 1) := by decide +kernel
theorem d_X11_most_2 : decode J_X11_most.2.1 2 = .ok (.invokevirtual 148, 3) := by decide +kernel
theorem d_X11_most_5 : decode J_X11_most.2.1 5 = .ok (.astore 4, 2) := by decide +kernel
theorem d_X11_most_7 : decode J_X11_most.2.1 7 = .ok (.aload 4, 2) := by decide +kernel
theorem d_X11_most_9 : decode J_X11_most.2.1 9 = .ok (.ifnull 19, 3) := by decide +kernel
theorem d_X11_most_12 : decode J_X11_most.2.1 12 = .ok (.iload_n 2, 1) := by decide +kernel
theorem d_X11_most_13 : decode J_X11_most.2.1 13 = .ok (.invokestatic 199, 3) := by decide +kernel
theorem d_X11_most_16 : decode J_X11_most.2.1 16 = .ok (.ifCond .eq 12, 3) := by decide +kernel
theorem d_X11_most_19 : decode J_X11_most.2.1 19 = .ok (.iload_n 3, 1) := by decide +kernel
theorem d_X11_most_20 : decode J_X11_most.2.1 20 = .ok (.iconst 0, 1) := by decide +kernel
theorem d_X11_most_21 : decode J_X11_most.2.1 21 = .ok (.iconst 2, 1) := by decide +kernel
theorem d_X11_most_22 : decode J_X11_most.2.1 22 = .ok (.invokestatic 89, 3) := by decide +kernel
theorem d_X11_most_25 : decode J_X11_most.2.1 25 = .ok (.ifCond .ne 5, 3) := by decide +kernel
theorem d_X11_most_28 : decode J_X11_most.2.1 28 = .ok (.iconst (-1), 1) := by decide +kernel
theorem d_X11_most_29 : decode J_X11_most.2.1 29 = .ok (.ireturn, 1) := by decide +kernel
theorem d_X11_most_30 : decode J_X11_most.2.1 30 = .ok (.aload_n 0, 1) := by decide +kernel
theorem d_X11_most_31 : decode J_X11_most.2.1 31 = .ok (.getfield 57, 3) := by decide +kernel
theorem d_X11_most_34 : decode J_X11_most.2.1 34 = .ok (.aload 4, 2) := by decide +kernel
theorem d_X11_most_36 : decode J_X11_most.2.1 36 = .ok (.invokevirtual 209, 3) := by decide +kernel
theorem d_X11_most_39 : decode J_X11_most.2.1 39 = .ok (.ifCond .ne 6, 3) := by decide +kernel
theorem d_X11_most_42 : decode J_X11_most.2.1 42 = .ok (.bipush (-4), 2) := by decide +kernel
theorem d_X11_most_44 : decode J_X11_most.2.1 44 = .ok (.ireturn, 1) := by decide +kernel
theorem d_X11_most_45 : decode J_X11_most.2.1 45 = .ok (.aload_n 0, 1) := by decide +kernel
theorem d_X11_most_46 : decode J_X11_most.2.1 46 = .ok (.getfield 57, 3) := by decide +kernel
theorem d_X11_most_49 : decode J_X11_most.2.1 49 = .ok (.iload_n 2, 1) := by decide +kernel
theorem d_X11_most_50 : decode J_X11_most.2.1 50 = .ok (.invokevirtual 212, 3) := by decide +kernel
theorem d_X11_most_53 : decode J_X11_most.2.1 53 = .ok (.istore 5, 2) := by decide +kernel
theorem d_X11_most_55 : decode J_X11_most.2.1 55 = .ok (.iload 5, 2) := by decide +kernel
theorem d_X11_most_57 : decode J_X11_most.2.1 57 = .ok (.bipush (-2), 2) := by decide +kernel
theorem d_X11_most_59 : decode J_X11_most.2.1 59 = .ok (.if_icmp .eq 7, 3) := by decide +kernel
theorem d_X11_most_62 : decode J_X11_most.2.1 62 = .ok (.iload_n 3, 1) := by decide +kernel
theorem d_X11_most_63 : decode J_X11_most.2.1 63 = .ok (.ifCond .ne 6, 3) := by decide +kernel
theorem d_X11_most_66 : decode J_X11_most.2.1 66 = .ok (.iload 5, 2) := by decide +kernel
theorem d_X11_most_68 : decode J_X11_most.2.1 68 = .ok (.ireturn, 1) := by decide +kernel
theorem d_X11_most_69 : decode J_X11_most.2.1 69 = .ok (.iload_n 3, 1) := by decide +kernel
theorem d_X11_most_70 : decode J_X11_most.2.1 70 = .ok (.iconst 1, 1) := by decide +kernel
theorem d_X11_most_71 : decode J_X11_most.2.1 71 = .ok (.if_icmp .ne 13, 3) := by decide +kernel
theorem d_X11_most_74 : decode J_X11_most.2.1 74 = .ok (.aload_n 0, 1) := by decide +kernel
theorem d_X11_most_75 : decode J_X11_most.2.1 75 = .ok (.getfield 57, 3) := by decide +kernel
theorem d_X11_most_78 : decode J_X11_most.2.1 78 = .ok (.getfield 215, 3) := by decide +kernel
theorem d_X11_most_81 : decode J_X11_most.2.1 81 = .ok (.goto 10, 3) := by decide +kernel
theorem d_X11_most_84 : decode J_X11_most.2.1 84 = .ok (.aload_n 0, 1) := by decide +kernel
theorem d_X11_most_85 : decode J_X11_most.2.1 85 = .ok (.getfield 57, 3) := by decide +kernel
theorem d_X11_most_88 : decode J_X11_most.2.1 88 = .ok (.getfield 218, 3) := by decide +kernel
theorem d_X11_most_91 : decode J_X11_most.2.1 91 = .ok (.ireturn, 1) := by decide +kernel
def f_X11_most (N : Nat) (K : oK) (p1 : Int32) (p2 : Int32) (p3 : Int32) (M : oM) : Option (Int32 × oM) :=
  oB2 (f_X11_layingAt N K p1 M) (fun v1 M2 => oCs v1 (some ((-1), M2)) (fun h4 => oB2 (f_X11_isNeed N K p2 M2) (fun v5 M6 => cond v5 (oB2 (f_X11_within N K p3 (0 : Int32) (2 : Int32) M6) (fun v8 M9 => cond v8 (oB2 (f_X7_take N K h4 M9) (fun v11 M12 => cond v11 (oB2 (f_X7_greatest N K p2 M12) (fun v14 M15 => (if v14 = (-2) then some (v14, M15) else (if p3 = 0 then some (v14, M15) else (if p3 = 1 then some ((M15.1 28 14), M15) else some ((M15.1 28 15), M15)))))) (some ((-4), M12)))) (some ((-1), M9)))) (some ((-1), M6)))))
set_option maxRecDepth 20000 in
theorem v_X11_most {X : oX} {N : Nat} {K : oK} {p1 : Int32} {p2 : Int32} {p3 : Int32} {M : oM} {v : Int32} {M' : oM} (hK : oSR K)  (h : f_X11_most N K p1 p2 p3 M = some (v, M')) : oMet X 15 J_X11_most [(.ref 0), (.int p1), (.int p2), (.int p3)] K M (some (.int v)) K M' := by
  unfold f_X11_most at h
  refine oMet_of (L := [some (.ref 0), some (.int p1), some (.int p2), some (.int p3), none, none]) jJ_X11_most.1 rfl (Nat.le_of_ble_eq_true rfl) rfl (Nat.le_refl _) (Nat.le_refl _) ?_
  have hd : 15 ≤ 15 := Nat.le_refl _
  refine oe_aload_n (pc := 0) d_X11_most_0 rfl ?_
  refine oe_iload_n (pc := 1) d_X11_most_1 rfl ?_
  obtain ⟨v1, M2, q3, h⟩ := oB2_some h
  cases v1 with
  | none =>
    replace h := oCsN h
    refine oe_callV (pc := 2) (ci := 11) d_X11_most_2 (v_X11_layingAt hK  q3) (by omega) ml_X11_148 jJ_X11_layingAt rfl rfl (oLt hK (a := 0) (Nat.le_of_ble_eq_true rfl)) (oSho hK (a := 0) (Nat.le_of_ble_eq_true rfl) rfl) ock11 rfl (Nat.le_of_ble_eq_true rfl) ⟨Nat.le_refl _, Nat.le_refl _⟩ ⟨Nat.le_refl _, Nat.le_refl _⟩ ?_
    refine oe_astoreN (pc := 5) (L2 := [_, _, _, _, _, _]) d_X11_most_5 rfl (Nat.le_of_ble_eq_true rfl) rfl ?_
    refine oe_aloadN (pc := 7) d_X11_most_7 rfl ?_
    refine oe_ifnullN (pc := 9) (tgt := 28) d_X11_most_9 (by decide) ?_
    refine oe_iconst (pc := 28) (v := (-1)) d_X11_most_28 rfl ?_
    obtain ⟨rfl, rfl⟩ := oRes h
    exact oe_iret (pc := 29) d_X11_most_29 ⟨_, rfl, rfl⟩
  | some h4 =>
    replace h := oCsS h
    have hh_h4 : oLS K h4 := o_X11_layingAt_ok hK q3
    refine oe_callV (pc := 2) (ci := 11) d_X11_most_2 (v_X11_layingAt hK  q3) (by omega) ml_X11_148 jJ_X11_layingAt rfl rfl (oLt hK (a := 0) (Nat.le_of_ble_eq_true rfl)) (oSho hK (a := 0) (Nat.le_of_ble_eq_true rfl) rfl) ock11 rfl (Nat.le_of_ble_eq_true rfl) ⟨Nat.le_refl _, Nat.le_refl _⟩ ⟨Nat.le_refl _, Nat.le_refl _⟩ ?_
    refine oe_astore (pc := 5) (L2 := [_, _, _, _, _, _]) d_X11_most_5 rfl (Nat.le_of_ble_eq_true rfl) rfl ?_
    refine oe_aload (pc := 7) d_X11_most_7 rfl ?_
    refine oe_ifnull (pc := 9) d_X11_most_9 ?_
    refine oe_iload_n (pc := 12) d_X11_most_12 rfl ?_
    obtain ⟨v5, M6, q7, h⟩ := oB2_some h
    cases v5 with
    | true =>
      replace h := oCt h
      refine oe_callS (pc := 13) d_X11_most_13 (v_X11_isNeed hK  q7) (by omega) ml_X11_199 jJ_X11_isNeed rfl rfl (Nat.le_of_ble_eq_true rfl) ⟨Nat.le_refl _, Nat.le_refl _⟩ ⟨Nat.le_refl _, Nat.le_refl _⟩ ?_
      refine oe_if_eq (pc := 16) (tgt := 28) d_X11_most_16 (by decide) (fun c => absurd c (by decide)) (fun _ => ?_)
      refine oe_iload_n (pc := 19) d_X11_most_19 rfl ?_
      refine oe_iconst (pc := 20) (v := 0) d_X11_most_20 rfl ?_
      refine oe_iconst (pc := 21) (v := 2) d_X11_most_21 rfl ?_
      obtain ⟨v8, M9, q10, h⟩ := oB2_some h
      cases v8 with
      | true =>
        replace h := oCt h
        refine oe_callS (pc := 22) d_X11_most_22 (v_X11_within hK  q10) (by omega) ml_X11_89 jJ_X11_within rfl rfl (Nat.le_of_ble_eq_true rfl) ⟨Nat.le_refl _, Nat.le_refl _⟩ ⟨Nat.le_refl _, Nat.le_refl _⟩ ?_
        refine oe_if_ne (pc := 25) (tgt := 30) d_X11_most_25 (by decide) (fun _ => ?_) (fun c => absurd c (by decide))
        refine oe_aload_n (pc := 30) d_X11_most_30 rfl ?_
        refine oe_getr (pc := 31) d_X11_most_31 fl_X11_57 ock11 (k := 6) (b := 28) (Nat.le_of_ble_eq_true rfl) (by decide) (oLt hK (a := 0) (Nat.le_of_ble_eq_true rfl)) (oSho hK (a := 0) (Nat.le_of_ble_eq_true rfl) rfl) (oRfK hK rfl) ?_
        refine oe_aload (pc := 34) d_X11_most_34 rfl ?_
        obtain ⟨v11, M12, q13, h⟩ := oB2_some h
        cases v11 with
        | true =>
          replace h := oCt h
          refine oe_callV (pc := 36) (ci := 7) d_X11_most_36 (v_X7_take hK hh_h4 q13) (by omega) ml_X11_209 jJ_X7_take rfl rfl (oLt hK (a := 28) (Nat.le_of_ble_eq_true rfl)) (oSho hK (a := 28) (Nat.le_of_ble_eq_true rfl) rfl) ock7 rfl (Nat.le_of_ble_eq_true rfl) ⟨Nat.le_refl _, Nat.le_refl _⟩ ⟨Nat.le_refl _, Nat.le_refl _⟩ ?_
          refine oe_if_ne (pc := 39) (tgt := 45) d_X11_most_39 (by decide) (fun _ => ?_) (fun c => absurd c (by decide))
          refine oe_aload_n (pc := 45) d_X11_most_45 rfl ?_
          refine oe_getr (pc := 46) d_X11_most_46 fl_X11_57 ock11 (k := 6) (b := 28) (Nat.le_of_ble_eq_true rfl) (by decide) (oLt hK (a := 0) (Nat.le_of_ble_eq_true rfl)) (oSho hK (a := 0) (Nat.le_of_ble_eq_true rfl) rfl) (oRfK hK rfl) ?_
          refine oe_iload_n (pc := 49) d_X11_most_49 rfl ?_
          obtain ⟨v14, M15, q16, h⟩ := oB2_some h
          refine oe_callV (pc := 50) (ci := 7) d_X11_most_50 (v_X7_greatest hK  q16) (by omega) ml_X11_212 jJ_X7_greatest rfl rfl (oLt hK (a := 28) (Nat.le_of_ble_eq_true rfl)) (oSho hK (a := 28) (Nat.le_of_ble_eq_true rfl) rfl) ock7 rfl (Nat.le_of_ble_eq_true rfl) ⟨Nat.le_refl _, Nat.le_refl _⟩ ⟨Nat.le_refl _, Nat.le_refl _⟩ ?_
          refine oe_istore (pc := 53) (L2 := [_, _, _, _, _, _]) d_X11_most_53 rfl (Nat.le_of_ble_eq_true rfl) rfl ?_
          refine oe_iload (pc := 55) d_X11_most_55 rfl ?_
          refine oe_bipush (pc := 57) (v := (-2)) d_X11_most_57 rfl ?_
          refine oe_icmp_eq (pc := 59) (tgt := 66) d_X11_most_59 (by decide) (fun c17 => ?_) (fun c17 => ?_)
          · replace h := (if_pos c17).symm.trans h
            refine oe_iload (pc := 66) d_X11_most_66 rfl ?_
            obtain ⟨rfl, rfl⟩ := oRes h
            exact oe_iret (pc := 68) d_X11_most_68 ⟨_, rfl, rfl⟩
          · replace h := (if_neg c17).symm.trans h
            refine oe_iload_n (pc := 62) d_X11_most_62 rfl ?_
            refine oe_if_ne (pc := 63) (tgt := 69) d_X11_most_63 (by decide) (fun c18 => ?_) (fun c18 => ?_)
            · replace h := (if_neg c18).symm.trans h
              refine oe_iload_n (pc := 69) d_X11_most_69 rfl ?_
              refine oe_iconst (pc := 70) (v := 1) d_X11_most_70 rfl ?_
              refine oe_icmp_ne (pc := 71) (tgt := 84) d_X11_most_71 (by decide) (fun c19 => ?_) (fun c19 => ?_)
              · replace h := (if_neg c19).symm.trans h
                refine oe_aload_n (pc := 84) d_X11_most_84 rfl ?_
                refine oe_getr (pc := 85) d_X11_most_85 fl_X11_57 ock11 (k := 6) (b := 28) (Nat.le_of_ble_eq_true rfl) (by decide) (oLt hK (a := 0) (Nat.le_of_ble_eq_true rfl)) (oSho hK (a := 0) (Nat.le_of_ble_eq_true rfl) rfl) (oRfK hK rfl) ?_
                refine oe_getf (pc := 88) d_X11_most_88 fl_X11_218 ock7 (k := 15) (Nat.le_of_ble_eq_true rfl) rfl (oLt hK (a := 28) (Nat.le_of_ble_eq_true rfl)) (oSho hK (a := 28) (Nat.le_of_ble_eq_true rfl) rfl) ?_
                obtain ⟨rfl, rfl⟩ := oRes h
                exact oe_iret (pc := 91) d_X11_most_91 ⟨_, rfl, rfl⟩
              · replace h := (if_pos c19).symm.trans h
                refine oe_aload_n (pc := 74) d_X11_most_74 rfl ?_
                refine oe_getr (pc := 75) d_X11_most_75 fl_X11_57 ock11 (k := 6) (b := 28) (Nat.le_of_ble_eq_true rfl) (by decide) (oLt hK (a := 0) (Nat.le_of_ble_eq_true rfl)) (oSho hK (a := 0) (Nat.le_of_ble_eq_true rfl) rfl) (oRfK hK rfl) ?_
                refine oe_getf (pc := 78) d_X11_most_78 fl_X11_215 ock7 (k := 14) (Nat.le_of_ble_eq_true rfl) rfl (oLt hK (a := 28) (Nat.le_of_ble_eq_true rfl)) (oSho hK (a := 28) (Nat.le_of_ble_eq_true rfl) rfl) ?_
                refine oe_goto (pc := 81) (tgt := 91) d_X11_most_81 (by decide) ?_
                obtain ⟨rfl, rfl⟩ := oRes h
                exact oe_iret (pc := 91) d_X11_most_91 ⟨_, rfl, rfl⟩
            · replace h := (if_pos c18).symm.trans h
              refine oe_iload (pc := 66) d_X11_most_66 rfl ?_
              obtain ⟨rfl, rfl⟩ := oRes h
              exact oe_iret (pc := 68) d_X11_most_68 ⟨_, rfl, rfl⟩
        | false =>
          replace h := oCf h
          refine oe_callV (pc := 36) (ci := 7) d_X11_most_36 (v_X7_take hK hh_h4 q13) (by omega) ml_X11_209 jJ_X7_take rfl rfl (oLt hK (a := 28) (Nat.le_of_ble_eq_true rfl)) (oSho hK (a := 28) (Nat.le_of_ble_eq_true rfl) rfl) ock7 rfl (Nat.le_of_ble_eq_true rfl) ⟨Nat.le_refl _, Nat.le_refl _⟩ ⟨Nat.le_refl _, Nat.le_refl _⟩ ?_
          refine oe_if_ne (pc := 39) (tgt := 45) d_X11_most_39 (by decide) (fun c => absurd (by decide) c) (fun _ => ?_)
          refine oe_bipush (pc := 42) (v := (-4)) d_X11_most_42 rfl ?_
          obtain ⟨rfl, rfl⟩ := oRes h
          exact oe_iret (pc := 44) d_X11_most_44 ⟨_, rfl, rfl⟩
      | false =>
        replace h := oCf h
        refine oe_callS (pc := 22) d_X11_most_22 (v_X11_within hK  q10) (by omega) ml_X11_89 jJ_X11_within rfl rfl (Nat.le_of_ble_eq_true rfl) ⟨Nat.le_refl _, Nat.le_refl _⟩ ⟨Nat.le_refl _, Nat.le_refl _⟩ ?_
        refine oe_if_ne (pc := 25) (tgt := 30) d_X11_most_25 (by decide) (fun c => absurd (by decide) c) (fun _ => ?_)
        refine oe_iconst (pc := 28) (v := (-1)) d_X11_most_28 rfl ?_
        obtain ⟨rfl, rfl⟩ := oRes h
        exact oe_iret (pc := 29) d_X11_most_29 ⟨_, rfl, rfl⟩
    | false =>
      replace h := oCf h
      refine oe_callS (pc := 13) d_X11_most_13 (v_X11_isNeed hK  q7) (by omega) ml_X11_199 jJ_X11_isNeed rfl rfl (Nat.le_of_ble_eq_true rfl) ⟨Nat.le_refl _, Nat.le_refl _⟩ ⟨Nat.le_refl _, Nat.le_refl _⟩ ?_
      refine oe_if_eq (pc := 16) (tgt := 28) d_X11_most_16 (by decide) (fun _ => ?_) (fun c => absurd (by decide) c)
      refine oe_iconst (pc := 28) (v := (-1)) d_X11_most_28 rfl ?_
      obtain ⟨rfl, rfl⟩ := oRes h
      exact oe_iret (pc := 29) d_X11_most_29 ⟨_, rfl, rfl⟩
