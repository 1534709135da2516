/-! walked by program: X11_worth, X11_helps, X11_goes, X11_changed, X11_load, X11_minutes, X11_unload, X11_soon, X11_lasts, X11_turn -/
theorem d_X11_worth_0 : decode J_X11_worth.2.1 0 = .ok (.aload_n 0, 1) := by decide +kernel
theorem d_X11_worth_1 : decode J_X11_worth.2.1 1 = .ok (.iload_n 1, 1) := by decide +kernel
theorem d_X11_worth_2 : decode J_X11_worth.2.1 2 = .ok (.invokevirtual 148, 3) := by decide +kernel
theorem d_X11_worth_5 : decode J_X11_worth.2.1 5 = .ok (.astore 4, 2) := by decide +kernel
theorem d_X11_worth_7 : decode J_X11_worth.2.1 7 = .ok (.aload 4, 2) := by decide +kernel
theorem d_X11_worth_9 : decode J_X11_worth.2.1 9 = .ok (.ifnull 20, 3) := by decide +kernel
theorem d_X11_worth_12 : decode J_X11_worth.2.1 12 = .ok (.aload 4, 2) := by decide +kernel
theorem d_X11_worth_14 : decode J_X11_worth.2.1 14 = .ok (.iload_n 2, 1) := by decide +kernel
theorem d_X11_worth_15 : decode J_X11_worth.2.1 15 = .ok (.iconst 0, 1) := by decide +kernel
theorem d_X11_worth_16 : decode J_X11_worth.2.1 16 = .ok (.invokevirtual 221, 3) := by decide +kernel
theorem d_X11_worth_19 : decode J_X11_worth.2.1 19 = .ok (.ifCond .eq 10, 3) := by decide +kernel
theorem d_X11_worth_22 : decode J_X11_worth.2.1 22 = .ok (.iload_n 3, 1) := by decide +kernel
theorem d_X11_worth_23 : decode J_X11_worth.2.1 23 = .ok (.invokestatic 199, 3) := by decide +kernel
theorem d_X11_worth_26 : decode J_X11_worth.2.1 26 = .ok (.ifCond .ne 6, 3) := by decide +kernel
theorem d_X11_worth_29 : decode J_X11_worth.2.1 29 = .ok (.ldc 191, 2) := by decide +kernel
theorem d_X11_worth_31 : decode J_X11_worth.2.1 31 = .ok (.ireturn, 1) := by decide +kernel
theorem d_X11_worth_32 : decode J_X11_worth.2.1 32 = .ok (.aload_n 0, 1) := by decide +kernel
theorem d_X11_worth_33 : decode J_X11_worth.2.1 33 = .ok (.aload 4, 2) := by decide +kernel
theorem d_X11_worth_35 : decode J_X11_worth.2.1 35 = .ok (.iload_n 3, 1) := by decide +kernel
theorem d_X11_worth_36 : decode J_X11_worth.2.1 36 = .ok (.iconst 0, 1) := by decide +kernel
theorem d_X11_worth_37 : decode J_X11_worth.2.1 37 = .ok (.iconst 0, 1) := by decide +kernel
theorem d_X11_worth_38 : decode J_X11_worth.2.1 38 = .ok (.invokevirtual 202, 3) := by decide +kernel
theorem d_X11_worth_41 : decode J_X11_worth.2.1 41 = .ok (.istore 5, 2) := by decide +kernel
theorem d_X11_worth_43 : decode J_X11_worth.2.1 43 = .ok (.aload_n 0, 1) := by decide +kernel
theorem d_X11_worth_44 : decode J_X11_worth.2.1 44 = .ok (.aload 4, 2) := by decide +kernel
theorem d_X11_worth_46 : decode J_X11_worth.2.1 46 = .ok (.iload_n 3, 1) := by decide +kernel
theorem d_X11_worth_47 : decode J_X11_worth.2.1 47 = .ok (.iconst 1, 1) := by decide +kernel
theorem d_X11_worth_48 : decode J_X11_worth.2.1 48 = .ok (.iload_n 2, 1) := by decide +kernel
theorem d_X11_worth_49 : decode J_X11_worth.2.1 49 = .ok (.invokevirtual 202, 3) := by decide +kernel
theorem d_X11_worth_52 : decode J_X11_worth.2.1 52 = .ok (.istore 6, 2) := by decide +kernel
theorem d_X11_worth_54 : decode J_X11_worth.2.1 54 = .ok (.iconst 0, 1) := by decide +kernel
theorem d_X11_worth_55 : decode J_X11_worth.2.1 55 = .ok (.iload 5, 2) := by decide +kernel
theorem d_X11_worth_57 : decode J_X11_worth.2.1 57 = .ok (.invokestatic 225, 3) := by decide +kernel
theorem d_X11_worth_60 : decode J_X11_worth.2.1 60 = .ok (.iconst 0, 1) := by decide +kernel
theorem d_X11_worth_61 : decode J_X11_worth.2.1 61 = .ok (.iload 6, 2) := by decide +kernel
theorem d_X11_worth_63 : decode J_X11_worth.2.1 63 = .ok (.invokestatic 225, 3) := by decide +kernel
theorem d_X11_worth_66 : decode J_X11_worth.2.1 66 = .ok (.isub, 1) := by decide +kernel
theorem d_X11_worth_67 : decode J_X11_worth.2.1 67 = .ok (.ireturn, 1) := by decide +kernel
def f_X11_worth_29 (N : Nat) (K : oK)   (M : oM) : Option (Int32 × oM) :=
  some ((-2000000000), M)
set_option maxRecDepth 20000 in
theorem v_X11_worth_29 {X : oX} {d N : Nat} {K : oK}   {M : oM} {v : Int32} {M' : oM}  (hd : 7 ≤ d) (hK : oSR K)   (h : f_X11_worth_29 N K   M = some (v, M')) : oEv X d J_X11_worth 29 [none, none, none, none, none, none, none] [] K M (some (.int v)) K M' := by
  unfold f_X11_worth_29 at h
  refine oe_ldc (pc := 29) d_X11_worth_29 co_X11_191 ?_
  obtain ⟨rfl, rfl⟩ := oRes h
  exact oe_iret (pc := 31) d_X11_worth_31 ⟨_, rfl, rfl⟩
def f_X11_worth (N : Nat) (K : oK) (p1 : Int32) (p2 : Int32) (p3 : Int32) (M : oM) : Option (Int32 × oM) :=
  oB2 (f_X11_layingAt N K p1 M) (fun v1 M2 => oCs v1 ((f_X11_worth_29 N K   M2)) (fun h4 => oB2 (f_X6_isSort N K h4 p2 (0 : Int32) M2) (fun v5 M6 => cond v5 (oB2 (f_X11_isNeed N K p3 M6) (fun v8 M9 => cond v8 (oB2 (f_X11_flowWith N K h4 p3 (0 : Int32) (0 : Int32) M9) (fun v11 M12 => oB2 (f_X11_flowWith N K h4 p3 (1 : Int32) p2 M12) (fun v14 M15 => some (((if (0 : Int32) < v11 then v11 else (0 : Int32)) - (if (0 : Int32) < v14 then v14 else (0 : Int32))), M15)))) ((f_X11_worth_29 N K   M9)))) ((f_X11_worth_29 N K   M6)))))
set_option maxRecDepth 20000 in
theorem v_X11_worth {X : oX} {N : Nat} {K : oK} {p1 : Int32} {p2 : Int32} {p3 : Int32} {M : oM} {v : Int32} {M' : oM} (hK : oSR K)  (h : f_X11_worth N K p1 p2 p3 M = some (v, M')) : oMet X 7 J_X11_worth [(.ref 0), (.int p1), (.int p2), (.int p3)] K M (some (.int v)) K M' := by
  unfold f_X11_worth at h
  refine oMet_of (L := [some (.ref 0), some (.int p1), some (.int p2), some (.int p3), none, none, none]) jJ_X11_worth.1 rfl (Nat.le_of_ble_eq_true rfl) rfl (Nat.le_refl _) (Nat.le_refl _) ?_
  have hd : 7 ≤ 7 := Nat.le_refl _
  refine oe_aload_n (pc := 0) d_X11_worth_0 rfl ?_
  refine oe_iload_n (pc := 1) d_X11_worth_1 rfl ?_
  obtain ⟨v1, M2, q3, h⟩ := oB2_some h
  cases v1 with
  | none =>
    replace h := oCsN h
    refine oe_callV (pc := 2) (ci := 11) d_X11_worth_2 (v_X11_layingAt hK  q3) (by omega) ml_X11_148 jJ_X11_layingAt rfl rfl (oLt hK (a := 0) (Nat.le_of_ble_eq_true rfl)) (oSho hK (a := 0) (Nat.le_of_ble_eq_true rfl) rfl) ock11 rfl (Nat.le_of_ble_eq_true rfl) ⟨Nat.le_refl _, Nat.le_refl _⟩ ⟨Nat.le_refl _, Nat.le_refl _⟩ ?_
    refine oe_astoreN (pc := 5) (L2 := [_, _, _, _, _, _, _]) d_X11_worth_5 rfl (Nat.le_of_ble_eq_true rfl) rfl ?_
    refine oe_aloadN (pc := 7) d_X11_worth_7 rfl ?_
    refine oe_ifnullN (pc := 9) (tgt := 29) d_X11_worth_9 (by decide) ?_
    refine oEv.fg [false, false, false, false, false, false, false] ?_
    exact v_X11_worth_29 hd hK   h
  | some h4 =>
    replace h := oCsS h
    have hh_h4 : oLS K h4 := o_X11_layingAt_ok hK q3
    refine oe_callV (pc := 2) (ci := 11) d_X11_worth_2 (v_X11_layingAt hK  q3) (by omega) ml_X11_148 jJ_X11_layingAt rfl rfl (oLt hK (a := 0) (Nat.le_of_ble_eq_true rfl)) (oSho hK (a := 0) (Nat.le_of_ble_eq_true rfl) rfl) ock11 rfl (Nat.le_of_ble_eq_true rfl) ⟨Nat.le_refl _, Nat.le_refl _⟩ ⟨Nat.le_refl _, Nat.le_refl _⟩ ?_
    refine oe_astore (pc := 5) (L2 := [_, _, _, _, _, _, _]) d_X11_worth_5 rfl (Nat.le_of_ble_eq_true rfl) rfl ?_
    refine oe_aload (pc := 7) d_X11_worth_7 rfl ?_
    refine oe_ifnull (pc := 9) d_X11_worth_9 ?_
    refine oe_aload (pc := 12) d_X11_worth_12 rfl ?_
    refine oe_iload_n (pc := 14) d_X11_worth_14 rfl ?_
    refine oe_iconst (pc := 15) (v := 0) d_X11_worth_15 rfl ?_
    obtain ⟨v5, M6, q7, h⟩ := oB2_some h
    cases v5 with
    | true =>
      replace h := oCt h
      refine oe_callV (pc := 16) (ci := 6) d_X11_worth_16 (v_X6_isSort hK hh_h4 q7) (by omega) ml_X11_221 jJ_X6_isSort rfl rfl (oLSa hh_h4 (j := 0) (Nat.le_of_ble_eq_true rfl)) (oLSo hh_h4) ock6 rfl (Nat.le_of_ble_eq_true rfl) ⟨Nat.le_refl _, Nat.le_refl _⟩ ⟨Nat.le_refl _, Nat.le_refl _⟩ ?_
      refine oe_if_eq (pc := 19) (tgt := 29) d_X11_worth_19 (by decide) (fun c => absurd c (by decide)) (fun _ => ?_)
      refine oe_iload_n (pc := 22) d_X11_worth_22 rfl ?_
      obtain ⟨v8, M9, q10, h⟩ := oB2_some h
      cases v8 with
      | true =>
        replace h := oCt h
        refine oe_callS (pc := 23) d_X11_worth_23 (v_X11_isNeed hK  q10) (by omega) ml_X11_199 jJ_X11_isNeed rfl rfl (Nat.le_of_ble_eq_true rfl) ⟨Nat.le_refl _, Nat.le_refl _⟩ ⟨Nat.le_refl _, Nat.le_refl _⟩ ?_
        refine oe_if_ne (pc := 26) (tgt := 32) d_X11_worth_26 (by decide) (fun _ => ?_) (fun c => absurd c (by decide))
        refine oe_aload_n (pc := 32) d_X11_worth_32 rfl ?_
        refine oe_aload (pc := 33) d_X11_worth_33 rfl ?_
        refine oe_iload_n (pc := 35) d_X11_worth_35 rfl ?_
        refine oe_iconst (pc := 36) (v := 0) d_X11_worth_36 rfl ?_
        refine oe_iconst (pc := 37) (v := 0) d_X11_worth_37 rfl ?_
        obtain ⟨v11, M12, q13, h⟩ := oB2_some h
        refine oe_callV (pc := 38) (ci := 11) d_X11_worth_38 (v_X11_flowWith hK hh_h4 q13) (by omega) ml_X11_202 jJ_X11_flowWith rfl rfl (oLt hK (a := 0) (Nat.le_of_ble_eq_true rfl)) (oSho hK (a := 0) (Nat.le_of_ble_eq_true rfl) rfl) ock11 rfl (Nat.le_of_ble_eq_true rfl) ⟨Nat.le_refl _, Nat.le_refl _⟩ ⟨Nat.le_refl _, Nat.le_refl _⟩ ?_
        refine oe_istore (pc := 41) (L2 := [_, _, _, _, _, _, _]) d_X11_worth_41 rfl (Nat.le_of_ble_eq_true rfl) rfl ?_
        refine oe_aload_n (pc := 43) d_X11_worth_43 rfl ?_
        refine oe_aload (pc := 44) d_X11_worth_44 rfl ?_
        refine oe_iload_n (pc := 46) d_X11_worth_46 rfl ?_
        refine oe_iconst (pc := 47) (v := 1) d_X11_worth_47 rfl ?_
        refine oe_iload_n (pc := 48) d_X11_worth_48 rfl ?_
        obtain ⟨v14, M15, q16, h⟩ := oB2_some h
        refine oe_callV (pc := 49) (ci := 11) d_X11_worth_49 (v_X11_flowWith hK hh_h4 q16) (by omega) ml_X11_202 jJ_X11_flowWith rfl rfl (oLt hK (a := 0) (Nat.le_of_ble_eq_true rfl)) (oSho hK (a := 0) (Nat.le_of_ble_eq_true rfl) rfl) ock11 rfl (Nat.le_of_ble_eq_true rfl) ⟨Nat.le_refl _, Nat.le_refl _⟩ ⟨Nat.le_refl _, Nat.le_refl _⟩ ?_
        refine oe_istore (pc := 52) (L2 := [_, _, _, _, _, _, _]) d_X11_worth_52 rfl (Nat.le_of_ble_eq_true rfl) rfl ?_
        refine oe_iconst (pc := 54) (v := 0) d_X11_worth_54 rfl ?_
        refine oe_iload (pc := 55) d_X11_worth_55 rfl ?_
        refine oe_mmax (pc := 57) d_X11_worth_57 mm_X11_225 (by omega) (Nat.le_of_ble_eq_true rfl) ?_
        refine oe_iconst (pc := 60) (v := 0) d_X11_worth_60 rfl ?_
        refine oe_iload (pc := 61) d_X11_worth_61 rfl ?_
        refine oe_mmax (pc := 63) d_X11_worth_63 mm_X11_225 (by omega) (Nat.le_of_ble_eq_true rfl) ?_
        refine oe_isub (pc := 66) d_X11_worth_66 ?_
        obtain ⟨rfl, rfl⟩ := oRes h
        exact oe_iret (pc := 67) d_X11_worth_67 ⟨_, rfl, rfl⟩
      | false =>
        replace h := oCf h
        refine oe_callS (pc := 23) d_X11_worth_23 (v_X11_isNeed hK  q10) (by omega) ml_X11_199 jJ_X11_isNeed rfl rfl (Nat.le_of_ble_eq_true rfl) ⟨Nat.le_refl _, Nat.le_refl _⟩ ⟨Nat.le_refl _, Nat.le_refl _⟩ ?_
        refine oe_if_ne (pc := 26) (tgt := 32) d_X11_worth_26 (by decide) (fun c => absurd (by decide) c) (fun _ => ?_)
        refine oEv.fg [false, false, false, false, false, false, false] ?_
        exact v_X11_worth_29 hd hK   h
    | false =>
      replace h := oCf h
      refine oe_callV (pc := 16) (ci := 6) d_X11_worth_16 (v_X6_isSort hK hh_h4 q7) (by omega) ml_X11_221 jJ_X6_isSort rfl rfl (oLSa hh_h4 (j := 0) (Nat.le_of_ble_eq_true rfl)) (oLSo hh_h4) ock6 rfl (Nat.le_of_ble_eq_true rfl) ⟨Nat.le_refl _, Nat.le_refl _⟩ ⟨Nat.le_refl _, Nat.le_refl _⟩ ?_
      refine oe_if_eq (pc := 19) (tgt := 29) d_X11_worth_19 (by decide) (fun _ => ?_) (fun c => absurd (by decide) c)
      refine oEv.fg [false, false, false, false, false, false, false] ?_
      exact v_X11_worth_29 hd hK   h
theorem d_X11_helps_0 : decode J_X11_helps.2.1 0 = .ok (.aload_n 0, 1) := by decide +kernel
theorem d_X11_helps_1 : decode J_X11_helps.2.1 1 = .ok (.iload_n 1, 1) := by decide +kernel
theorem d_X11_helps_2 : decode J_X11_helps.2.1 2 = .ok (.invokevirtual 148, 3) := by decide +kernel
theorem d_X11_helps_5 : decode J_X11_helps.2.1 5 = .ok (.astore 4, 2) := by decide +kernel
theorem d_X11_helps_7 : decode J_X11_helps.2.1 7 = .ok (.aload 4, 2) := by decide +kernel
theorem d_X11_helps_9 : decode J_X11_helps.2.1 9 = .ok (.ifnull 27, 3) := by decide +kernel
theorem d_X11_helps_12 : decode J_X11_helps.2.1 12 = .ok (.aload 4, 2) := by decide +kernel
theorem d_X11_helps_14 : decode J_X11_helps.2.1 14 = .ok (.getfield 177, 3) := by decide +kernel
theorem d_X11_helps_17 : decode J_X11_helps.2.1 17 = .ok (.ifCond .eq 19, 3) := by decide +kernel
theorem d_X11_helps_20 : decode J_X11_helps.2.1 20 = .ok (.iload_n 2, 1) := by decide +kernel
theorem d_X11_helps_21 : decode J_X11_helps.2.1 21 = .ok (.invokestatic 199, 3) := by decide +kernel
theorem d_X11_helps_24 : decode J_X11_helps.2.1 24 = .ok (.ifCond .eq 12, 3) := by decide +kernel
theorem d_X11_helps_27 : decode J_X11_helps.2.1 27 = .ok (.iload_n 3, 1) := by decide +kernel
theorem d_X11_helps_28 : decode J_X11_helps.2.1 28 = .ok (.iconst 0, 1) := by decide +kernel
theorem d_X11_helps_29 : decode J_X11_helps.2.1 29 = .ok (.iconst 1, 1) := by decide +kernel
theorem d_X11_helps_30 : decode J_X11_helps.2.1 30 = .ok (.invokestatic 89, 3) := by decide +kernel
theorem d_X11_helps_33 : decode J_X11_helps.2.1 33 = .ok (.ifCond .ne 5, 3) := by decide +kernel
theorem d_X11_helps_36 : decode J_X11_helps.2.1 36 = .ok (.iconst (-1), 1) := by decide +kernel
theorem d_X11_helps_37 : decode J_X11_helps.2.1 37 = .ok (.ireturn, 1) := by decide +kernel
theorem d_X11_helps_38 : decode J_X11_helps.2.1 38 = .ok (.bipush (-2), 2) := by decide +kernel
theorem d_X11_helps_40 : decode J_X11_helps.2.1 40 = .ok (.istore 5, 2) := by decide +kernel
theorem d_X11_helps_42 : decode J_X11_helps.2.1 42 = .ok (.bipush (-2), 2) := by decide +kernel
theorem d_X11_helps_44 : decode J_X11_helps.2.1 44 = .ok (.istore 6, 2) := by decide +kernel
theorem d_X11_helps_46 : decode J_X11_helps.2.1 46 = .ok (.iconst 0, 1) := by decide +kernel
theorem d_X11_helps_47 : decode J_X11_helps.2.1 47 = .ok (.istore 7, 2) := by decide +kernel
theorem d_X11_helps_49 : decode J_X11_helps.2.1 49 = .ok (.iload 7, 2) := by decide +kernel
theorem d_X11_helps_51 : decode J_X11_helps.2.1 51 = .ok (.aload 4, 2) := by decide +kernel
theorem d_X11_helps_53 : decode J_X11_helps.2.1 53 = .ok (.getfield 177, 3) := by decide +kernel
theorem d_X11_helps_56 : decode J_X11_helps.2.1 56 = .ok (.if_icmp .ge 36, 3) := by decide +kernel
theorem d_X11_helps_59 : decode J_X11_helps.2.1 59 = .ok (.aload_n 0, 1) := by decide +kernel
theorem d_X11_helps_60 : decode J_X11_helps.2.1 60 = .ok (.aload 4, 2) := by decide +kernel
theorem d_X11_helps_62 : decode J_X11_helps.2.1 62 = .ok (.iload_n 2, 1) := by decide +kernel
theorem d_X11_helps_63 : decode J_X11_helps.2.1 63 = .ok (.iconst 2, 1) := by decide +kernel
theorem d_X11_helps_64 : decode J_X11_helps.2.1 64 = .ok (.iload 7, 2) := by decide +kernel
theorem d_X11_helps_66 : decode J_X11_helps.2.1 66 = .ok (.invokevirtual 202, 3) := by decide +kernel
theorem d_X11_helps_69 : decode J_X11_helps.2.1 69 = .ok (.istore 8, 2) := by decide +kernel
theorem d_X11_helps_71 : decode J_X11_helps.2.1 71 = .ok (.iload 8, 2) := by decide +kernel
theorem d_X11_helps_73 : decode J_X11_helps.2.1 73 = .ok (.iload 6, 2) := by decide +kernel
theorem d_X11_helps_75 : decode J_X11_helps.2.1 75 = .ok (.if_icmp .le 11, 3) := by decide +kernel
theorem d_X11_helps_78 : decode J_X11_helps.2.1 78 = .ok (.iload 7, 2) := by decide +kernel
theorem d_X11_helps_80 : decode J_X11_helps.2.1 80 = .ok (.istore 5, 2) := by decide +kernel
theorem d_X11_helps_82 : decode J_X11_helps.2.1 82 = .ok (.iload 8, 2) := by decide +kernel
theorem d_X11_helps_84 : decode J_X11_helps.2.1 84 = .ok (.istore 6, 2) := by decide +kernel
theorem d_X11_helps_86 : decode J_X11_helps.2.1 86 = .ok (.iinc 7 1, 3) := by decide +kernel
theorem d_X11_helps_89 : decode J_X11_helps.2.1 89 = .ok (.goto (-40), 3) := by decide +kernel
theorem d_X11_helps_92 : decode J_X11_helps.2.1 92 = .ok (.iload_n 3, 1) := by decide +kernel
theorem d_X11_helps_93 : decode J_X11_helps.2.1 93 = .ok (.ifCond .ne 8, 3) := by decide +kernel
theorem d_X11_helps_96 : decode J_X11_helps.2.1 96 = .ok (.iload 5, 2) := by decide +kernel
theorem d_X11_helps_98 : decode J_X11_helps.2.1 98 = .ok (.goto 5, 3) := by decide +kernel
theorem d_X11_helps_101 : decode J_X11_helps.2.1 101 = .ok (.iload 6, 2) := by decide +kernel
theorem d_X11_helps_103 : decode J_X11_helps.2.1 103 = .ok (.ireturn, 1) := by decide +kernel
def f_X11_helps_86 (N : Nat) (K : oK) (r49 : (Int32 → Int32 → Nat → Int32 → Int32 → Int32 → oM → Option (Int32 × oM))) (p2 : Int32) (p3 : Int32) (p4 : Nat) (p5 : Int32) (p6 : Int32) (p7 : Int32) (M : oM) : Option (Int32 × oM) :=
  (r49 p2 p3 p4 p5 p6 (p7 + 1) M)
set_option maxRecDepth 20000 in
theorem v_X11_helps_86 {X : oX} {d N : Nat} {K : oK} {r49 : (Int32 → Int32 → Nat → Int32 → Int32 → Int32 → oM → Option (Int32 × oM))} {p2 : Int32} {p3 : Int32} {p4 : Nat} {p5 : Int32} {p6 : Int32} {p7 : Int32} {M : oM} {v : Int32} {M' : oM}  (hd : 7 ≤ d) (hK : oSR K) (hh_p4 : oLS K p4) (hr49 : ∀ (p2 : Int32) (p3 : Int32) (p4 : Nat) (p5 : Int32) (p6 : Int32) (p7 : Int32) (M : oM) (v : Int32) (M' : oM)  (hh_p4 : oLS K p4), r49 p2 p3 p4 p5 p6 p7 M = some (v, M') → oEv X d J_X11_helps 49 [some (.ref 0), none, some (.int p2), some (.int p3), some (.ref p4), some (.int p5), some (.int p6), some (.int p7), none] [] K M (some (.int v)) K M') (h : f_X11_helps_86 N K r49 p2 p3 p4 p5 p6 p7 M = some (v, M')) : oEv X d J_X11_helps 86 [some (.ref 0), none, some (.int p2), some (.int p3), some (.ref p4), some (.int p5), some (.int p6), some (.int p7), none] [] K M (some (.int v)) K M' := by
  unfold f_X11_helps_86 at h
  refine oe_iinc (pc := 86) (v := (p7 + 1)) (L2 := [_, _, _, _, _, _, _, _, _]) d_X11_helps_86 rfl rfl rfl (Nat.le_of_ble_eq_true rfl) rfl ?_
  refine oe_goto (pc := 89) (tgt := 49) d_X11_helps_89 (by decide) ?_
  exact hr49 _ _ _ _ _ _ _ _ _ hh_p4 h
def f_X11_helps_49 (N : Nat) (K : oK)  : Nat → Int32 → Int32 → Nat → Int32 → Int32 → Int32 → oM → Option (Int32 × oM)
  | 0, _, _, _, _, _, _, _ => none
  | n + 1, p2, p3, p4, p5, p6, p7, M => (fun r49 => (if (M.1 p4 7) ≤ p7 then (if p3 = 0 then some (p5, M) else some (p6, M)) else oB2 (f_X11_flowWith N K p4 p2 (2 : Int32) p7 M) (fun v14 M15 => (if v14 ≤ p6 then (f_X11_helps_86 N K r49 p2 p3 p4 p5 p6 p7 M15) else (f_X11_helps_86 N K r49 p2 p3 p4 p7 v14 p7 M15))))) (f_X11_helps_49 N K  n)
set_option maxRecDepth 20000 in
theorem v_X11_helps_49_L {X : oX} {d N : Nat} {K : oK}  (hd : 7 ≤ d) (hK : oSR K)  : ∀ (n : Nat) (p2 : Int32) (p3 : Int32) (p4 : Nat) (p5 : Int32) (p6 : Int32) (p7 : Int32) (M : oM) (v : Int32) (M' : oM)  (hh_p4 : oLS K p4), f_X11_helps_49 N K  n p2 p3 p4 p5 p6 p7 M = some (v, M') → oEv X d J_X11_helps 49 [some (.ref 0), none, some (.int p2), some (.int p3), some (.ref p4), some (.int p5), some (.int p6), some (.int p7), none] [] K M (some (.int v)) K M' := by
  intro n
  induction n with
  | zero =>
    intro p2 p3 p4 p5 p6 p7 M v M'  hh_p4 h
    cases h
  | succ n hr49 =>
    intro p2 p3 p4 p5 p6 p7 M v M'  hh_p4 h
    refine oe_iload (pc := 49) d_X11_helps_49 rfl ?_
    refine oe_aload (pc := 51) d_X11_helps_51 rfl ?_
    refine oe_getf (pc := 53) d_X11_helps_53 fl_X11_177 ock6 (k := 7) (Nat.le_of_ble_eq_true rfl) rfl (oLSa hh_p4 (j := 0) (Nat.le_of_ble_eq_true rfl)) (oLSo hh_p4) ?_
    refine oe_icmp_ge (pc := 56) (tgt := 92) d_X11_helps_56 (by decide) (fun c12 => ?_) (fun c12 => ?_)
    · replace h := (if_pos c12).symm.trans h
      refine oe_iload_n (pc := 92) d_X11_helps_92 rfl ?_
      refine oe_if_ne (pc := 93) (tgt := 101) d_X11_helps_93 (by decide) (fun c13 => ?_) (fun c13 => ?_)
      · replace h := (if_neg c13).symm.trans h
        refine oe_iload (pc := 101) d_X11_helps_101 rfl ?_
        obtain ⟨rfl, rfl⟩ := oRes h
        exact oe_iret (pc := 103) d_X11_helps_103 ⟨_, rfl, rfl⟩
      · replace h := (if_pos c13).symm.trans h
        refine oe_iload (pc := 96) d_X11_helps_96 rfl ?_
        refine oe_goto (pc := 98) (tgt := 103) d_X11_helps_98 (by decide) ?_
        obtain ⟨rfl, rfl⟩ := oRes h
        exact oe_iret (pc := 103) d_X11_helps_103 ⟨_, rfl, rfl⟩
    · replace h := (if_neg c12).symm.trans h
      refine oe_aload_n (pc := 59) d_X11_helps_59 rfl ?_
      refine oe_aload (pc := 60) d_X11_helps_60 rfl ?_
      refine oe_iload_n (pc := 62) d_X11_helps_62 rfl ?_
      refine oe_iconst (pc := 63) (v := 2) d_X11_helps_63 rfl ?_
      refine oe_iload (pc := 64) d_X11_helps_64 rfl ?_
      obtain ⟨v14, M15, q16, h⟩ := oB2_some h
      refine oe_callV (pc := 66) (ci := 11) d_X11_helps_66 (v_X11_flowWith hK hh_p4 q16) (by omega) ml_X11_202 jJ_X11_flowWith rfl rfl (oLt hK (a := 0) (Nat.le_of_ble_eq_true rfl)) (oSho hK (a := 0) (Nat.le_of_ble_eq_true rfl) rfl) ock11 rfl (Nat.le_of_ble_eq_true rfl) ⟨Nat.le_refl _, Nat.le_refl _⟩ ⟨Nat.le_refl _, Nat.le_refl _⟩ ?_
      refine oe_istore (pc := 69) (L2 := [_, _, _, _, _, _, _, _, _]) d_X11_helps_69 rfl (Nat.le_of_ble_eq_true rfl) rfl ?_
      refine oe_iload (pc := 71) d_X11_helps_71 rfl ?_
      refine oe_iload (pc := 73) d_X11_helps_73 rfl ?_
      refine oe_icmp_le (pc := 75) (tgt := 86) d_X11_helps_75 (by decide) (fun c17 => ?_) (fun c17 => ?_)
      · replace h := (if_pos c17).symm.trans h
        refine oEv.fg [true, false, true, true, true, true, true, true, false] ?_
        exact v_X11_helps_86 hd hK hh_p4 hr49 h
      · replace h := (if_neg c17).symm.trans h
        refine oe_iload (pc := 78) d_X11_helps_78 rfl ?_
        refine oe_istore (pc := 80) (L2 := [_, _, _, _, _, _, _, _, _]) d_X11_helps_80 rfl (Nat.le_of_ble_eq_true rfl) rfl ?_
        refine oe_iload (pc := 82) d_X11_helps_82 rfl ?_
        refine oe_istore (pc := 84) (L2 := [_, _, _, _, _, _, _, _, _]) d_X11_helps_84 rfl (Nat.le_of_ble_eq_true rfl) rfl ?_
        refine oEv.fg [true, false, true, true, true, true, true, true, false] ?_
        exact v_X11_helps_86 hd hK hh_p4 hr49 h
theorem v_X11_helps_49 {X : oX} {d N : Nat} {K : oK}  {p2 : Int32} {p3 : Int32} {p4 : Nat} {p5 : Int32} {p6 : Int32} {p7 : Int32} {M : oM} {v : Int32} {M' : oM}  (hd : 7 ≤ d) (hK : oSR K) (hh_p4 : oLS K p4)  (h : f_X11_helps_49 N K  N p2 p3 p4 p5 p6 p7 M = some (v, M')) : oEv X d J_X11_helps 49 [some (.ref 0), none, some (.int p2), some (.int p3), some (.ref p4), some (.int p5), some (.int p6), some (.int p7), none] [] K M (some (.int v)) K M' := v_X11_helps_49_L hd hK  N p2 p3 p4 p5 p6 p7 M v M'  hh_p4 h
def f_X11_helps (N : Nat) (K : oK) (p1 : Int32) (p2 : Int32) (p3 : Int32) (M : oM) : Option (Int32 × oM) :=
  oB2 (f_X11_layingAt N K p1 M) (fun v1 M2 => oCs v1 (some ((-1), M2)) (fun h4 => (if (M2.1 h4 7) = 0 then some ((-1), M2) else oB2 (f_X11_isNeed N K p2 M2) (fun v6 M7 => cond v6 (oB2 (f_X11_within N K p3 (0 : Int32) (1 : Int32) M7) (fun v9 M10 => cond v9 ((f_X11_helps_49 N K  N p2 p3 h4 (-2) (-2) 0 M10)) (some ((-1), M10)))) (some ((-1), M7))))))
set_option maxRecDepth 20000 in
theorem v_X11_helps {X : oX} {N : Nat} {K : oK} {p1 : Int32} {p2 : Int32} {p3 : Int32} {M : oM} {v : Int32} {M' : oM} (hK : oSR K)  (h : f_X11_helps N K p1 p2 p3 M = some (v, M')) : oMet X 7 J_X11_helps [(.ref 0), (.int p1), (.int p2), (.int p3)] K M (some (.int v)) K M' := by
  unfold f_X11_helps at h
  refine oMet_of (L := [some (.ref 0), some (.int p1), some (.int p2), some (.int p3), none, none, none, none, none]) jJ_X11_helps.1 rfl (Nat.le_of_ble_eq_true rfl) rfl (Nat.le_refl _) (Nat.le_refl _) ?_
  have hd : 7 ≤ 7 := Nat.le_refl _
  refine oe_aload_n (pc := 0) d_X11_helps_0 rfl ?_
  refine oe_iload_n (pc := 1) d_X11_helps_1 rfl ?_
  obtain ⟨v1, M2, q3, h⟩ := oB2_some h
  cases v1 with
  | none =>
    replace h := oCsN h
    refine oe_callV (pc := 2) (ci := 11) d_X11_helps_2 (v_X11_layingAt hK  q3) (by omega) ml_X11_148 jJ_X11_layingAt rfl rfl (oLt hK (a := 0) (Nat.le_of_ble_eq_true rfl)) (oSho hK (a := 0) (Nat.le_of_ble_eq_true rfl) rfl) ock11 rfl (Nat.le_of_ble_eq_true rfl) ⟨Nat.le_refl _, Nat.le_refl _⟩ ⟨Nat.le_refl _, Nat.le_refl _⟩ ?_
    refine oe_astoreN (pc := 5) (L2 := [_, _, _, _, _, _, _, _, _]) d_X11_helps_5 rfl (Nat.le_of_ble_eq_true rfl) rfl ?_
    refine oe_aloadN (pc := 7) d_X11_helps_7 rfl ?_
    refine oe_ifnullN (pc := 9) (tgt := 36) d_X11_helps_9 (by decide) ?_
    refine oe_iconst (pc := 36) (v := (-1)) d_X11_helps_36 rfl ?_
    obtain ⟨rfl, rfl⟩ := oRes h
    exact oe_iret (pc := 37) d_X11_helps_37 ⟨_, rfl, rfl⟩
  | some h4 =>
    replace h := oCsS h
    have hh_h4 : oLS K h4 := o_X11_layingAt_ok hK q3
    refine oe_callV (pc := 2) (ci := 11) d_X11_helps_2 (v_X11_layingAt hK  q3) (by omega) ml_X11_148 jJ_X11_layingAt rfl rfl (oLt hK (a := 0) (Nat.le_of_ble_eq_true rfl)) (oSho hK (a := 0) (Nat.le_of_ble_eq_true rfl) rfl) ock11 rfl (Nat.le_of_ble_eq_true rfl) ⟨Nat.le_refl _, Nat.le_refl _⟩ ⟨Nat.le_refl _, Nat.le_refl _⟩ ?_
    refine oe_astore (pc := 5) (L2 := [_, _, _, _, _, _, _, _, _]) d_X11_helps_5 rfl (Nat.le_of_ble_eq_true rfl) rfl ?_
    refine oe_aload (pc := 7) d_X11_helps_7 rfl ?_
    refine oe_ifnull (pc := 9) d_X11_helps_9 ?_
    refine oe_aload (pc := 12) d_X11_helps_12 rfl ?_
    refine oe_getf (pc := 14) d_X11_helps_14 fl_X11_177 ock6 (k := 7) (Nat.le_of_ble_eq_true rfl) rfl (oLSa hh_h4 (j := 0) (Nat.le_of_ble_eq_true rfl)) (oLSo hh_h4) ?_
    refine oe_if_eq (pc := 17) (tgt := 36) d_X11_helps_17 (by decide) (fun c5 => ?_) (fun c5 => ?_)
    · replace h := (if_pos c5).symm.trans h
      refine oe_iconst (pc := 36) (v := (-1)) d_X11_helps_36 rfl ?_
      obtain ⟨rfl, rfl⟩ := oRes h
      exact oe_iret (pc := 37) d_X11_helps_37 ⟨_, rfl, rfl⟩
    · replace h := (if_neg c5).symm.trans h
      refine oe_iload_n (pc := 20) d_X11_helps_20 rfl ?_
      obtain ⟨v6, M7, q8, h⟩ := oB2_some h
      cases v6 with
      | true =>
        replace h := oCt h
        refine oe_callS (pc := 21) d_X11_helps_21 (v_X11_isNeed hK  q8) (by omega) ml_X11_199 jJ_X11_isNeed rfl rfl (Nat.le_of_ble_eq_true rfl) ⟨Nat.le_refl _, Nat.le_refl _⟩ ⟨Nat.le_refl _, Nat.le_refl _⟩ ?_
        refine oe_if_eq (pc := 24) (tgt := 36) d_X11_helps_24 (by decide) (fun c => absurd c (by decide)) (fun _ => ?_)
        refine oe_iload_n (pc := 27) d_X11_helps_27 rfl ?_
        refine oe_iconst (pc := 28) (v := 0) d_X11_helps_28 rfl ?_
        refine oe_iconst (pc := 29) (v := 1) d_X11_helps_29 rfl ?_
        obtain ⟨v9, M10, q11, h⟩ := oB2_some h
        cases v9 with
        | true =>
          replace h := oCt h
          refine oe_callS (pc := 30) d_X11_helps_30 (v_X11_within hK  q11) (by omega) ml_X11_89 jJ_X11_within rfl rfl (Nat.le_of_ble_eq_true rfl) ⟨Nat.le_refl _, Nat.le_refl _⟩ ⟨Nat.le_refl _, Nat.le_refl _⟩ ?_
          refine oe_if_ne (pc := 33) (tgt := 38) d_X11_helps_33 (by decide) (fun _ => ?_) (fun c => absurd c (by decide))
          refine oe_bipush (pc := 38) (v := (-2)) d_X11_helps_38 rfl ?_
          refine oe_istore (pc := 40) (L2 := [_, _, _, _, _, _, _, _, _]) d_X11_helps_40 rfl (Nat.le_of_ble_eq_true rfl) rfl ?_
          refine oe_bipush (pc := 42) (v := (-2)) d_X11_helps_42 rfl ?_
          refine oe_istore (pc := 44) (L2 := [_, _, _, _, _, _, _, _, _]) d_X11_helps_44 rfl (Nat.le_of_ble_eq_true rfl) rfl ?_
          refine oe_iconst (pc := 46) (v := 0) d_X11_helps_46 rfl ?_
          refine oe_istore (pc := 47) (L2 := [_, _, _, _, _, _, _, _, _]) d_X11_helps_47 rfl (Nat.le_of_ble_eq_true rfl) rfl ?_
          refine oEv.fg [true, false, true, true, true, true, true, true, false] ?_
          exact v_X11_helps_49 hd hK hh_h4  h
        | false =>
          replace h := oCf h
          refine oe_callS (pc := 30) d_X11_helps_30 (v_X11_within hK  q11) (by omega) ml_X11_89 jJ_X11_within rfl rfl (Nat.le_of_ble_eq_true rfl) ⟨Nat.le_refl _, Nat.le_refl _⟩ ⟨Nat.le_refl _, Nat.le_refl _⟩ ?_
          refine oe_if_ne (pc := 33) (tgt := 38) d_X11_helps_33 (by decide) (fun c => absurd (by decide) c) (fun _ => ?_)
          refine oe_iconst (pc := 36) (v := (-1)) d_X11_helps_36 rfl ?_
          obtain ⟨rfl, rfl⟩ := oRes h
          exact oe_iret (pc := 37) d_X11_helps_37 ⟨_, rfl, rfl⟩
      | false =>
        replace h := oCf h
        refine oe_callS (pc := 21) d_X11_helps_21 (v_X11_isNeed hK  q8) (by omega) ml_X11_199 jJ_X11_isNeed rfl rfl (Nat.le_of_ble_eq_true rfl) ⟨Nat.le_refl _, Nat.le_refl _⟩ ⟨Nat.le_refl _, Nat.le_refl _⟩ ?_
        refine oe_if_eq (pc := 24) (tgt := 36) d_X11_helps_24 (by decide) (fun _ => ?_) (fun c => absurd (by decide) c)
        refine oe_iconst (pc := 36) (v := (-1)) d_X11_helps_36 rfl ?_
        obtain ⟨rfl, rfl⟩ := oRes h
        exact oe_iret (pc := 37) d_X11_helps_37 ⟨_, rfl, rfl⟩
theorem d_X11_goes_0 : decode J_X11_goes.2.1 0 = .ok (.aload_n 0, 1) := by decide +kernel
theorem d_X11_goes_1 : decode J_X11_goes.2.1 1 = .ok (.iload_n 1, 1) := by decide +kernel
theorem d_X11_goes_2 : decode J_X11_goes.2.1 2 = .ok (.invokevirtual 148, 3) := by decide +kernel
theorem d_X11_goes_5 : decode J_X11_goes.2.1 5 = .ok (.astore 4, 2) := by decide +kernel
theorem d_X11_goes_7 : decode J_X11_goes.2.1 7 = .ok (.aload 4, 2) := by decide +kernel
theorem d_X11_goes_9 : decode J_X11_goes.2.1 9 = .ok (.ifnull 20, 3) := by decide +kernel
theorem d_X11_goes_12 : decode J_X11_goes.2.1 12 = .ok (.aload 4, 2) := by decide +kernel
theorem d_X11_goes_14 : decode J_X11_goes.2.1 14 = .ok (.iload_n 2, 1) := by decide +kernel
theorem d_X11_goes_15 : decode J_X11_goes.2.1 15 = .ok (.iconst 1, 1) := by decide +kernel
theorem d_X11_goes_16 : decode J_X11_goes.2.1 16 = .ok (.invokevirtual 221, 3) := by decide +kernel
theorem d_X11_goes_19 : decode J_X11_goes.2.1 19 = .ok (.ifCond .eq 10, 3) := by decide +kernel
theorem d_X11_goes_22 : decode J_X11_goes.2.1 22 = .ok (.iload_n 3, 1) := by decide +kernel
theorem d_X11_goes_23 : decode J_X11_goes.2.1 23 = .ok (.invokestatic 199, 3) := by decide +kernel
theorem d_X11_goes_26 : decode J_X11_goes.2.1 26 = .ok (.ifCond .ne 5, 3) := by decide +kernel
theorem d_X11_goes_29 : decode J_X11_goes.2.1 29 = .ok (.iconst (-1), 1) := by decide +kernel
theorem d_X11_goes_30 : decode J_X11_goes.2.1 30 = .ok (.ireturn, 1) := by decide +kernel
theorem d_X11_goes_31 : decode J_X11_goes.2.1 31 = .ok (.aload 4, 2) := by decide +kernel
theorem d_X11_goes_33 : decode J_X11_goes.2.1 33 = .ok (.iload_n 2, 1) := by decide +kernel
theorem d_X11_goes_34 : decode J_X11_goes.2.1 34 = .ok (.iconst (-1), 1) := by decide +kernel
theorem d_X11_goes_35 : decode J_X11_goes.2.1 35 = .ok (.invokevirtual 230, 3) := by decide +kernel
theorem d_X11_goes_38 : decode J_X11_goes.2.1 38 = .ok (.iconst 2, 1) := by decide +kernel
theorem d_X11_goes_39 : decode J_X11_goes.2.1 39 = .ok (.if_icmp .ne 19, 3) := by decide +kernel
theorem d_X11_goes_42 : decode J_X11_goes.2.1 42 = .ok (.iconst 0, 1) := by decide +kernel
theorem d_X11_goes_43 : decode J_X11_goes.2.1 43 = .ok (.aload_n 0, 1) := by decide +kernel
theorem d_X11_goes_44 : decode J_X11_goes.2.1 44 = .ok (.aload 4, 2) := by decide +kernel
theorem d_X11_goes_46 : decode J_X11_goes.2.1 46 = .ok (.iload_n 3, 1) := by decide +kernel
theorem d_X11_goes_47 : decode J_X11_goes.2.1 47 = .ok (.iconst 3, 1) := by decide +kernel
theorem d_X11_goes_48 : decode J_X11_goes.2.1 48 = .ok (.iload_n 2, 1) := by decide +kernel
theorem d_X11_goes_49 : decode J_X11_goes.2.1 49 = .ok (.invokevirtual 202, 3) := by decide +kernel
theorem d_X11_goes_52 : decode J_X11_goes.2.1 52 = .ok (.invokestatic 225, 3) := by decide +kernel
theorem d_X11_goes_55 : decode J_X11_goes.2.1 55 = .ok (.goto 4, 3) := by decide +kernel
theorem d_X11_goes_58 : decode J_X11_goes.2.1 58 = .ok (.iconst 0, 1) := by decide +kernel
theorem d_X11_goes_59 : decode J_X11_goes.2.1 59 = .ok (.ireturn, 1) := by decide +kernel
def f_X11_goes (N : Nat) (K : oK) (p1 : Int32) (p2 : Int32) (p3 : Int32) (M : oM) : Option (Int32 × oM) :=
  oB2 (f_X11_layingAt N K p1 M) (fun v1 M2 => oCs v1 (some ((-1), M2)) (fun h4 => oB2 (f_X6_isSort N K h4 p2 (1 : Int32) M2) (fun v5 M6 => cond v5 (oB2 (f_X11_isNeed N K p3 M6) (fun v8 M9 => cond v8 (oB2 (f_X6_lines N K h4 p2 ((-1) : Int32) M9) (fun v11 M12 => (if v11 = 2 then oB2 (f_X11_flowWith N K h4 p3 (3 : Int32) p2 M12) (fun v15 M16 => some ((if (0 : Int32) < v15 then v15 else (0 : Int32)), M16)) else some (0, M12)))) (some ((-1), M9)))) (some ((-1), M6)))))
set_option maxRecDepth 20000 in
theorem v_X11_goes {X : oX} {N : Nat} {K : oK} {p1 : Int32} {p2 : Int32} {p3 : Int32} {M : oM} {v : Int32} {M' : oM} (hK : oSR K)  (h : f_X11_goes N K p1 p2 p3 M = some (v, M')) : oMet X 7 J_X11_goes [(.ref 0), (.int p1), (.int p2), (.int p3)] K M (some (.int v)) K M' := by
  unfold f_X11_goes at h
  refine oMet_of (L := [some (.ref 0), some (.int p1), some (.int p2), some (.int p3), none]) jJ_X11_goes.1 rfl (Nat.le_of_ble_eq_true rfl) rfl (Nat.le_refl _) (Nat.le_refl _) ?_
  have hd : 7 ≤ 7 := Nat.le_refl _
  refine oe_aload_n (pc := 0) d_X11_goes_0 rfl ?_
  refine oe_iload_n (pc := 1) d_X11_goes_1 rfl ?_
  obtain ⟨v1, M2, q3, h⟩ := oB2_some h
  cases v1 with
  | none =>
    replace h := oCsN h
    refine oe_callV (pc := 2) (ci := 11) d_X11_goes_2 (v_X11_layingAt hK  q3) (by omega) ml_X11_148 jJ_X11_layingAt rfl rfl (oLt hK (a := 0) (Nat.le_of_ble_eq_true rfl)) (oSho hK (a := 0) (Nat.le_of_ble_eq_true rfl) rfl) ock11 rfl (Nat.le_of_ble_eq_true rfl) ⟨Nat.le_refl _, Nat.le_refl _⟩ ⟨Nat.le_refl _, Nat.le_refl _⟩ ?_
    refine oe_astoreN (pc := 5) (L2 := [_, _, _, _, _]) d_X11_goes_5 rfl (Nat.le_of_ble_eq_true rfl) rfl ?_
    refine oe_aloadN (pc := 7) d_X11_goes_7 rfl ?_
    refine oe_ifnullN (pc := 9) (tgt := 29) d_X11_goes_9 (by decide) ?_
    refine oe_iconst (pc := 29) (v := (-1)) d_X11_goes_29 rfl ?_
    obtain ⟨rfl, rfl⟩ := oRes h
    exact oe_iret (pc := 30) d_X11_goes_30 ⟨_, rfl, rfl⟩
  | some h4 =>
    replace h := oCsS h
    have hh_h4 : oLS K h4 := o_X11_layingAt_ok hK q3
    refine oe_callV (pc := 2) (ci := 11) d_X11_goes_2 (v_X11_layingAt hK  q3) (by omega) ml_X11_148 jJ_X11_layingAt rfl rfl (oLt hK (a := 0) (Nat.le_of_ble_eq_true rfl)) (oSho hK (a := 0) (Nat.le_of_ble_eq_true rfl) rfl) ock11 rfl (Nat.le_of_ble_eq_true rfl) ⟨Nat.le_refl _, Nat.le_refl _⟩ ⟨Nat.le_refl _, Nat.le_refl _⟩ ?_
    refine oe_astore (pc := 5) (L2 := [_, _, _, _, _]) d_X11_goes_5 rfl (Nat.le_of_ble_eq_true rfl) rfl ?_
    refine oe_aload (pc := 7) d_X11_goes_7 rfl ?_
    refine oe_ifnull (pc := 9) d_X11_goes_9 ?_
    refine oe_aload (pc := 12) d_X11_goes_12 rfl ?_
    refine oe_iload_n (pc := 14) d_X11_goes_14 rfl ?_
    refine oe_iconst (pc := 15) (v := 1) d_X11_goes_15 rfl ?_
    obtain ⟨v5, M6, q7, h⟩ := oB2_some h
    cases v5 with
    | true =>
      replace h := oCt h
      refine oe_callV (pc := 16) (ci := 6) d_X11_goes_16 (v_X6_isSort hK hh_h4 q7) (by omega) ml_X11_221 jJ_X6_isSort rfl rfl (oLSa hh_h4 (j := 0) (Nat.le_of_ble_eq_true rfl)) (oLSo hh_h4) ock6 rfl (Nat.le_of_ble_eq_true rfl) ⟨Nat.le_refl _, Nat.le_refl _⟩ ⟨Nat.le_refl _, Nat.le_refl _⟩ ?_
      refine oe_if_eq (pc := 19) (tgt := 29) d_X11_goes_19 (by decide) (fun c => absurd c (by decide)) (fun _ => ?_)
      refine oe_iload_n (pc := 22) d_X11_goes_22 rfl ?_
      obtain ⟨v8, M9, q10, h⟩ := oB2_some h
      cases v8 with
      | true =>
        replace h := oCt h
        refine oe_callS (pc := 23) d_X11_goes_23 (v_X11_isNeed hK  q10) (by omega) ml_X11_199 jJ_X11_isNeed rfl rfl (Nat.le_of_ble_eq_true rfl) ⟨Nat.le_refl _, Nat.le_refl _⟩ ⟨Nat.le_refl _, Nat.le_refl _⟩ ?_
        refine oe_if_ne (pc := 26) (tgt := 31) d_X11_goes_26 (by decide) (fun _ => ?_) (fun c => absurd c (by decide))
        refine oe_aload (pc := 31) d_X11_goes_31 rfl ?_
        refine oe_iload_n (pc := 33) d_X11_goes_33 rfl ?_
        refine oe_iconst (pc := 34) (v := (-1)) d_X11_goes_34 rfl ?_
        obtain ⟨v11, M12, q13, h⟩ := oB2_some h
        refine oe_callV (pc := 35) (ci := 6) d_X11_goes_35 (v_X6_lines hK hh_h4 q13) (by omega) ml_X11_230 jJ_X6_lines rfl rfl (oLSa hh_h4 (j := 0) (Nat.le_of_ble_eq_true rfl)) (oLSo hh_h4) ock6 rfl (Nat.le_of_ble_eq_true rfl) ⟨Nat.le_refl _, Nat.le_refl _⟩ ⟨Nat.le_refl _, Nat.le_refl _⟩ ?_
        refine oe_iconst (pc := 38) (v := 2) d_X11_goes_38 rfl ?_
        refine oe_icmp_ne (pc := 39) (tgt := 58) d_X11_goes_39 (by decide) (fun c14 => ?_) (fun c14 => ?_)
        · replace h := (if_neg c14).symm.trans h
          refine oe_iconst (pc := 58) (v := 0) d_X11_goes_58 rfl ?_
          obtain ⟨rfl, rfl⟩ := oRes h
          exact oe_iret (pc := 59) d_X11_goes_59 ⟨_, rfl, rfl⟩
        · replace h := (if_pos c14).symm.trans h
          refine oe_iconst (pc := 42) (v := 0) d_X11_goes_42 rfl ?_
          refine oe_aload_n (pc := 43) d_X11_goes_43 rfl ?_
          refine oe_aload (pc := 44) d_X11_goes_44 rfl ?_
          refine oe_iload_n (pc := 46) d_X11_goes_46 rfl ?_
          refine oe_iconst (pc := 47) (v := 3) d_X11_goes_47 rfl ?_
          refine oe_iload_n (pc := 48) d_X11_goes_48 rfl ?_
          obtain ⟨v15, M16, q17, h⟩ := oB2_some h
          refine oe_callV (pc := 49) (ci := 11) d_X11_goes_49 (v_X11_flowWith hK hh_h4 q17) (by omega) ml_X11_202 jJ_X11_flowWith rfl rfl (oLt hK (a := 0) (Nat.le_of_ble_eq_true rfl)) (oSho hK (a := 0) (Nat.le_of_ble_eq_true rfl) rfl) ock11 rfl (Nat.le_of_ble_eq_true rfl) ⟨Nat.le_refl _, Nat.le_refl _⟩ ⟨Nat.le_refl _, Nat.le_refl _⟩ ?_
          refine oe_mmax (pc := 52) d_X11_goes_52 mm_X11_225 (by omega) (Nat.le_of_ble_eq_true rfl) ?_
          refine oe_goto (pc := 55) (tgt := 59) d_X11_goes_55 (by decide) ?_
          obtain ⟨rfl, rfl⟩ := oRes h
          exact oe_iret (pc := 59) d_X11_goes_59 ⟨_, rfl, rfl⟩
      | false =>
        replace h := oCf h
        refine oe_callS (pc := 23) d_X11_goes_23 (v_X11_isNeed hK  q10) (by omega) ml_X11_199 jJ_X11_isNeed rfl rfl (Nat.le_of_ble_eq_true rfl) ⟨Nat.le_refl _, Nat.le_refl _⟩ ⟨Nat.le_refl _, Nat.le_refl _⟩ ?_
        refine oe_if_ne (pc := 26) (tgt := 31) d_X11_goes_26 (by decide) (fun c => absurd (by decide) c) (fun _ => ?_)
        refine oe_iconst (pc := 29) (v := (-1)) d_X11_goes_29 rfl ?_
        obtain ⟨rfl, rfl⟩ := oRes h
        exact oe_iret (pc := 30) d_X11_goes_30 ⟨_, rfl, rfl⟩
    | false =>
      replace h := oCf h
      refine oe_callV (pc := 16) (ci := 6) d_X11_goes_16 (v_X6_isSort hK hh_h4 q7) (by omega) ml_X11_221 jJ_X6_isSort rfl rfl (oLSa hh_h4 (j := 0) (Nat.le_of_ble_eq_true rfl)) (oLSo hh_h4) ock6 rfl (Nat.le_of_ble_eq_true rfl) ⟨Nat.le_refl _, Nat.le_refl _⟩ ⟨Nat.le_refl _, Nat.le_refl _⟩ ?_
      refine oe_if_eq (pc := 19) (tgt := 29) d_X11_goes_19 (by decide) (fun _ => ?_) (fun c => absurd (by decide) c)
      refine oe_iconst (pc := 29) (v := (-1)) d_X11_goes_29 rfl ?_
      obtain ⟨rfl, rfl⟩ := oRes h
      exact oe_iret (pc := 30) d_X11_goes_30 ⟨_, rfl, rfl⟩
theorem d_X11_changed_0 : decode J_X11_changed.2.1 0 = .ok (.aload_n 0, 1) := by decide +kernel
theorem d_X11_changed_1 : decode J_X11_changed.2.1 1 = .ok (.iload_n 1, 1) := by decide +kernel
theorem d_X11_changed_2 : decode J_X11_changed.2.1 2 = .ok (.invokevirtual 148, 3) := by decide +kernel
theorem d_X11_changed_5 : decode J_X11_changed.2.1 5 = .ok (.astore_n 3, 1) := by decide +kernel
theorem d_X11_changed_6 : decode J_X11_changed.2.1 6 = .ok (.aload_n 3, 1) := by decide +kernel
theorem d_X11_changed_7 : decode J_X11_changed.2.1 7 = .ok (.ifnull 12, 3) := by decide +kernel
theorem d_X11_changed_10 : decode J_X11_changed.2.1 10 = .ok (.aload_n 3, 1) := by decide +kernel
theorem d_X11_changed_11 : decode J_X11_changed.2.1 11 = .ok (.iload_n 2, 1) := by decide +kernel
theorem d_X11_changed_12 : decode J_X11_changed.2.1 12 = .ok (.iconst 1, 1) := by decide +kernel
theorem d_X11_changed_13 : decode J_X11_changed.2.1 13 = .ok (.invokevirtual 221, 3) := by decide +kernel
theorem d_X11_changed_16 : decode J_X11_changed.2.1 16 = .ok (.ifCond .ne 5, 3) := by decide +kernel
theorem d_X11_changed_19 : decode J_X11_changed.2.1 19 = .ok (.iconst (-1), 1) := by decide +kernel
theorem d_X11_changed_20 : decode J_X11_changed.2.1 20 = .ok (.ireturn, 1) := by decide +kernel
theorem d_X11_changed_21 : decode J_X11_changed.2.1 21 = .ok (.aload_n 0, 1) := by decide +kernel
theorem d_X11_changed_22 : decode J_X11_changed.2.1 22 = .ok (.getfield 21, 3) := by decide +kernel
theorem d_X11_changed_25 : decode J_X11_changed.2.1 25 = .ok (.aload_n 3, 1) := by decide +kernel
theorem d_X11_changed_26 : decode J_X11_changed.2.1 26 = .ok (.getfield 233, 3) := by decide +kernel
theorem d_X11_changed_29 : decode J_X11_changed.2.1 29 = .ok (.iload_n 2, 1) := by decide +kernel
theorem d_X11_changed_30 : decode J_X11_changed.2.1 30 = .ok (.iaload, 1) := by decide +kernel
theorem d_X11_changed_31 : decode J_X11_changed.2.1 31 = .ok (.invokevirtual 236, 3) := by decide +kernel
theorem d_X11_changed_34 : decode J_X11_changed.2.1 34 = .ok (.istore 4, 2) := by decide +kernel
theorem d_X11_changed_36 : decode J_X11_changed.2.1 36 = .ok (.aload_n 3, 1) := by decide +kernel
theorem d_X11_changed_37 : decode J_X11_changed.2.1 37 = .ok (.iload_n 2, 1) := by decide +kernel
theorem d_X11_changed_38 : decode J_X11_changed.2.1 38 = .ok (.iconst (-1), 1) := by decide +kernel
theorem d_X11_changed_39 : decode J_X11_changed.2.1 39 = .ok (.invokevirtual 230, 3) := by decide +kernel
theorem d_X11_changed_42 : decode J_X11_changed.2.1 42 = .ok (.iconst 2, 1) := by decide +kernel
theorem d_X11_changed_43 : decode J_X11_changed.2.1 43 = .ok (.if_icmp .ne 7, 3) := by decide +kernel
theorem d_X11_changed_46 : decode J_X11_changed.2.1 46 = .ok (.iconst 0, 1) := by decide +kernel
theorem d_X11_changed_47 : decode J_X11_changed.2.1 47 = .ok (.goto 11, 3) := by decide +kernel
theorem d_X11_changed_50 : decode J_X11_changed.2.1 50 = .ok (.iload 4, 2) := by decide +kernel
theorem d_X11_changed_52 : decode J_X11_changed.2.1 52 = .ok (.iconst 4, 1) := by decide +kernel
theorem d_X11_changed_53 : decode J_X11_changed.2.1 53 = .ok (.iadd, 1) := by decide +kernel
theorem d_X11_changed_54 : decode J_X11_changed.2.1 54 = .ok (.iconst 5, 1) := by decide +kernel
theorem d_X11_changed_55 : decode J_X11_changed.2.1 55 = .ok (.idiv, 1) := by decide +kernel
theorem d_X11_changed_56 : decode J_X11_changed.2.1 56 = .ok (.iconst 1, 1) := by decide +kernel
theorem d_X11_changed_57 : decode J_X11_changed.2.1 57 = .ok (.iadd, 1) := by decide +kernel
theorem d_X11_changed_58 : decode J_X11_changed.2.1 58 = .ok (.ireturn, 1) := by decide +kernel
def f_X11_changed (N : Nat) (K : oK) (p1 : Int32) (p2 : Int32) (M : oM) : Option (Int32 × oM) :=
  oB2 (f_X11_layingAt N K p1 M) (fun v1 M2 => oCs v1 (some ((-1), M2)) (fun h4 => oB2 (f_X6_isSort N K h4 p2 (1 : Int32) M2) (fun v5 M6 => cond v5 (oIx (p2) 24 (oB2 (f_X4_lengthsOf N K (M6.1 (h4 + 2) (p2 : Int32).toNatClampNeg) M6) (fun v9 M10 => oB2 (f_X6_lines N K h4 p2 ((-1) : Int32) M10) (fun v12 M13 => (if v12 = 2 then some (0, M13) else some ((((v9 + 4) / 5) + 1), M13)))))) (some ((-1), M6)))))
set_option maxRecDepth 20000 in
theorem v_X11_changed {X : oX} {N : Nat} {K : oK} {p1 : Int32} {p2 : Int32} {M : oM} {v : Int32} {M' : oM} (hK : oSR K)  (h : f_X11_changed N K p1 p2 M = some (v, M')) : oMet X 3 J_X11_changed [(.ref 0), (.int p1), (.int p2)] K M (some (.int v)) K M' := by
  unfold f_X11_changed at h
  refine oMet_of (L := [some (.ref 0), some (.int p1), some (.int p2), none, none]) jJ_X11_changed.1 rfl (Nat.le_of_ble_eq_true rfl) rfl (Nat.le_refl _) (Nat.le_refl _) ?_
  have hd : 3 ≤ 3 := Nat.le_refl _
  refine oe_aload_n (pc := 0) d_X11_changed_0 rfl ?_
  refine oe_iload_n (pc := 1) d_X11_changed_1 rfl ?_
  obtain ⟨v1, M2, q3, h⟩ := oB2_some h
  cases v1 with
  | none =>
    replace h := oCsN h
    refine oe_callV (pc := 2) (ci := 11) d_X11_changed_2 (v_X11_layingAt hK  q3) (by omega) ml_X11_148 jJ_X11_layingAt rfl rfl (oLt hK (a := 0) (Nat.le_of_ble_eq_true rfl)) (oSho hK (a := 0) (Nat.le_of_ble_eq_true rfl) rfl) ock11 rfl (Nat.le_of_ble_eq_true rfl) ⟨Nat.le_refl _, Nat.le_refl _⟩ ⟨Nat.le_refl _, Nat.le_refl _⟩ ?_
    refine oe_astore_nN (pc := 5) (L2 := [_, _, _, _, _]) d_X11_changed_5 rfl rfl (Nat.le_of_ble_eq_true rfl) rfl ?_
    refine oe_aload_nN (pc := 6) d_X11_changed_6 rfl ?_
    refine oe_ifnullN (pc := 7) (tgt := 19) d_X11_changed_7 (by decide) ?_
    refine oe_iconst (pc := 19) (v := (-1)) d_X11_changed_19 rfl ?_
    obtain ⟨rfl, rfl⟩ := oRes h
    exact oe_iret (pc := 20) d_X11_changed_20 ⟨_, rfl, rfl⟩
  | some h4 =>
    replace h := oCsS h
    have hh_h4 : oLS K h4 := o_X11_layingAt_ok hK q3
    refine oe_callV (pc := 2) (ci := 11) d_X11_changed_2 (v_X11_layingAt hK  q3) (by omega) ml_X11_148 jJ_X11_layingAt rfl rfl (oLt hK (a := 0) (Nat.le_of_ble_eq_true rfl)) (oSho hK (a := 0) (Nat.le_of_ble_eq_true rfl) rfl) ock11 rfl (Nat.le_of_ble_eq_true rfl) ⟨Nat.le_refl _, Nat.le_refl _⟩ ⟨Nat.le_refl _, Nat.le_refl _⟩ ?_
    refine oe_astore_n (pc := 5) (L2 := [_, _, _, _, _]) d_X11_changed_5 rfl rfl (Nat.le_of_ble_eq_true rfl) rfl ?_
    refine oe_aload_n (pc := 6) d_X11_changed_6 rfl ?_
    refine oe_ifnull (pc := 7) d_X11_changed_7 ?_
    refine oe_aload_n (pc := 10) d_X11_changed_10 rfl ?_
    refine oe_iload_n (pc := 11) d_X11_changed_11 rfl ?_
    refine oe_iconst (pc := 12) (v := 1) d_X11_changed_12 rfl ?_
    obtain ⟨v5, M6, q7, h⟩ := oB2_some h
    cases v5 with
    | true =>
      replace h := oCt h
      refine oe_callV (pc := 13) (ci := 6) d_X11_changed_13 (v_X6_isSort hK hh_h4 q7) (by omega) ml_X11_221 jJ_X6_isSort rfl rfl (oLSa hh_h4 (j := 0) (Nat.le_of_ble_eq_true rfl)) (oLSo hh_h4) ock6 rfl (Nat.le_of_ble_eq_true rfl) ⟨Nat.le_refl _, Nat.le_refl _⟩ ⟨Nat.le_refl _, Nat.le_refl _⟩ ?_
      refine oe_if_ne (pc := 16) (tgt := 21) d_X11_changed_16 (by decide) (fun _ => ?_) (fun c => absurd c (by decide))
      refine oe_aload_n (pc := 21) d_X11_changed_21 rfl ?_
      refine oe_getr (pc := 22) d_X11_changed_22 fl_X11_21 ock11 (k := 1) (b := 6) (Nat.le_of_ble_eq_true rfl) (by decide) (oLt hK (a := 0) (Nat.le_of_ble_eq_true rfl)) (oSho hK (a := 0) (Nat.le_of_ble_eq_true rfl) rfl) (oRfK hK rfl) ?_
      refine oe_aload_n (pc := 25) d_X11_changed_25 rfl ?_
      refine oe_getr (pc := 26) d_X11_changed_26 fl_X11_233 ock6 (k := 4) (b := h4 + 2) (Nat.le_of_ble_eq_true rfl) (by decide) (oLSa hh_h4 (j := 0) (Nat.le_of_ble_eq_true rfl)) (oLSo hh_h4) (oLSf hh_h4 (j := 2) (by decide) (by decide)) ?_
      refine oe_iload_n (pc := 29) d_X11_changed_29 rfl ?_
      obtain ⟨i8, h⟩ := oIx_some h
      refine oe_iald (pc := 30) d_X11_changed_30 (oLSa hh_h4 (j := 2) (Nat.le_of_ble_eq_true rfl)) (oLSr hh_h4 (j := 2) (by decide) (Nat.le_of_ble_eq_true rfl)) i8 ?_
      obtain ⟨v9, M10, q11, h⟩ := oB2_some h
      refine oe_callV (pc := 31) (ci := 4) d_X11_changed_31 (v_X4_lengthsOf hK  q11) (by omega) ml_X11_236 jJ_X4_lengthsOf rfl rfl (oLt hK (a := 6) (Nat.le_of_ble_eq_true rfl)) (oSho hK (a := 6) (Nat.le_of_ble_eq_true rfl) rfl) ock4 rfl (Nat.le_of_ble_eq_true rfl) ⟨Nat.le_refl _, Nat.le_refl _⟩ ⟨Nat.le_refl _, Nat.le_refl _⟩ ?_
      refine oe_istore (pc := 34) (L2 := [_, _, _, _, _]) d_X11_changed_34 rfl (Nat.le_of_ble_eq_true rfl) rfl ?_
      refine oe_aload_n (pc := 36) d_X11_changed_36 rfl ?_
      refine oe_iload_n (pc := 37) d_X11_changed_37 rfl ?_
      refine oe_iconst (pc := 38) (v := (-1)) d_X11_changed_38 rfl ?_
      obtain ⟨v12, M13, q14, h⟩ := oB2_some h
      refine oe_callV (pc := 39) (ci := 6) d_X11_changed_39 (v_X6_lines hK hh_h4 q14) (by omega) ml_X11_230 jJ_X6_lines rfl rfl (oLSa hh_h4 (j := 0) (Nat.le_of_ble_eq_true rfl)) (oLSo hh_h4) ock6 rfl (Nat.le_of_ble_eq_true rfl) ⟨Nat.le_refl _, Nat.le_refl _⟩ ⟨Nat.le_refl _, Nat.le_refl _⟩ ?_
      refine oe_iconst (pc := 42) (v := 2) d_X11_changed_42 rfl ?_
      refine oe_icmp_ne (pc := 43) (tgt := 50) d_X11_changed_43 (by decide) (fun c15 => ?_) (fun c15 => ?_)
      · replace h := (if_neg c15).symm.trans h
        refine oe_iload (pc := 50) d_X11_changed_50 rfl ?_
        refine oe_iconst (pc := 52) (v := 4) d_X11_changed_52 rfl ?_
        refine oe_iadd (pc := 53) d_X11_changed_53 ?_
        refine oe_iconst (pc := 54) (v := 5) d_X11_changed_54 rfl ?_
        refine oe_idiv (pc := 55) d_X11_changed_55 (by decide) ?_
        refine oe_iconst (pc := 56) (v := 1) d_X11_changed_56 rfl ?_
        refine oe_iadd (pc := 57) d_X11_changed_57 ?_
        obtain ⟨rfl, rfl⟩ := oRes h
        exact oe_iret (pc := 58) d_X11_changed_58 ⟨_, rfl, rfl⟩
      · replace h := (if_pos c15).symm.trans h
        refine oe_iconst (pc := 46) (v := 0) d_X11_changed_46 rfl ?_
        refine oe_goto (pc := 47) (tgt := 58) d_X11_changed_47 (by decide) ?_
        obtain ⟨rfl, rfl⟩ := oRes h
        exact oe_iret (pc := 58) d_X11_changed_58 ⟨_, rfl, rfl⟩
    | false =>
      replace h := oCf h
      refine oe_callV (pc := 13) (ci := 6) d_X11_changed_13 (v_X6_isSort hK hh_h4 q7) (by omega) ml_X11_221 jJ_X6_isSort rfl rfl (oLSa hh_h4 (j := 0) (Nat.le_of_ble_eq_true rfl)) (oLSo hh_h4) ock6 rfl (Nat.le_of_ble_eq_true rfl) ⟨Nat.le_refl _, Nat.le_refl _⟩ ⟨Nat.le_refl _, Nat.le_refl _⟩ ?_
      refine oe_if_ne (pc := 16) (tgt := 21) d_X11_changed_16 (by decide) (fun c => absurd (by decide) c) (fun _ => ?_)
      refine oe_iconst (pc := 19) (v := (-1)) d_X11_changed_19 rfl ?_
      obtain ⟨rfl, rfl⟩ := oRes h
      exact oe_iret (pc := 20) d_X11_changed_20 ⟨_, rfl, rfl⟩
theorem d_X11_load_0 : decode J_X11_load.2.1 0 = .ok (.iload_n 1, 1) := by decide +kernel
theorem d_X11_load_1 : decode J_X11_load.2.1 1 = .ok (.iconst 1, 1) := by decide +kernel
theorem d_X11_load_2 : decode J_X11_load.2.1 2 = .ok (.bipush 99, 2) := by decide +kernel
theorem d_X11_load_4 : decode J_X11_load.2.1 4 = .ok (.invokestatic 89, 3) := by decide +kernel
theorem d_X11_load_7 : decode J_X11_load.2.1 7 = .ok (.ifCond .eq 14, 3) := by decide +kernel
theorem d_X11_load_10 : decode J_X11_load.2.1 10 = .ok (.aload_n 0, 1) := by decide +kernel
theorem d_X11_load_11 : decode J_X11_load.2.1 11 = .ok (.getfield 64, 3) := by decide +kernel
theorem d_X11_load_14 : decode J_X11_load.2.1 14 = .ok (.iload_n 1, 1) := by decide +kernel
theorem d_X11_load_15 : decode J_X11_load.2.1 15 = .ok (.invokevirtual 239, 3) := by decide +kernel
theorem d_X11_load_18 : decode J_X11_load.2.1 18 = .ok (.goto 4, 3) := by decide +kernel
theorem d_X11_load_21 : decode J_X11_load.2.1 21 = .ok (.iconst (-1), 1) := by decide +kernel
theorem d_X11_load_22 : decode J_X11_load.2.1 22 = .ok (.ireturn, 1) := by decide +kernel
def f_X11_load (N : Nat) (K : oK) (p1 : Int32) (M : oM) : Option (Int32 × oM) :=
  oB2 (f_X11_within N K p1 (1 : Int32) (99 : Int32) M) (fun v1 M2 => cond v1 (oB2 (f_X5_add N K p1 M2) (fun v4 M5 => some (v4, M5))) (some ((-1), M2)))
set_option maxRecDepth 20000 in
theorem v_X11_load {X : oX} {N : Nat} {K : oK} {p1 : Int32} {M : oM} {v : Int32} {M' : oM} (hK : oSR K)  (h : f_X11_load N K p1 M = some (v, M')) : oMet X 2 J_X11_load [(.ref 0), (.int p1)] K M (some (.int v)) K M' := by
  unfold f_X11_load at h
  refine oMet_of (L := [some (.ref 0), some (.int p1)]) jJ_X11_load.1 rfl (Nat.le_of_ble_eq_true rfl) rfl (Nat.le_refl _) (Nat.le_refl _) ?_
  have hd : 2 ≤ 2 := Nat.le_refl _
  refine oe_iload_n (pc := 0) d_X11_load_0 rfl ?_
  refine oe_iconst (pc := 1) (v := 1) d_X11_load_1 rfl ?_
  refine oe_bipush (pc := 2) (v := 99) d_X11_load_2 rfl ?_
  obtain ⟨v1, M2, q3, h⟩ := oB2_some h
  cases v1 with
  | true =>
    replace h := oCt h
    refine oe_callS (pc := 4) d_X11_load_4 (v_X11_within hK  q3) (by omega) ml_X11_89 jJ_X11_within rfl rfl (Nat.le_of_ble_eq_true rfl) ⟨Nat.le_refl _, Nat.le_refl _⟩ ⟨Nat.le_refl _, Nat.le_refl _⟩ ?_
    refine oe_if_eq (pc := 7) (tgt := 21) d_X11_load_7 (by decide) (fun c => absurd c (by decide)) (fun _ => ?_)
    refine oe_aload_n (pc := 10) d_X11_load_10 rfl ?_
    refine oe_getr (pc := 11) d_X11_load_11 fl_X11_64 ock11 (k := 7) (b := 37) (Nat.le_of_ble_eq_true rfl) (by decide) (oLt hK (a := 0) (Nat.le_of_ble_eq_true rfl)) (oSho hK (a := 0) (Nat.le_of_ble_eq_true rfl) rfl) (oRfK hK rfl) ?_
    refine oe_iload_n (pc := 14) d_X11_load_14 rfl ?_
    obtain ⟨v4, M5, q6, h⟩ := oB2_some h
    refine oe_callV (pc := 15) (ci := 5) d_X11_load_15 (v_X5_add hK  q6) (by omega) ml_X11_239 jJ_X5_add rfl rfl (oLt hK (a := 37) (Nat.le_of_ble_eq_true rfl)) (oSho hK (a := 37) (Nat.le_of_ble_eq_true rfl) rfl) ock5 rfl (Nat.le_of_ble_eq_true rfl) ⟨Nat.le_refl _, Nat.le_refl _⟩ ⟨Nat.le_refl _, Nat.le_refl _⟩ ?_
    refine oe_goto (pc := 18) (tgt := 22) d_X11_load_18 (by decide) ?_
    obtain ⟨rfl, rfl⟩ := oRes h
    exact oe_iret (pc := 22) d_X11_load_22 ⟨_, rfl, rfl⟩
  | false =>
    replace h := oCf h
    refine oe_callS (pc := 4) d_X11_load_4 (v_X11_within hK  q3) (by omega) ml_X11_89 jJ_X11_within rfl rfl (Nat.le_of_ble_eq_true rfl) ⟨Nat.le_refl _, Nat.le_refl _⟩ ⟨Nat.le_refl _, Nat.le_refl _⟩ ?_
    refine oe_if_eq (pc := 7) (tgt := 21) d_X11_load_7 (by decide) (fun _ => ?_) (fun c => absurd (by decide) c)
    refine oe_iconst (pc := 21) (v := (-1)) d_X11_load_21 rfl ?_
    obtain ⟨rfl, rfl⟩ := oRes h
    exact oe_iret (pc := 22) d_X11_load_22 ⟨_, rfl, rfl⟩
theorem d_X11_minutes_0 : decode J_X11_minutes.2.1 0 = .ok (.iload_n 1, 1) := by decide +kernel
theorem d_X11_minutes_1 : decode J_X11_minutes.2.1 1 = .ok (.iconst 1, 1) := by decide +kernel
theorem d_X11_minutes_2 : decode J_X11_minutes.2.1 2 = .ok (.iconst 4, 1) := by decide +kernel
theorem d_X11_minutes_3 : decode J_X11_minutes.2.1 3 = .ok (.invokestatic 89, 3) := by decide +kernel
theorem d_X11_minutes_6 : decode J_X11_minutes.2.1 6 = .ok (.ifCond .eq 12, 3) := by decide +kernel
theorem d_X11_minutes_9 : decode J_X11_minutes.2.1 9 = .ok (.iload_n 2, 1) := by decide +kernel
theorem d_X11_minutes_10 : decode J_X11_minutes.2.1 10 = .ok (.iconst 0, 1) := by decide +kernel
theorem d_X11_minutes_11 : decode J_X11_minutes.2.1 11 = .ok (.iconst 1, 1) := by decide +kernel
theorem d_X11_minutes_12 : decode J_X11_minutes.2.1 12 = .ok (.invokestatic 89, 3) := by decide +kernel
theorem d_X11_minutes_15 : decode J_X11_minutes.2.1 15 = .ok (.ifCond .ne 5, 3) := by decide +kernel
theorem d_X11_minutes_18 : decode J_X11_minutes.2.1 18 = .ok (.iconst (-1), 1) := by decide +kernel
theorem d_X11_minutes_19 : decode J_X11_minutes.2.1 19 = .ok (.ireturn, 1) := by decide +kernel
theorem d_X11_minutes_20 : decode J_X11_minutes.2.1 20 = .ok (.aload_n 0, 1) := by decide +kernel
theorem d_X11_minutes_21 : decode J_X11_minutes.2.1 21 = .ok (.getfield 64, 3) := by decide +kernel
theorem d_X11_minutes_24 : decode J_X11_minutes.2.1 24 = .ok (.getfield 242, 3) := by decide +kernel
theorem d_X11_minutes_27 : decode J_X11_minutes.2.1 27 = .ok (.ifCond .ne 6, 3) := by decide +kernel
theorem d_X11_minutes_30 : decode J_X11_minutes.2.1 30 = .ok (.bipush (-5), 2) := by decide +kernel
theorem d_X11_minutes_32 : decode J_X11_minutes.2.1 32 = .ok (.ireturn, 1) := by decide +kernel
theorem d_X11_minutes_33 : decode J_X11_minutes.2.1 33 = .ok (.aload_n 0, 1) := by decide +kernel
theorem d_X11_minutes_34 : decode J_X11_minutes.2.1 34 = .ok (.getfield 64, 3) := by decide +kernel
theorem d_X11_minutes_37 : decode J_X11_minutes.2.1 37 = .ok (.iload_n 1, 1) := by decide +kernel
theorem d_X11_minutes_38 : decode J_X11_minutes.2.1 38 = .ok (.invokevirtual 245, 3) := by decide +kernel
theorem d_X11_minutes_41 : decode J_X11_minutes.2.1 41 = .ok (.iload_n 2, 1) := by decide +kernel
theorem d_X11_minutes_42 : decode J_X11_minutes.2.1 42 = .ok (.ifCond .ne 13, 3) := by decide +kernel
theorem d_X11_minutes_45 : decode J_X11_minutes.2.1 45 = .ok (.aload_n 0, 1) := by decide +kernel
theorem d_X11_minutes_46 : decode J_X11_minutes.2.1 46 = .ok (.getfield 64, 3) := by decide +kernel
theorem d_X11_minutes_49 : decode J_X11_minutes.2.1 49 = .ok (.getfield 249, 3) := by decide +kernel
theorem d_X11_minutes_52 : decode J_X11_minutes.2.1 52 = .ok (.goto 10, 3) := by decide +kernel
theorem d_X11_minutes_55 : decode J_X11_minutes.2.1 55 = .ok (.aload_n 0, 1) := by decide +kernel
theorem d_X11_minutes_56 : decode J_X11_minutes.2.1 56 = .ok (.getfield 64, 3) := by decide +kernel
theorem d_X11_minutes_59 : decode J_X11_minutes.2.1 59 = .ok (.getfield 252, 3) := by decide +kernel
theorem d_X11_minutes_62 : decode J_X11_minutes.2.1 62 = .ok (.ireturn, 1) := by decide +kernel
def f_X11_minutes (N : Nat) (K : oK) (p1 : Int32) (p2 : Int32) (M : oM) : Option (Int32 × oM) :=
  oB2 (f_X11_within N K p1 (1 : Int32) (4 : Int32) M) (fun v1 M2 => cond v1 (oB2 (f_X11_within N K p2 (0 : Int32) (1 : Int32) M2) (fun v4 M5 => cond v4 ((if (M5.1 37 2) = 0 then some ((-5), M5) else oB2 (f_X5_carry N K p1 M5) (fun v8 M9 => (if p2 = 0 then some ((M9.1 37 3), M9) else some ((M9.1 37 4), M9))))) (some ((-1), M5)))) (some ((-1), M2)))
set_option maxRecDepth 20000 in
theorem v_X11_minutes {X : oX} {N : Nat} {K : oK} {p1 : Int32} {p2 : Int32} {M : oM} {v : Int32} {M' : oM} (hK : oSR K)  (h : f_X11_minutes N K p1 p2 M = some (v, M')) : oMet X 14 J_X11_minutes [(.ref 0), (.int p1), (.int p2)] K M (some (.int v)) K M' := by
  unfold f_X11_minutes at h
  refine oMet_of (L := [some (.ref 0), some (.int p1), some (.int p2)]) jJ_X11_minutes.1 rfl (Nat.le_of_ble_eq_true rfl) rfl (Nat.le_refl _) (Nat.le_refl _) ?_
  have hd : 14 ≤ 14 := Nat.le_refl _
  refine oe_iload_n (pc := 0) d_X11_minutes_0 rfl ?_
  refine oe_iconst (pc := 1) (v := 1) d_X11_minutes_1 rfl ?_
  refine oe_iconst (pc := 2) (v := 4) d_X11_minutes_2 rfl ?_
  obtain ⟨v1, M2, q3, h⟩ := oB2_some h
  cases v1 with
  | true =>
    replace h := oCt h
    refine oe_callS (pc := 3) d_X11_minutes_3 (v_X11_within hK  q3) (by omega) ml_X11_89 jJ_X11_within rfl rfl (Nat.le_of_ble_eq_true rfl) ⟨Nat.le_refl _, Nat.le_refl _⟩ ⟨Nat.le_refl _, Nat.le_refl _⟩ ?_
    refine oe_if_eq (pc := 6) (tgt := 18) d_X11_minutes_6 (by decide) (fun c => absurd c (by decide)) (fun _ => ?_)
    refine oe_iload_n (pc := 9) d_X11_minutes_9 rfl ?_
    refine oe_iconst (pc := 10) (v := 0) d_X11_minutes_10 rfl ?_
    refine oe_iconst (pc := 11) (v := 1) d_X11_minutes_11 rfl ?_
    obtain ⟨v4, M5, q6, h⟩ := oB2_some h
    cases v4 with
    | true =>
      replace h := oCt h
      refine oe_callS (pc := 12) d_X11_minutes_12 (v_X11_within hK  q6) (by omega) ml_X11_89 jJ_X11_within rfl rfl (Nat.le_of_ble_eq_true rfl) ⟨Nat.le_refl _, Nat.le_refl _⟩ ⟨Nat.le_refl _, Nat.le_refl _⟩ ?_
      refine oe_if_ne (pc := 15) (tgt := 20) d_X11_minutes_15 (by decide) (fun _ => ?_) (fun c => absurd c (by decide))
      refine oe_aload_n (pc := 20) d_X11_minutes_20 rfl ?_
      refine oe_getr (pc := 21) d_X11_minutes_21 fl_X11_64 ock11 (k := 7) (b := 37) (Nat.le_of_ble_eq_true rfl) (by decide) (oLt hK (a := 0) (Nat.le_of_ble_eq_true rfl)) (oSho hK (a := 0) (Nat.le_of_ble_eq_true rfl) rfl) (oRfK hK rfl) ?_
      refine oe_getf (pc := 24) d_X11_minutes_24 fl_X11_242 ock5 (k := 2) (Nat.le_of_ble_eq_true rfl) rfl (oLt hK (a := 37) (Nat.le_of_ble_eq_true rfl)) (oSho hK (a := 37) (Nat.le_of_ble_eq_true rfl) rfl) ?_
      refine oe_if_ne (pc := 27) (tgt := 33) d_X11_minutes_27 (by decide) (fun c7 => ?_) (fun c7 => ?_)
      · replace h := (if_neg c7).symm.trans h
        refine oe_aload_n (pc := 33) d_X11_minutes_33 rfl ?_
        refine oe_getr (pc := 34) d_X11_minutes_34 fl_X11_64 ock11 (k := 7) (b := 37) (Nat.le_of_ble_eq_true rfl) (by decide) (oLt hK (a := 0) (Nat.le_of_ble_eq_true rfl)) (oSho hK (a := 0) (Nat.le_of_ble_eq_true rfl) rfl) (oRfK hK rfl) ?_
        refine oe_iload_n (pc := 37) d_X11_minutes_37 rfl ?_
        obtain ⟨v8, M9, q10, h⟩ := oB2_some h
        refine oe_callV (pc := 38) (ci := 5) d_X11_minutes_38 (v_X5_carry hK  q10) (by omega) ml_X11_245 jJ_X5_carry rfl rfl (oLt hK (a := 37) (Nat.le_of_ble_eq_true rfl)) (oSho hK (a := 37) (Nat.le_of_ble_eq_true rfl) rfl) ock5 rfl (Nat.le_of_ble_eq_true rfl) ⟨Nat.le_refl _, Nat.le_refl _⟩ ⟨Nat.le_refl _, Nat.le_refl _⟩ ?_
        refine oe_iload_n (pc := 41) d_X11_minutes_41 rfl ?_
        refine oe_if_ne (pc := 42) (tgt := 55) d_X11_minutes_42 (by decide) (fun c11 => ?_) (fun c11 => ?_)
        · replace h := (if_neg c11).symm.trans h
          refine oe_aload_n (pc := 55) d_X11_minutes_55 rfl ?_
          refine oe_getr (pc := 56) d_X11_minutes_56 fl_X11_64 ock11 (k := 7) (b := 37) (Nat.le_of_ble_eq_true rfl) (by decide) (oLt hK (a := 0) (Nat.le_of_ble_eq_true rfl)) (oSho hK (a := 0) (Nat.le_of_ble_eq_true rfl) rfl) (oRfK hK rfl) ?_
          refine oe_getf (pc := 59) d_X11_minutes_59 fl_X11_252 ock5 (k := 4) (Nat.le_of_ble_eq_true rfl) rfl (oLt hK (a := 37) (Nat.le_of_ble_eq_true rfl)) (oSho hK (a := 37) (Nat.le_of_ble_eq_true rfl) rfl) ?_
          obtain ⟨rfl, rfl⟩ := oRes h
          exact oe_iret (pc := 62) d_X11_minutes_62 ⟨_, rfl, rfl⟩
        · replace h := (if_pos c11).symm.trans h
          refine oe_aload_n (pc := 45) d_X11_minutes_45 rfl ?_
          refine oe_getr (pc := 46) d_X11_minutes_46 fl_X11_64 ock11 (k := 7) (b := 37) (Nat.le_of_ble_eq_true rfl) (by decide) (oLt hK (a := 0) (Nat.le_of_ble_eq_true rfl)) (oSho hK (a := 0) (Nat.le_of_ble_eq_true rfl) rfl) (oRfK hK rfl) ?_
          refine oe_getf (pc := 49) d_X11_minutes_49 fl_X11_249 ock5 (k := 3) (Nat.le_of_ble_eq_true rfl) rfl (oLt hK (a := 37) (Nat.le_of_ble_eq_true rfl)) (oSho hK (a := 37) (Nat.le_of_ble_eq_true rfl) rfl) ?_
          refine oe_goto (pc := 52) (tgt := 62) d_X11_minutes_52 (by decide) ?_
          obtain ⟨rfl, rfl⟩ := oRes h
          exact oe_iret (pc := 62) d_X11_minutes_62 ⟨_, rfl, rfl⟩
      · replace h := (if_pos c7).symm.trans h
        refine oe_bipush (pc := 30) (v := (-5)) d_X11_minutes_30 rfl ?_
        obtain ⟨rfl, rfl⟩ := oRes h
        exact oe_iret (pc := 32) d_X11_minutes_32 ⟨_, rfl, rfl⟩
    | false =>
      replace h := oCf h
      refine oe_callS (pc := 12) d_X11_minutes_12 (v_X11_within hK  q6) (by omega) ml_X11_89 jJ_X11_within rfl rfl (Nat.le_of_ble_eq_true rfl) ⟨Nat.le_refl _, Nat.le_refl _⟩ ⟨Nat.le_refl _, Nat.le_refl _⟩ ?_
      refine oe_if_ne (pc := 15) (tgt := 20) d_X11_minutes_15 (by decide) (fun c => absurd (by decide) c) (fun _ => ?_)
      refine oe_iconst (pc := 18) (v := (-1)) d_X11_minutes_18 rfl ?_
      obtain ⟨rfl, rfl⟩ := oRes h
      exact oe_iret (pc := 19) d_X11_minutes_19 ⟨_, rfl, rfl⟩
  | false =>
    replace h := oCf h
    refine oe_callS (pc := 3) d_X11_minutes_3 (v_X11_within hK  q3) (by omega) ml_X11_89 jJ_X11_within rfl rfl (Nat.le_of_ble_eq_true rfl) ⟨Nat.le_refl _, Nat.le_refl _⟩ ⟨Nat.le_refl _, Nat.le_refl _⟩ ?_
    refine oe_if_eq (pc := 6) (tgt := 18) d_X11_minutes_6 (by decide) (fun _ => ?_) (fun c => absurd (by decide) c)
    refine oe_iconst (pc := 18) (v := (-1)) d_X11_minutes_18 rfl ?_
    obtain ⟨rfl, rfl⟩ := oRes h
    exact oe_iret (pc := 19) d_X11_minutes_19 ⟨_, rfl, rfl⟩
theorem d_X11_unload_0 : decode J_X11_unload.2.1 0 = .ok (.aload_n 0, 1) := by decide +kernel
theorem d_X11_unload_1 : decode J_X11_unload.2.1 1 = .ok (.getfield 64, 3) := by decide +kernel
theorem d_X11_unload_4 : decode J_X11_unload.2.1 4 = .ok (.getfield 242, 3) := by decide +kernel
theorem d_X11_unload_7 : decode J_X11_unload.2.1 7 = .ok (.istore_n 1, 1) := by decide +kernel
theorem d_X11_unload_8 : decode J_X11_unload.2.1 8 = .ok (.aload_n 0, 1) := by decide +kernel
theorem d_X11_unload_9 : decode J_X11_unload.2.1 9 = .ok (.getfield 64, 3) := by decide +kernel
theorem d_X11_unload_12 : decode J_X11_unload.2.1 12 = .ok (.iconst 0, 1) := by decide +kernel
theorem d_X11_unload_13 : decode J_X11_unload.2.1 13 = .ok (.putfield 242, 3) := by decide +kernel
theorem d_X11_unload_16 : decode J_X11_unload.2.1 16 = .ok (.iload_n 1, 1) := by decide +kernel
theorem d_X11_unload_17 : decode J_X11_unload.2.1 17 = .ok (.ireturn, 1) := by decide +kernel
def f_X11_unload (N : Nat) (K : oK)  (M : oM) : Option (Int32 × oM) :=
  some ((M.1 37 2), (oUp M 37 2 (0 : Int32)))
set_option maxRecDepth 20000 in
theorem v_X11_unload {X : oX} {N : Nat} {K : oK}  {M : oM} {v : Int32} {M' : oM} (hK : oSR K)  (h : f_X11_unload N K  M = some (v, M')) : oMet X 1 J_X11_unload [(.ref 0)] K M (some (.int v)) K M' := by
  unfold f_X11_unload at h
  refine oMet_of (L := [some (.ref 0), none]) jJ_X11_unload.1 rfl (Nat.le_of_ble_eq_true rfl) rfl (Nat.le_refl _) (Nat.le_refl _) ?_
  have hd : 1 ≤ 1 := Nat.le_refl _
  refine oe_aload_n (pc := 0) d_X11_unload_0 rfl ?_
  refine oe_getr (pc := 1) d_X11_unload_1 fl_X11_64 ock11 (k := 7) (b := 37) (Nat.le_of_ble_eq_true rfl) (by decide) (oLt hK (a := 0) (Nat.le_of_ble_eq_true rfl)) (oSho hK (a := 0) (Nat.le_of_ble_eq_true rfl) rfl) (oRfK hK rfl) ?_
  refine oe_getf (pc := 4) d_X11_unload_4 fl_X11_242 ock5 (k := 2) (Nat.le_of_ble_eq_true rfl) rfl (oLt hK (a := 37) (Nat.le_of_ble_eq_true rfl)) (oSho hK (a := 37) (Nat.le_of_ble_eq_true rfl) rfl) ?_
  refine oe_istore_n (pc := 7) (L2 := [_, _]) d_X11_unload_7 rfl rfl (Nat.le_of_ble_eq_true rfl) rfl ?_
  refine oe_aload_n (pc := 8) d_X11_unload_8 rfl ?_
  refine oe_getr (pc := 9) d_X11_unload_9 fl_X11_64 ock11 (k := 7) (b := 37) (Nat.le_of_ble_eq_true rfl) (by decide) (oLt hK (a := 0) (Nat.le_of_ble_eq_true rfl)) (oSho hK (a := 0) (Nat.le_of_ble_eq_true rfl) rfl) (oRfK hK rfl) ?_
  refine oe_iconst (pc := 12) (v := 0) d_X11_unload_12 rfl ?_
  refine oe_putf (pc := 13) d_X11_unload_13 fl_X11_242 ock5 (k := 2) (Nat.le_of_ble_eq_true rfl) rfl rfl (oLt hK (a := 37) (Nat.le_of_ble_eq_true rfl)) (oSho hK (a := 37) (Nat.le_of_ble_eq_true rfl) rfl) ?_
  refine oe_iload_n (pc := 16) d_X11_unload_16 rfl ?_
  obtain ⟨rfl, rfl⟩ := oRes h
  exact oe_iret (pc := 17) d_X11_unload_17 ⟨_, rfl, rfl⟩
theorem d_X11_soon_0 : decode J_X11_soon.2.1 0 = .ok (.aload_n 0, 1) := by decide +kernel
theorem d_X11_soon_1 : decode J_X11_soon.2.1 1 = .ok (.getfield 28, 3) := by decide +kernel
theorem d_X11_soon_4 : decode J_X11_soon.2.1 4 = .ok (.iload_n 1, 1) := by decide +kernel
theorem d_X11_soon_5 : decode J_X11_soon.2.1 5 = .ok (.invokevirtual 132, 3) := by decide +kernel
theorem d_X11_soon_8 : decode J_X11_soon.2.1 8 = .ok (.ifCond .eq 25, 3) := by decide +kernel
theorem d_X11_soon_11 : decode J_X11_soon.2.1 11 = .ok (.aload_n 0, 1) := by decide +kernel
theorem d_X11_soon_12 : decode J_X11_soon.2.1 12 = .ok (.getfield 21, 3) := by decide +kernel
theorem d_X11_soon_15 : decode J_X11_soon.2.1 15 = .ok (.iload_n 2, 1) := by decide +kernel
theorem d_X11_soon_16 : decode J_X11_soon.2.1 16 = .ok (.invokevirtual 97, 3) := by decide +kernel
theorem d_X11_soon_19 : decode J_X11_soon.2.1 19 = .ok (.ifCond .eq 14, 3) := by decide +kernel
theorem d_X11_soon_22 : decode J_X11_soon.2.1 22 = .ok (.aload_n 0, 1) := by decide +kernel
theorem d_X11_soon_23 : decode J_X11_soon.2.1 23 = .ok (.getfield 21, 3) := by decide +kernel
theorem d_X11_soon_26 : decode J_X11_soon.2.1 26 = .ok (.iload_n 3, 1) := by decide +kernel
theorem d_X11_soon_27 : decode J_X11_soon.2.1 27 = .ok (.invokevirtual 97, 3) := by decide +kernel
theorem d_X11_soon_30 : decode J_X11_soon.2.1 30 = .ok (.ifCond .ne 5, 3) := by decide +kernel
theorem d_X11_soon_33 : decode J_X11_soon.2.1 33 = .ok (.iconst (-1), 1) := by decide +kernel
theorem d_X11_soon_34 : decode J_X11_soon.2.1 34 = .ok (.ireturn, 1) := by decide +kernel
theorem d_X11_soon_35 : decode J_X11_soon.2.1 35 = .ok (.aload_n 0, 1) := by decide +kernel
theorem d_X11_soon_36 : decode J_X11_soon.2.1 36 = .ok (.getfield 21, 3) := by decide +kernel
theorem d_X11_soon_39 : decode J_X11_soon.2.1 39 = .ok (.aload_n 0, 1) := by decide +kernel
theorem d_X11_soon_40 : decode J_X11_soon.2.1 40 = .ok (.getfield 28, 3) := by decide +kernel
theorem d_X11_soon_43 : decode J_X11_soon.2.1 43 = .ok (.getfield 255, 3) := by decide +kernel
theorem d_X11_soon_46 : decode J_X11_soon.2.1 46 = .ok (.iload_n 1, 1) := by decide +kernel
theorem d_X11_soon_47 : decode J_X11_soon.2.1 47 = .ok (.iaload, 1) := by decide +kernel
theorem d_X11_soon_48 : decode J_X11_soon.2.1 48 = .ok (.iload_n 2, 1) := by decide +kernel
theorem d_X11_soon_49 : decode J_X11_soon.2.1 49 = .ok (.iload_n 3, 1) := by decide +kernel
theorem d_X11_soon_50 : decode J_X11_soon.2.1 50 = .ok (.invokevirtual 258, 3) := by decide +kernel
theorem d_X11_soon_53 : decode J_X11_soon.2.1 53 = .ok (.ireturn, 1) := by decide +kernel
def f_X11_soon (N : Nat) (K : oK) (p1 : Int32) (p2 : Int32) (p3 : Int32) (M : oM) : Option (Int32 × oM) :=
  oB2 (f_X3_isEngine N K p1 M) (fun v1 M2 => cond v1 (oB2 (f_X4_isPoint N K p2 M2) (fun v4 M5 => cond v4 (oB2 (f_X4_isPoint N K p3 M5) (fun v7 M8 => cond v7 (oIx (p1) 6 (oB2 (f_X4_soonest N K (M8.1 13 (p1 : Int32).toNatClampNeg) p2 p3 M8) (fun v11 M12 => some (v11, M12)))) (some ((-1), M8)))) (some ((-1), M5)))) (some ((-1), M2)))
set_option maxRecDepth 20000 in
theorem v_X11_soon {X : oX} {N : Nat} {K : oK} {p1 : Int32} {p2 : Int32} {p3 : Int32} {M : oM} {v : Int32} {M' : oM} (hK : oSR K)  (h : f_X11_soon N K p1 p2 p3 M = some (v, M')) : oMet X 3 J_X11_soon [(.ref 0), (.int p1), (.int p2), (.int p3)] K M (some (.int v)) K M' := by
  unfold f_X11_soon at h
  refine oMet_of (L := [some (.ref 0), some (.int p1), some (.int p2), some (.int p3)]) jJ_X11_soon.1 rfl (Nat.le_of_ble_eq_true rfl) rfl (Nat.le_refl _) (Nat.le_refl _) ?_
  have hd : 3 ≤ 3 := Nat.le_refl _
  refine oe_aload_n (pc := 0) d_X11_soon_0 rfl ?_
  refine oe_getr (pc := 1) d_X11_soon_1 fl_X11_28 ock11 (k := 2) (b := 11) (Nat.le_of_ble_eq_true rfl) (by decide) (oLt hK (a := 0) (Nat.le_of_ble_eq_true rfl)) (oSho hK (a := 0) (Nat.le_of_ble_eq_true rfl) rfl) (oRfK hK rfl) ?_
  refine oe_iload_n (pc := 4) d_X11_soon_4 rfl ?_
  obtain ⟨v1, M2, q3, h⟩ := oB2_some h
  cases v1 with
  | true =>
    replace h := oCt h
    refine oe_callV (pc := 5) (ci := 3) d_X11_soon_5 (v_X3_isEngine hK  q3) (by omega) ml_X11_132 jJ_X3_isEngine rfl rfl (oLt hK (a := 11) (Nat.le_of_ble_eq_true rfl)) (oSho hK (a := 11) (Nat.le_of_ble_eq_true rfl) rfl) ock3 rfl (Nat.le_of_ble_eq_true rfl) ⟨Nat.le_refl _, Nat.le_refl _⟩ ⟨Nat.le_refl _, Nat.le_refl _⟩ ?_
    refine oe_if_eq (pc := 8) (tgt := 33) d_X11_soon_8 (by decide) (fun c => absurd c (by decide)) (fun _ => ?_)
    refine oe_aload_n (pc := 11) d_X11_soon_11 rfl ?_
    refine oe_getr (pc := 12) d_X11_soon_12 fl_X11_21 ock11 (k := 1) (b := 6) (Nat.le_of_ble_eq_true rfl) (by decide) (oLt hK (a := 0) (Nat.le_of_ble_eq_true rfl)) (oSho hK (a := 0) (Nat.le_of_ble_eq_true rfl) rfl) (oRfK hK rfl) ?_
    refine oe_iload_n (pc := 15) d_X11_soon_15 rfl ?_
    obtain ⟨v4, M5, q6, h⟩ := oB2_some h
    cases v4 with
    | true =>
      replace h := oCt h
      refine oe_callV (pc := 16) (ci := 4) d_X11_soon_16 (v_X4_isPoint hK  q6) (by omega) ml_X11_97 jJ_X4_isPoint rfl rfl (oLt hK (a := 6) (Nat.le_of_ble_eq_true rfl)) (oSho hK (a := 6) (Nat.le_of_ble_eq_true rfl) rfl) ock4 rfl (Nat.le_of_ble_eq_true rfl) ⟨Nat.le_refl _, Nat.le_refl _⟩ ⟨Nat.le_refl _, Nat.le_refl _⟩ ?_
      refine oe_if_eq (pc := 19) (tgt := 33) d_X11_soon_19 (by decide) (fun c => absurd c (by decide)) (fun _ => ?_)
      refine oe_aload_n (pc := 22) d_X11_soon_22 rfl ?_
      refine oe_getr (pc := 23) d_X11_soon_23 fl_X11_21 ock11 (k := 1) (b := 6) (Nat.le_of_ble_eq_true rfl) (by decide) (oLt hK (a := 0) (Nat.le_of_ble_eq_true rfl)) (oSho hK (a := 0) (Nat.le_of_ble_eq_true rfl) rfl) (oRfK hK rfl) ?_
      refine oe_iload_n (pc := 26) d_X11_soon_26 rfl ?_
      obtain ⟨v7, M8, q9, h⟩ := oB2_some h
      cases v7 with
      | true =>
        replace h := oCt h
        refine oe_callV (pc := 27) (ci := 4) d_X11_soon_27 (v_X4_isPoint hK  q9) (by omega) ml_X11_97 jJ_X4_isPoint rfl rfl (oLt hK (a := 6) (Nat.le_of_ble_eq_true rfl)) (oSho hK (a := 6) (Nat.le_of_ble_eq_true rfl) rfl) ock4 rfl (Nat.le_of_ble_eq_true rfl) ⟨Nat.le_refl _, Nat.le_refl _⟩ ⟨Nat.le_refl _, Nat.le_refl _⟩ ?_
        refine oe_if_ne (pc := 30) (tgt := 35) d_X11_soon_30 (by decide) (fun _ => ?_) (fun c => absurd c (by decide))
        refine oe_aload_n (pc := 35) d_X11_soon_35 rfl ?_
        refine oe_getr (pc := 36) d_X11_soon_36 fl_X11_21 ock11 (k := 1) (b := 6) (Nat.le_of_ble_eq_true rfl) (by decide) (oLt hK (a := 0) (Nat.le_of_ble_eq_true rfl)) (oSho hK (a := 0) (Nat.le_of_ble_eq_true rfl) rfl) (oRfK hK rfl) ?_
        refine oe_aload_n (pc := 39) d_X11_soon_39 rfl ?_
        refine oe_getr (pc := 40) d_X11_soon_40 fl_X11_28 ock11 (k := 2) (b := 11) (Nat.le_of_ble_eq_true rfl) (by decide) (oLt hK (a := 0) (Nat.le_of_ble_eq_true rfl)) (oSho hK (a := 0) (Nat.le_of_ble_eq_true rfl) rfl) (oRfK hK rfl) ?_
        refine oe_getr (pc := 43) d_X11_soon_43 fl_X11_255 ock3 (k := 2) (b := 13) (Nat.le_of_ble_eq_true rfl) (by decide) (oLt hK (a := 11) (Nat.le_of_ble_eq_true rfl)) (oSho hK (a := 11) (Nat.le_of_ble_eq_true rfl) rfl) (oRfK hK rfl) ?_
        refine oe_iload_n (pc := 46) d_X11_soon_46 rfl ?_
        obtain ⟨i10, h⟩ := oIx_some h
        refine oe_iald (pc := 47) d_X11_soon_47 (oLt hK (a := 13) (Nat.le_of_ble_eq_true rfl)) (oSha hK (a := 13) (Nat.le_of_ble_eq_true rfl) rfl) i10 ?_
        refine oe_iload_n (pc := 48) d_X11_soon_48 rfl ?_
        refine oe_iload_n (pc := 49) d_X11_soon_49 rfl ?_
        obtain ⟨v11, M12, q13, h⟩ := oB2_some h
        refine oe_callV (pc := 50) (ci := 4) d_X11_soon_50 (v_X4_soonest hK  q13) (by omega) ml_X11_258 jJ_X4_soonest rfl rfl (oLt hK (a := 6) (Nat.le_of_ble_eq_true rfl)) (oSho hK (a := 6) (Nat.le_of_ble_eq_true rfl) rfl) ock4 rfl (Nat.le_of_ble_eq_true rfl) ⟨Nat.le_refl _, Nat.le_refl _⟩ ⟨Nat.le_refl _, Nat.le_refl _⟩ ?_
        obtain ⟨rfl, rfl⟩ := oRes h
        exact oe_iret (pc := 53) d_X11_soon_53 ⟨_, rfl, rfl⟩
      | false =>
        replace h := oCf h
        refine oe_callV (pc := 27) (ci := 4) d_X11_soon_27 (v_X4_isPoint hK  q9) (by omega) ml_X11_97 jJ_X4_isPoint rfl rfl (oLt hK (a := 6) (Nat.le_of_ble_eq_true rfl)) (oSho hK (a := 6) (Nat.le_of_ble_eq_true rfl) rfl) ock4 rfl (Nat.le_of_ble_eq_true rfl) ⟨Nat.le_refl _, Nat.le_refl _⟩ ⟨Nat.le_refl _, Nat.le_refl _⟩ ?_
        refine oe_if_ne (pc := 30) (tgt := 35) d_X11_soon_30 (by decide) (fun c => absurd (by decide) c) (fun _ => ?_)
        refine oe_iconst (pc := 33) (v := (-1)) d_X11_soon_33 rfl ?_
        obtain ⟨rfl, rfl⟩ := oRes h
        exact oe_iret (pc := 34) d_X11_soon_34 ⟨_, rfl, rfl⟩
    | false =>
      replace h := oCf h
      refine oe_callV (pc := 16) (ci := 4) d_X11_soon_16 (v_X4_isPoint hK  q6) (by omega) ml_X11_97 jJ_X4_isPoint rfl rfl (oLt hK (a := 6) (Nat.le_of_ble_eq_true rfl)) (oSho hK (a := 6) (Nat.le_of_ble_eq_true rfl) rfl) ock4 rfl (Nat.le_of_ble_eq_true rfl) ⟨Nat.le_refl _, Nat.le_refl _⟩ ⟨Nat.le_refl _, Nat.le_refl _⟩ ?_
      refine oe_if_eq (pc := 19) (tgt := 33) d_X11_soon_19 (by decide) (fun _ => ?_) (fun c => absurd (by decide) c)
      refine oe_iconst (pc := 33) (v := (-1)) d_X11_soon_33 rfl ?_
      obtain ⟨rfl, rfl⟩ := oRes h
      exact oe_iret (pc := 34) d_X11_soon_34 ⟨_, rfl, rfl⟩
  | false =>
    replace h := oCf h
    refine oe_callV (pc := 5) (ci := 3) d_X11_soon_5 (v_X3_isEngine hK  q3) (by omega) ml_X11_132 jJ_X3_isEngine rfl rfl (oLt hK (a := 11) (Nat.le_of_ble_eq_true rfl)) (oSho hK (a := 11) (Nat.le_of_ble_eq_true rfl) rfl) ock3 rfl (Nat.le_of_ble_eq_true rfl) ⟨Nat.le_refl _, Nat.le_refl _⟩ ⟨Nat.le_refl _, Nat.le_refl _⟩ ?_
    refine oe_if_eq (pc := 8) (tgt := 33) d_X11_soon_8 (by decide) (fun _ => ?_) (fun c => absurd (by decide) c)
    refine oe_iconst (pc := 33) (v := (-1)) d_X11_soon_33 rfl ?_
    obtain ⟨rfl, rfl⟩ := oRes h
    exact oe_iret (pc := 34) d_X11_soon_34 ⟨_, rfl, rfl⟩
theorem d_X11_lasts_0 : decode J_X11_lasts.2.1 0 = .ok (.aload_n 0, 1) := by decide +kernel
theorem d_X11_lasts_1 : decode J_X11_lasts.2.1 1 = .ok (.iload_n 1, 1) := by decide +kernel
theorem d_X11_lasts_2 : decode J_X11_lasts.2.1 2 = .ok (.invokevirtual 148, 3) := by decide +kernel
theorem d_X11_lasts_5 : decode J_X11_lasts.2.1 5 = .ok (.astore_n 2, 1) := by decide +kernel
theorem d_X11_lasts_6 : decode J_X11_lasts.2.1 6 = .ok (.aload_n 2, 1) := by decide +kernel
theorem d_X11_lasts_7 : decode J_X11_lasts.2.1 7 = .ok (.ifnonnull 5, 3) := by decide +kernel
theorem d_X11_lasts_10 : decode J_X11_lasts.2.1 10 = .ok (.iconst (-1), 1) := by decide +kernel
theorem d_X11_lasts_11 : decode J_X11_lasts.2.1 11 = .ok (.ireturn, 1) := by decide +kernel
theorem d_X11_lasts_12 : decode J_X11_lasts.2.1 12 = .ok (.sipush 999, 3) := by decide +kernel
theorem d_X11_lasts_15 : decode J_X11_lasts.2.1 15 = .ok (.istore_n 3, 1) := by decide +kernel
theorem d_X11_lasts_16 : decode J_X11_lasts.2.1 16 = .ok (.iconst 0, 1) := by decide +kernel
theorem d_X11_lasts_17 : decode J_X11_lasts.2.1 17 = .ok (.istore 4, 2) := by decide +kernel
theorem d_X11_lasts_19 : decode J_X11_lasts.2.1 19 = .ok (.iload 4, 2) := by decide +kernel
theorem d_X11_lasts_21 : decode J_X11_lasts.2.1 21 = .ok (.aload_n 2, 1) := by decide +kernel
theorem d_X11_lasts_22 : decode J_X11_lasts.2.1 22 = .ok (.getfield 177, 3) := by decide +kernel
theorem d_X11_lasts_25 : decode J_X11_lasts.2.1 25 = .ok (.if_icmp .ge 55, 3) := by decide +kernel
theorem d_X11_lasts_28 : decode J_X11_lasts.2.1 28 = .ok (.aload_n 2, 1) := by decide +kernel
theorem d_X11_lasts_29 : decode J_X11_lasts.2.1 29 = .ok (.getfield 233, 3) := by decide +kernel
theorem d_X11_lasts_32 : decode J_X11_lasts.2.1 32 = .ok (.iload 4, 2) := by decide +kernel
theorem d_X11_lasts_34 : decode J_X11_lasts.2.1 34 = .ok (.iaload, 1) := by decide +kernel
theorem d_X11_lasts_35 : decode J_X11_lasts.2.1 35 = .ok (.istore 5, 2) := by decide +kernel
theorem d_X11_lasts_37 : decode J_X11_lasts.2.1 37 = .ok (.aload_n 2, 1) := by decide +kernel
theorem d_X11_lasts_38 : decode J_X11_lasts.2.1 38 = .ok (.getfield 261, 3) := by decide +kernel
theorem d_X11_lasts_41 : decode J_X11_lasts.2.1 41 = .ok (.iload 4, 2) := by decide +kernel
theorem d_X11_lasts_43 : decode J_X11_lasts.2.1 43 = .ok (.iaload, 1) := by decide +kernel
theorem d_X11_lasts_44 : decode J_X11_lasts.2.1 44 = .ok (.ifCond .ne 30, 3) := by decide +kernel
theorem d_X11_lasts_47 : decode J_X11_lasts.2.1 47 = .ok (.aload_n 0, 1) := by decide +kernel
theorem d_X11_lasts_48 : decode J_X11_lasts.2.1 48 = .ok (.getfield 28, 3) := by decide +kernel
theorem d_X11_lasts_51 : decode J_X11_lasts.2.1 51 = .ok (.iload 5, 2) := by decide +kernel
theorem d_X11_lasts_53 : decode J_X11_lasts.2.1 53 = .ok (.invokevirtual 132, 3) := by decide +kernel
theorem d_X11_lasts_56 : decode J_X11_lasts.2.1 56 = .ok (.ifCond .eq 18, 3) := by decide +kernel
theorem d_X11_lasts_59 : decode J_X11_lasts.2.1 59 = .ok (.iload_n 3, 1) := by decide +kernel
theorem d_X11_lasts_60 : decode J_X11_lasts.2.1 60 = .ok (.aload_n 0, 1) := by decide +kernel
theorem d_X11_lasts_61 : decode J_X11_lasts.2.1 61 = .ok (.getfield 28, 3) := by decide +kernel
theorem d_X11_lasts_64 : decode J_X11_lasts.2.1 64 = .ok (.getfield 264, 3) := by decide +kernel
theorem d_X11_lasts_67 : decode J_X11_lasts.2.1 67 = .ok (.iload 5, 2) := by decide +kernel
theorem d_X11_lasts_69 : decode J_X11_lasts.2.1 69 = .ok (.iaload, 1) := by decide +kernel
theorem d_X11_lasts_70 : decode J_X11_lasts.2.1 70 = .ok (.invokestatic 267, 3) := by decide +kernel
theorem d_X11_lasts_73 : decode J_X11_lasts.2.1 73 = .ok (.istore_n 3, 1) := by decide +kernel
theorem d_X11_lasts_74 : decode J_X11_lasts.2.1 74 = .ok (.iinc 4 1, 3) := by decide +kernel
theorem d_X11_lasts_77 : decode J_X11_lasts.2.1 77 = .ok (.goto (-58), 3) := by decide +kernel
theorem d_X11_lasts_80 : decode J_X11_lasts.2.1 80 = .ok (.iload_n 3, 1) := by decide +kernel
theorem d_X11_lasts_81 : decode J_X11_lasts.2.1 81 = .ok (.ireturn, 1) := by decide +kernel
def f_X11_lasts_74 (N : Nat) (K : oK) (r19 : (Nat → Int32 → Int32 → oM → Option (Int32 × oM))) (p2 : Nat) (p3 : Int32) (p4 : Int32) (M : oM) : Option (Int32 × oM) :=
  (r19 p2 p3 (p4 + 1) M)
set_option maxRecDepth 20000 in
theorem v_X11_lasts_74 {X : oX} {d N : Nat} {K : oK} {r19 : (Nat → Int32 → Int32 → oM → Option (Int32 × oM))} {p2 : Nat} {p3 : Int32} {p4 : Int32} {M : oM} {v : Int32} {M' : oM}  (hd : 3 ≤ d) (hK : oSR K) (hh_p2 : oLS K p2) (hr19 : ∀ (p2 : Nat) (p3 : Int32) (p4 : Int32) (M : oM) (v : Int32) (M' : oM)  (hh_p2 : oLS K p2), r19 p2 p3 p4 M = some (v, M') → oEv X d J_X11_lasts 19 [some (.ref 0), none, some (.ref p2), some (.int p3), some (.int p4), none] [] K M (some (.int v)) K M') (h : f_X11_lasts_74 N K r19 p2 p3 p4 M = some (v, M')) : oEv X d J_X11_lasts 74 [some (.ref 0), none, some (.ref p2), some (.int p3), some (.int p4), none] [] K M (some (.int v)) K M' := by
  unfold f_X11_lasts_74 at h
  refine oe_iinc (pc := 74) (v := (p4 + 1)) (L2 := [_, _, _, _, _, _]) d_X11_lasts_74 rfl rfl rfl (Nat.le_of_ble_eq_true rfl) rfl ?_
  refine oe_goto (pc := 77) (tgt := 19) d_X11_lasts_77 (by decide) ?_
  exact hr19 _ _ _ _ _ _ hh_p2 h
def f_X11_lasts_19 (N : Nat) (K : oK)  : Nat → Nat → Int32 → Int32 → oM → Option (Int32 × oM)
  | 0, _, _, _, _ => none
  | n + 1, p2, p3, p4, M => (fun r19 => (if (M.1 p2 7) ≤ p4 then some (p3, M) else oIx (p4) 24 (oIx (p4) 24 ((if (M.1 (p2 + 1) (p4 : Int32).toNatClampNeg) = 0 then oB2 (f_X3_isEngine N K (M.1 (p2 + 2) (p4 : Int32).toNatClampNeg) M) (fun v9 M10 => cond v9 (oIx ((M.1 (p2 + 2) (p4 : Int32).toNatClampNeg)) 6 ((f_X11_lasts_74 N K r19 p2 (if (M10.1 12 ((M.1 (p2 + 2) (p4 : Int32).toNatClampNeg) : Int32).toNatClampNeg) < p3 then (M10.1 12 ((M.1 (p2 + 2) (p4 : Int32).toNatClampNeg) : Int32).toNatClampNeg) else p3) p4 M10))) ((f_X11_lasts_74 N K r19 p2 p3 p4 M10))) else (f_X11_lasts_74 N K r19 p2 p3 p4 M)))))) (f_X11_lasts_19 N K  n)
set_option maxRecDepth 20000 in
theorem v_X11_lasts_19_L {X : oX} {d N : Nat} {K : oK}  (hd : 3 ≤ d) (hK : oSR K)  : ∀ (n : Nat) (p2 : Nat) (p3 : Int32) (p4 : Int32) (M : oM) (v : Int32) (M' : oM)  (hh_p2 : oLS K p2), f_X11_lasts_19 N K  n p2 p3 p4 M = some (v, M') → oEv X d J_X11_lasts 19 [some (.ref 0), none, some (.ref p2), some (.int p3), some (.int p4), none] [] K M (some (.int v)) K M' := by
  intro n
  induction n with
  | zero =>
    intro p2 p3 p4 M v M'  hh_p2 h
    cases h
  | succ n hr19 =>
    intro p2 p3 p4 M v M'  hh_p2 h
    refine oe_iload (pc := 19) d_X11_lasts_19 rfl ?_
    refine oe_aload_n (pc := 21) d_X11_lasts_21 rfl ?_
    refine oe_getf (pc := 22) d_X11_lasts_22 fl_X11_177 ock6 (k := 7) (Nat.le_of_ble_eq_true rfl) rfl (oLSa hh_p2 (j := 0) (Nat.le_of_ble_eq_true rfl)) (oLSo hh_p2) ?_
    refine oe_icmp_ge (pc := 25) (tgt := 80) d_X11_lasts_25 (by decide) (fun c5 => ?_) (fun c5 => ?_)
    · replace h := (if_pos c5).symm.trans h
      refine oe_iload_n (pc := 80) d_X11_lasts_80 rfl ?_
      obtain ⟨rfl, rfl⟩ := oRes h
      exact oe_iret (pc := 81) d_X11_lasts_81 ⟨_, rfl, rfl⟩
    · replace h := (if_neg c5).symm.trans h
      refine oe_aload_n (pc := 28) d_X11_lasts_28 rfl ?_
      refine oe_getr (pc := 29) d_X11_lasts_29 fl_X11_233 ock6 (k := 4) (b := p2 + 2) (Nat.le_of_ble_eq_true rfl) (by decide) (oLSa hh_p2 (j := 0) (Nat.le_of_ble_eq_true rfl)) (oLSo hh_p2) (oLSf hh_p2 (j := 2) (by decide) (by decide)) ?_
      refine oe_iload (pc := 32) d_X11_lasts_32 rfl ?_
      obtain ⟨i6, h⟩ := oIx_some h
      refine oe_iald (pc := 34) d_X11_lasts_34 (oLSa hh_p2 (j := 2) (Nat.le_of_ble_eq_true rfl)) (oLSr hh_p2 (j := 2) (by decide) (Nat.le_of_ble_eq_true rfl)) i6 ?_
      refine oe_istore (pc := 35) (L2 := [_, _, _, _, _, _]) d_X11_lasts_35 rfl (Nat.le_of_ble_eq_true rfl) rfl ?_
      refine oe_aload_n (pc := 37) d_X11_lasts_37 rfl ?_
      refine oe_getr (pc := 38) d_X11_lasts_38 fl_X11_261 ock6 (k := 3) (b := p2 + 1) (Nat.le_of_ble_eq_true rfl) (by decide) (oLSa hh_p2 (j := 0) (Nat.le_of_ble_eq_true rfl)) (oLSo hh_p2) (oLSf hh_p2 (j := 1) (by decide) (by decide)) ?_
      refine oe_iload (pc := 41) d_X11_lasts_41 rfl ?_
      obtain ⟨i7, h⟩ := oIx_some h
      refine oe_iald (pc := 43) d_X11_lasts_43 (oLSa hh_p2 (j := 1) (Nat.le_of_ble_eq_true rfl)) (oLSr hh_p2 (j := 1) (by decide) (Nat.le_of_ble_eq_true rfl)) i7 ?_
      refine oe_if_ne (pc := 44) (tgt := 74) d_X11_lasts_44 (by decide) (fun c8 => ?_) (fun c8 => ?_)
      · replace h := (if_neg c8).symm.trans h
        refine oEv.fg [true, false, true, true, true, false] ?_
        exact v_X11_lasts_74 hd hK hh_p2 hr19 h
      · replace h := (if_pos c8).symm.trans h
        refine oe_aload_n (pc := 47) d_X11_lasts_47 rfl ?_
        refine oe_getr (pc := 48) d_X11_lasts_48 fl_X11_28 ock11 (k := 2) (b := 11) (Nat.le_of_ble_eq_true rfl) (by decide) (oLt hK (a := 0) (Nat.le_of_ble_eq_true rfl)) (oSho hK (a := 0) (Nat.le_of_ble_eq_true rfl) rfl) (oRfK hK rfl) ?_
        refine oe_iload (pc := 51) d_X11_lasts_51 rfl ?_
        obtain ⟨v9, M10, q11, h⟩ := oB2_some h
        cases v9 with
        | true =>
          replace h := oCt h
          refine oe_callV (pc := 53) (ci := 3) d_X11_lasts_53 (v_X3_isEngine hK  q11) (by omega) ml_X11_132 jJ_X3_isEngine rfl rfl (oLt hK (a := 11) (Nat.le_of_ble_eq_true rfl)) (oSho hK (a := 11) (Nat.le_of_ble_eq_true rfl) rfl) ock3 rfl (Nat.le_of_ble_eq_true rfl) ⟨Nat.le_refl _, Nat.le_refl _⟩ ⟨Nat.le_refl _, Nat.le_refl _⟩ ?_
          refine oe_if_eq (pc := 56) (tgt := 74) d_X11_lasts_56 (by decide) (fun c => absurd c (by decide)) (fun _ => ?_)
          refine oe_iload_n (pc := 59) d_X11_lasts_59 rfl ?_
          refine oe_aload_n (pc := 60) d_X11_lasts_60 rfl ?_
          refine oe_getr (pc := 61) d_X11_lasts_61 fl_X11_28 ock11 (k := 2) (b := 11) (Nat.le_of_ble_eq_true rfl) (by decide) (oLt hK (a := 0) (Nat.le_of_ble_eq_true rfl)) (oSho hK (a := 0) (Nat.le_of_ble_eq_true rfl) rfl) (oRfK hK rfl) ?_
          refine oe_getr (pc := 64) d_X11_lasts_64 fl_X11_264 ock3 (k := 1) (b := 12) (Nat.le_of_ble_eq_true rfl) (by decide) (oLt hK (a := 11) (Nat.le_of_ble_eq_true rfl)) (oSho hK (a := 11) (Nat.le_of_ble_eq_true rfl) rfl) (oRfK hK rfl) ?_
          refine oe_iload (pc := 67) d_X11_lasts_67 rfl ?_
          obtain ⟨i12, h⟩ := oIx_some h
          refine oe_iald (pc := 69) d_X11_lasts_69 (oLt hK (a := 12) (Nat.le_of_ble_eq_true rfl)) (oSha hK (a := 12) (Nat.le_of_ble_eq_true rfl) rfl) i12 ?_
          refine oe_mmin (pc := 70) d_X11_lasts_70 mm_X11_267 (by omega) (Nat.le_of_ble_eq_true rfl) ?_
          refine oe_istore_n (pc := 73) (L2 := [_, _, _, _, _, _]) d_X11_lasts_73 rfl rfl (Nat.le_of_ble_eq_true rfl) rfl ?_
          refine oEv.fg [true, false, true, true, true, false] ?_
          exact v_X11_lasts_74 hd hK hh_p2 hr19 h
        | false =>
          replace h := oCf h
          refine oe_callV (pc := 53) (ci := 3) d_X11_lasts_53 (v_X3_isEngine hK  q11) (by omega) ml_X11_132 jJ_X3_isEngine rfl rfl (oLt hK (a := 11) (Nat.le_of_ble_eq_true rfl)) (oSho hK (a := 11) (Nat.le_of_ble_eq_true rfl) rfl) ock3 rfl (Nat.le_of_ble_eq_true rfl) ⟨Nat.le_refl _, Nat.le_refl _⟩ ⟨Nat.le_refl _, Nat.le_refl _⟩ ?_
          refine oe_if_eq (pc := 56) (tgt := 74) d_X11_lasts_56 (by decide) (fun _ => ?_) (fun c => absurd (by decide) c)
          refine oEv.fg [true, false, true, true, true, false] ?_
          exact v_X11_lasts_74 hd hK hh_p2 hr19 h
theorem v_X11_lasts_19 {X : oX} {d N : Nat} {K : oK}  {p2 : Nat} {p3 : Int32} {p4 : Int32} {M : oM} {v : Int32} {M' : oM}  (hd : 3 ≤ d) (hK : oSR K) (hh_p2 : oLS K p2)  (h : f_X11_lasts_19 N K  N p2 p3 p4 M = some (v, M')) : oEv X d J_X11_lasts 19 [some (.ref 0), none, some (.ref p2), some (.int p3), some (.int p4), none] [] K M (some (.int v)) K M' := v_X11_lasts_19_L hd hK  N p2 p3 p4 M v M'  hh_p2 h
def f_X11_lasts (N : Nat) (K : oK) (p1 : Int32) (M : oM) : Option (Int32 × oM) :=
  oB2 (f_X11_layingAt N K p1 M) (fun v1 M2 => oCs v1 (some ((-1), M2)) (fun h4 => (f_X11_lasts_19 N K  N h4 999 0 M2)))
set_option maxRecDepth 20000 in
theorem v_X11_lasts {X : oX} {N : Nat} {K : oK} {p1 : Int32} {M : oM} {v : Int32} {M' : oM} (hK : oSR K)  (h : f_X11_lasts N K p1 M = some (v, M')) : oMet X 3 J_X11_lasts [(.ref 0), (.int p1)] K M (some (.int v)) K M' := by
  unfold f_X11_lasts at h
  refine oMet_of (L := [some (.ref 0), some (.int p1), none, none, none, none]) jJ_X11_lasts.1 rfl (Nat.le_of_ble_eq_true rfl) rfl (Nat.le_refl _) (Nat.le_refl _) ?_
  have hd : 3 ≤ 3 := Nat.le_refl _
  refine oe_aload_n (pc := 0) d_X11_lasts_0 rfl ?_
  refine oe_iload_n (pc := 1) d_X11_lasts_1 rfl ?_
  obtain ⟨v1, M2, q3, h⟩ := oB2_some h
  cases v1 with
  | none =>
    replace h := oCsN h
    refine oe_callV (pc := 2) (ci := 11) d_X11_lasts_2 (v_X11_layingAt hK  q3) (by omega) ml_X11_148 jJ_X11_layingAt rfl rfl (oLt hK (a := 0) (Nat.le_of_ble_eq_true rfl)) (oSho hK (a := 0) (Nat.le_of_ble_eq_true rfl) rfl) ock11 rfl (Nat.le_of_ble_eq_true rfl) ⟨Nat.le_refl _, Nat.le_refl _⟩ ⟨Nat.le_refl _, Nat.le_refl _⟩ ?_
    refine oe_astore_nN (pc := 5) (L2 := [_, _, _, _, _, _]) d_X11_lasts_5 rfl rfl (Nat.le_of_ble_eq_true rfl) rfl ?_
    refine oe_aload_nN (pc := 6) d_X11_lasts_6 rfl ?_
    refine oe_ifnonnullN (pc := 7) d_X11_lasts_7 ?_
    refine oe_iconst (pc := 10) (v := (-1)) d_X11_lasts_10 rfl ?_
    obtain ⟨rfl, rfl⟩ := oRes h
    exact oe_iret (pc := 11) d_X11_lasts_11 ⟨_, rfl, rfl⟩
  | some h4 =>
    replace h := oCsS h
    have hh_h4 : oLS K h4 := o_X11_layingAt_ok hK q3
    refine oe_callV (pc := 2) (ci := 11) d_X11_lasts_2 (v_X11_layingAt hK  q3) (by omega) ml_X11_148 jJ_X11_layingAt rfl rfl (oLt hK (a := 0) (Nat.le_of_ble_eq_true rfl)) (oSho hK (a := 0) (Nat.le_of_ble_eq_true rfl) rfl) ock11 rfl (Nat.le_of_ble_eq_true rfl) ⟨Nat.le_refl _, Nat.le_refl _⟩ ⟨Nat.le_refl _, Nat.le_refl _⟩ ?_
    refine oe_astore_n (pc := 5) (L2 := [_, _, _, _, _, _]) d_X11_lasts_5 rfl rfl (Nat.le_of_ble_eq_true rfl) rfl ?_
    refine oe_aload_n (pc := 6) d_X11_lasts_6 rfl ?_
    refine oe_ifnonnull (pc := 7) (tgt := 12) d_X11_lasts_7 (by decide) ?_
    refine oe_sipush (pc := 12) (v := 999) d_X11_lasts_12 rfl ?_
    refine oe_istore_n (pc := 15) (L2 := [_, _, _, _, _, _]) d_X11_lasts_15 rfl rfl (Nat.le_of_ble_eq_true rfl) rfl ?_
    refine oe_iconst (pc := 16) (v := 0) d_X11_lasts_16 rfl ?_
    refine oe_istore (pc := 17) (L2 := [_, _, _, _, _, _]) d_X11_lasts_17 rfl (Nat.le_of_ble_eq_true rfl) rfl ?_
    refine oEv.fg [true, false, true, true, true, false] ?_
    exact v_X11_lasts_19 hd hK hh_h4  h
theorem d_X11_turn_0 : decode J_X11_turn.2.1 0 = .ok (.iload_n 1, 1) := by decide +kernel
theorem d_X11_turn_1 : decode J_X11_turn.2.1 1 = .ok (.ifCond .le 26, 3) := by decide +kernel
theorem d_X11_turn_4 : decode J_X11_turn.2.1 4 = .ok (.iload_n 1, 1) := by decide +kernel
theorem d_X11_turn_5 : decode J_X11_turn.2.1 5 = .ok (.iconst 1, 1) := by decide +kernel
theorem d_X11_turn_6 : decode J_X11_turn.2.1 6 = .ok (.aload_n 0, 1) := by decide +kernel
theorem d_X11_turn_7 : decode J_X11_turn.2.1 7 = .ok (.getfield 28, 3) := by decide +kernel
theorem d_X11_turn_10 : decode J_X11_turn.2.1 10 = .ok (.getfield 270, 3) := by decide +kernel
theorem d_X11_turn_13 : decode J_X11_turn.2.1 13 = .ok (.ishl, 1) := by decide +kernel
theorem d_X11_turn_14 : decode J_X11_turn.2.1 14 = .ok (.if_icmp .ge 13, 3) := by decide +kernel
theorem d_X11_turn_17 : decode J_X11_turn.2.1 17 = .ok (.iload_n 2, 1) := by decide +kernel
theorem d_X11_turn_18 : decode J_X11_turn.2.1 18 = .ok (.iconst 0, 1) := by decide +kernel
theorem d_X11_turn_19 : decode J_X11_turn.2.1 19 = .ok (.bipush 99, 2) := by decide +kernel
theorem d_X11_turn_21 : decode J_X11_turn.2.1 21 = .ok (.invokestatic 89, 3) := by decide +kernel
theorem d_X11_turn_24 : decode J_X11_turn.2.1 24 = .ok (.ifCond .ne 5, 3) := by decide +kernel
theorem d_X11_turn_27 : decode J_X11_turn.2.1 27 = .ok (.iconst (-1), 1) := by decide +kernel
theorem d_X11_turn_28 : decode J_X11_turn.2.1 28 = .ok (.ireturn, 1) := by decide +kernel
theorem d_X11_turn_29 : decode J_X11_turn.2.1 29 = .ok (.iconst 0, 1) := by decide +kernel
theorem d_X11_turn_30 : decode J_X11_turn.2.1 30 = .ok (.istore_n 3, 1) := by decide +kernel
theorem d_X11_turn_31 : decode J_X11_turn.2.1 31 = .ok (.iconst 0, 1) := by decide +kernel
theorem d_X11_turn_32 : decode J_X11_turn.2.1 32 = .ok (.istore 4, 2) := by decide +kernel
theorem d_X11_turn_34 : decode J_X11_turn.2.1 34 = .ok (.iload 4, 2) := by decide +kernel
theorem d_X11_turn_36 : decode J_X11_turn.2.1 36 = .ok (.aload_n 0, 1) := by decide +kernel
theorem d_X11_turn_37 : decode J_X11_turn.2.1 37 = .ok (.getfield 28, 3) := by decide +kernel
theorem d_X11_turn_40 : decode J_X11_turn.2.1 40 = .ok (.getfield 270, 3) := by decide +kernel
theorem d_X11_turn_43 : decode J_X11_turn.2.1 43 = .ok (.if_icmp .ge 32, 3) := by decide +kernel
theorem d_X11_turn_46 : decode J_X11_turn.2.1 46 = .ok (.iload_n 1, 1) := by decide +kernel
theorem d_X11_turn_47 : decode J_X11_turn.2.1 47 = .ok (.iload 4, 2) := by decide +kernel
theorem d_X11_turn_49 : decode J_X11_turn.2.1 49 = .ok (.ishr, 1) := by decide +kernel
theorem d_X11_turn_50 : decode J_X11_turn.2.1 50 = .ok (.iconst 1, 1) := by decide +kernel
theorem d_X11_turn_51 : decode J_X11_turn.2.1 51 = .ok (.iand, 1) := by decide +kernel
theorem d_X11_turn_52 : decode J_X11_turn.2.1 52 = .ok (.iconst 1, 1) := by decide +kernel
theorem d_X11_turn_53 : decode J_X11_turn.2.1 53 = .ok (.if_icmp .ne 16, 3) := by decide +kernel
theorem d_X11_turn_56 : decode J_X11_turn.2.1 56 = .ok (.iload_n 3, 1) := by decide +kernel
theorem d_X11_turn_57 : decode J_X11_turn.2.1 57 = .ok (.aload_n 0, 1) := by decide +kernel
theorem d_X11_turn_58 : decode J_X11_turn.2.1 58 = .ok (.getfield 28, 3) := by decide +kernel
theorem d_X11_turn_61 : decode J_X11_turn.2.1 61 = .ok (.getfield 264, 3) := by decide +kernel
theorem d_X11_turn_64 : decode J_X11_turn.2.1 64 = .ok (.iload 4, 2) := by decide +kernel
theorem d_X11_turn_66 : decode J_X11_turn.2.1 66 = .ok (.iaload, 1) := by decide +kernel
theorem d_X11_turn_67 : decode J_X11_turn.2.1 67 = .ok (.iadd, 1) := by decide +kernel
theorem d_X11_turn_68 : decode J_X11_turn.2.1 68 = .ok (.istore_n 3, 1) := by decide +kernel
theorem d_X11_turn_69 : decode J_X11_turn.2.1 69 = .ok (.iinc 4 1, 3) := by decide +kernel
theorem d_X11_turn_72 : decode J_X11_turn.2.1 72 = .ok (.goto (-38), 3) := by decide +kernel
theorem d_X11_turn_75 : decode J_X11_turn.2.1 75 = .ok (.iload_n 3, 1) := by decide +kernel
theorem d_X11_turn_76 : decode J_X11_turn.2.1 76 = .ok (.iload_n 2, 1) := by decide +kernel
theorem d_X11_turn_77 : decode J_X11_turn.2.1 77 = .ok (.iload_n 1, 1) := by decide +kernel
theorem d_X11_turn_78 : decode J_X11_turn.2.1 78 = .ok (.invokestatic 273, 3) := by decide +kernel
theorem d_X11_turn_81 : decode J_X11_turn.2.1 81 = .ok (.iconst 1, 1) := by decide +kernel
theorem d_X11_turn_82 : decode J_X11_turn.2.1 82 = .ok (.isub, 1) := by decide +kernel
theorem d_X11_turn_83 : decode J_X11_turn.2.1 83 = .ok (.imul, 1) := by decide +kernel
theorem d_X11_turn_84 : decode J_X11_turn.2.1 84 = .ok (.isub, 1) := by decide +kernel
theorem d_X11_turn_85 : decode J_X11_turn.2.1 85 = .ok (.ireturn, 1) := by decide +kernel
def f_X11_turn_69 (N : Nat) (K : oK) (r34 : (Int32 → Int32 → Int32 → Int32 → oM → Option (Int32 × oM))) (p1 : Int32) (p2 : Int32) (p3 : Int32) (p4 : Int32) (M : oM) : Option (Int32 × oM) :=
  (r34 p1 p2 p3 (p4 + 1) M)
set_option maxRecDepth 20000 in
theorem v_X11_turn_69 {X : oX} {d N : Nat} {K : oK} {r34 : (Int32 → Int32 → Int32 → Int32 → oM → Option (Int32 × oM))} {p1 : Int32} {p2 : Int32} {p3 : Int32} {p4 : Int32} {M : oM} {v : Int32} {M' : oM}  (hd : 2 ≤ d) (hK : oSR K)  (hr34 : ∀ (p1 : Int32) (p2 : Int32) (p3 : Int32) (p4 : Int32) (M : oM) (v : Int32) (M' : oM) , r34 p1 p2 p3 p4 M = some (v, M') → oEv X d J_X11_turn 34 [some (.ref 0), some (.int p1), some (.int p2), some (.int p3), some (.int p4)] [] K M (some (.int v)) K M') (h : f_X11_turn_69 N K r34 p1 p2 p3 p4 M = some (v, M')) : oEv X d J_X11_turn 69 [some (.ref 0), some (.int p1), some (.int p2), some (.int p3), some (.int p4)] [] K M (some (.int v)) K M' := by
  unfold f_X11_turn_69 at h
  refine oe_iinc (pc := 69) (v := (p4 + 1)) (L2 := [_, _, _, _, _]) d_X11_turn_69 rfl rfl rfl (Nat.le_of_ble_eq_true rfl) rfl ?_
  refine oe_goto (pc := 72) (tgt := 34) d_X11_turn_72 (by decide) ?_
  exact hr34 _ _ _ _ _ _ _ h
def f_X11_turn_34 (N : Nat) (K : oK)  : Nat → Int32 → Int32 → Int32 → Int32 → oM → Option (Int32 × oM)
  | 0, _, _, _, _, _ => none
  | n + 1, p1, p2, p3, p4, M => (fun r34 => (if (M.1 11 6) ≤ p4 then oB2 (f_J6_bitCount_0f7a4 N K p1 M) (fun v7 M8 => some ((p3 - (p2 * (v7 - 1))), M8)) else (if ((p1 >>> (p4 &&& 31)) &&& 1) = 1 then oIx (p4) 6 ((f_X11_turn_69 N K r34 p1 p2 (p3 + (M.1 12 (p4 : Int32).toNatClampNeg)) p4 M)) else (f_X11_turn_69 N K r34 p1 p2 p3 p4 M)))) (f_X11_turn_34 N K  n)
set_option maxRecDepth 20000 in
theorem v_X11_turn_34_L {X : oX} {d N : Nat} {K : oK}  (hd : 2 ≤ d) (hK : oSR K)  : ∀ (n : Nat) (p1 : Int32) (p2 : Int32) (p3 : Int32) (p4 : Int32) (M : oM) (v : Int32) (M' : oM)  , f_X11_turn_34 N K  n p1 p2 p3 p4 M = some (v, M') → oEv X d J_X11_turn 34 [some (.ref 0), some (.int p1), some (.int p2), some (.int p3), some (.int p4)] [] K M (some (.int v)) K M' := by
  intro n
  induction n with
  | zero =>
    intro p1 p2 p3 p4 M v M'   h
    cases h
  | succ n hr34 =>
    intro p1 p2 p3 p4 M v M'   h
    refine oe_iload (pc := 34) d_X11_turn_34 rfl ?_
    refine oe_aload_n (pc := 36) d_X11_turn_36 rfl ?_
    refine oe_getr (pc := 37) d_X11_turn_37 fl_X11_28 ock11 (k := 2) (b := 11) (Nat.le_of_ble_eq_true rfl) (by decide) (oLt hK (a := 0) (Nat.le_of_ble_eq_true rfl)) (oSho hK (a := 0) (Nat.le_of_ble_eq_true rfl) rfl) (oRfK hK rfl) ?_
    refine oe_getf (pc := 40) d_X11_turn_40 fl_X11_270 ock3 (k := 6) (Nat.le_of_ble_eq_true rfl) rfl (oLt hK (a := 11) (Nat.le_of_ble_eq_true rfl)) (oSho hK (a := 11) (Nat.le_of_ble_eq_true rfl) rfl) ?_
    refine oe_icmp_ge (pc := 43) (tgt := 75) d_X11_turn_43 (by decide) (fun c6 => ?_) (fun c6 => ?_)
    · replace h := (if_pos c6).symm.trans h
      refine oe_iload_n (pc := 75) d_X11_turn_75 rfl ?_
      refine oe_iload_n (pc := 76) d_X11_turn_76 rfl ?_
      refine oe_iload_n (pc := 77) d_X11_turn_77 rfl ?_
      obtain ⟨v7, M8, q9, h⟩ := oB2_some h
      refine oe_callS (pc := 78) d_X11_turn_78 (v_J6_bitCount_0f7a4 hK  q9) (by omega) ml_X11_273 jJ_J6_bitCount_0f7a4 rfl rfl (Nat.le_of_ble_eq_true rfl) ⟨Nat.le_refl _, Nat.le_refl _⟩ ⟨Nat.le_refl _, Nat.le_refl _⟩ ?_
      refine oe_iconst (pc := 81) (v := 1) d_X11_turn_81 rfl ?_
      refine oe_isub (pc := 82) d_X11_turn_82 ?_
      refine oe_imul (pc := 83) d_X11_turn_83 ?_
      refine oe_isub (pc := 84) d_X11_turn_84 ?_
      obtain ⟨rfl, rfl⟩ := oRes h
      exact oe_iret (pc := 85) d_X11_turn_85 ⟨_, rfl, rfl⟩
    · replace h := (if_neg c6).symm.trans h
      refine oe_iload_n (pc := 46) d_X11_turn_46 rfl ?_
      refine oe_iload (pc := 47) d_X11_turn_47 rfl ?_
      refine oe_ishr (pc := 49) d_X11_turn_49 ?_
      refine oe_iconst (pc := 50) (v := 1) d_X11_turn_50 rfl ?_
      refine oe_iand (pc := 51) d_X11_turn_51 ?_
      refine oe_iconst (pc := 52) (v := 1) d_X11_turn_52 rfl ?_
      refine oe_icmp_ne (pc := 53) (tgt := 69) d_X11_turn_53 (by decide) (fun c10 => ?_) (fun c10 => ?_)
      · replace h := (if_neg c10).symm.trans h
        exact v_X11_turn_69 hd hK  hr34 h
      · replace h := (if_pos c10).symm.trans h
        refine oe_iload_n (pc := 56) d_X11_turn_56 rfl ?_
        refine oe_aload_n (pc := 57) d_X11_turn_57 rfl ?_
        refine oe_getr (pc := 58) d_X11_turn_58 fl_X11_28 ock11 (k := 2) (b := 11) (Nat.le_of_ble_eq_true rfl) (by decide) (oLt hK (a := 0) (Nat.le_of_ble_eq_true rfl)) (oSho hK (a := 0) (Nat.le_of_ble_eq_true rfl) rfl) (oRfK hK rfl) ?_
        refine oe_getr (pc := 61) d_X11_turn_61 fl_X11_264 ock3 (k := 1) (b := 12) (Nat.le_of_ble_eq_true rfl) (by decide) (oLt hK (a := 11) (Nat.le_of_ble_eq_true rfl)) (oSho hK (a := 11) (Nat.le_of_ble_eq_true rfl) rfl) (oRfK hK rfl) ?_
        refine oe_iload (pc := 64) d_X11_turn_64 rfl ?_
        obtain ⟨i11, h⟩ := oIx_some h
        refine oe_iald (pc := 66) d_X11_turn_66 (oLt hK (a := 12) (Nat.le_of_ble_eq_true rfl)) (oSha hK (a := 12) (Nat.le_of_ble_eq_true rfl) rfl) i11 ?_
        refine oe_iadd (pc := 67) d_X11_turn_67 ?_
        refine oe_istore_n (pc := 68) (L2 := [_, _, _, _, _]) d_X11_turn_68 rfl rfl (Nat.le_of_ble_eq_true rfl) rfl ?_
        exact v_X11_turn_69 hd hK  hr34 h
theorem v_X11_turn_34 {X : oX} {d N : Nat} {K : oK}  {p1 : Int32} {p2 : Int32} {p3 : Int32} {p4 : Int32} {M : oM} {v : Int32} {M' : oM}  (hd : 2 ≤ d) (hK : oSR K)   (h : f_X11_turn_34 N K  N p1 p2 p3 p4 M = some (v, M')) : oEv X d J_X11_turn 34 [some (.ref 0), some (.int p1), some (.int p2), some (.int p3), some (.int p4)] [] K M (some (.int v)) K M' := v_X11_turn_34_L hd hK  N p1 p2 p3 p4 M v M'   h
def f_X11_turn (N : Nat) (K : oK) (p1 : Int32) (p2 : Int32) (M : oM) : Option (Int32 × oM) :=
  (if p1 ≤ 0 then some ((-1), M) else (if ((1 : Int32) <<< ((M.1 11 6) &&& 31)) ≤ p1 then some ((-1), M) else oB2 (f_X11_within N K p2 (0 : Int32) (99 : Int32) M) (fun v3 M4 => cond v3 ((f_X11_turn_34 N K  N p1 p2 0 0 M4)) (some ((-1), M4)))))
set_option maxRecDepth 20000 in
theorem v_X11_turn {X : oX} {N : Nat} {K : oK} {p1 : Int32} {p2 : Int32} {M : oM} {v : Int32} {M' : oM} (hK : oSR K)  (h : f_X11_turn N K p1 p2 M = some (v, M')) : oMet X 2 J_X11_turn [(.ref 0), (.int p1), (.int p2)] K M (some (.int v)) K M' := by
  unfold f_X11_turn at h
  refine oMet_of (L := [some (.ref 0), some (.int p1), some (.int p2), none, none]) jJ_X11_turn.1 rfl (Nat.le_of_ble_eq_true rfl) rfl (Nat.le_refl _) (Nat.le_refl _) ?_
  have hd : 2 ≤ 2 := Nat.le_refl _
  refine oe_iload_n (pc := 0) d_X11_turn_0 rfl ?_
  refine oe_if_le (pc := 1) (tgt := 27) d_X11_turn_1 (by decide) (fun c1 => ?_) (fun c1 => ?_)
  · replace h := (if_pos c1).symm.trans h
    refine oe_iconst (pc := 27) (v := (-1)) d_X11_turn_27 rfl ?_
    obtain ⟨rfl, rfl⟩ := oRes h
    exact oe_iret (pc := 28) d_X11_turn_28 ⟨_, rfl, rfl⟩
  · replace h := (if_neg c1).symm.trans h
    refine oe_iload_n (pc := 4) d_X11_turn_4 rfl ?_
    refine oe_iconst (pc := 5) (v := 1) d_X11_turn_5 rfl ?_
    refine oe_aload_n (pc := 6) d_X11_turn_6 rfl ?_
    refine oe_getr (pc := 7) d_X11_turn_7 fl_X11_28 ock11 (k := 2) (b := 11) (Nat.le_of_ble_eq_true rfl) (by decide) (oLt hK (a := 0) (Nat.le_of_ble_eq_true rfl)) (oSho hK (a := 0) (Nat.le_of_ble_eq_true rfl) rfl) (oRfK hK rfl) ?_
    refine oe_getf (pc := 10) d_X11_turn_10 fl_X11_270 ock3 (k := 6) (Nat.le_of_ble_eq_true rfl) rfl (oLt hK (a := 11) (Nat.le_of_ble_eq_true rfl)) (oSho hK (a := 11) (Nat.le_of_ble_eq_true rfl) rfl) ?_
    refine oe_ishl (pc := 13) d_X11_turn_13 ?_
    refine oe_icmp_ge (pc := 14) (tgt := 27) d_X11_turn_14 (by decide) (fun c2 => ?_) (fun c2 => ?_)
    · replace h := (if_pos c2).symm.trans h
      refine oe_iconst (pc := 27) (v := (-1)) d_X11_turn_27 rfl ?_
      obtain ⟨rfl, rfl⟩ := oRes h
      exact oe_iret (pc := 28) d_X11_turn_28 ⟨_, rfl, rfl⟩
    · replace h := (if_neg c2).symm.trans h
      refine oe_iload_n (pc := 17) d_X11_turn_17 rfl ?_
      refine oe_iconst (pc := 18) (v := 0) d_X11_turn_18 rfl ?_
      refine oe_bipush (pc := 19) (v := 99) d_X11_turn_19 rfl ?_
      obtain ⟨v3, M4, q5, h⟩ := oB2_some h
      cases v3 with
      | true =>
        replace h := oCt h
        refine oe_callS (pc := 21) d_X11_turn_21 (v_X11_within hK  q5) (by omega) ml_X11_89 jJ_X11_within rfl rfl (Nat.le_of_ble_eq_true rfl) ⟨Nat.le_refl _, Nat.le_refl _⟩ ⟨Nat.le_refl _, Nat.le_refl _⟩ ?_
        refine oe_if_ne (pc := 24) (tgt := 29) d_X11_turn_24 (by decide) (fun _ => ?_) (fun c => absurd c (by decide))
        refine oe_iconst (pc := 29) (v := 0) d_X11_turn_29 rfl ?_
        refine oe_istore_n (pc := 30) (L2 := [_, _, _, _, _]) d_X11_turn_30 rfl rfl (Nat.le_of_ble_eq_true rfl) rfl ?_
        refine oe_iconst (pc := 31) (v := 0) d_X11_turn_31 rfl ?_
        refine oe_istore (pc := 32) (L2 := [_, _, _, _, _]) d_X11_turn_32 rfl (Nat.le_of_ble_eq_true rfl) rfl ?_
        exact v_X11_turn_34 hd hK   h
      | false =>
        replace h := oCf h
        refine oe_callS (pc := 21) d_X11_turn_21 (v_X11_within hK  q5) (by omega) ml_X11_89 jJ_X11_within rfl rfl (Nat.le_of_ble_eq_true rfl) ⟨Nat.le_refl _, Nat.le_refl _⟩ ⟨Nat.le_refl _, Nat.le_refl _⟩ ?_
        refine oe_if_ne (pc := 24) (tgt := 29) d_X11_turn_24 (by decide) (fun c => absurd (by decide) c) (fun _ => ?_)
        refine oe_iconst (pc := 27) (v := (-1)) d_X11_turn_27 rfl ?_
        obtain ⟨rfl, rfl⟩ := oRes h
        exact oe_iret (pc := 28) d_X11_turn_28 ⟨_, rfl, rfl⟩
