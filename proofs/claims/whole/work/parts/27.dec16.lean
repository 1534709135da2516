/-! walked by program: X12_pressure, X12_flow, X12_judge, X12_bound, X12_sums, X12_lay -/
theorem d_X12_pressure_0 : decode J_X12_pressure.2.1 0 = .ok (.aload_n 0, 1) := by decide +kernel
theorem d_X12_pressure_1 : decode J_X12_pressure.2.1 1 = .ok (.iload_n 1, 1) := by decide +kernel
theorem d_X12_pressure_2 : decode J_X12_pressure.2.1 2 = .ok (.invokevirtual 230, 3) := by decide +kernel
theorem d_X12_pressure_5 : decode J_X12_pressure.2.1 5 = .ok (.ifCond .eq 28, 3) := by decide +kernel
theorem d_X12_pressure_8 : decode J_X12_pressure.2.1 8 = .ok (.iload_n 2, 1) := by decide +kernel
theorem d_X12_pressure_9 : decode J_X12_pressure.2.1 9 = .ok (.i2l, 1) := by decide +kernel
theorem d_X12_pressure_10 : decode J_X12_pressure.2.1 10 = .ok (.lconst 0, 1) := by decide +kernel
theorem d_X12_pressure_11 : decode J_X12_pressure.2.1 11 = .ok (.aload_n 0, 1) := by decide +kernel
theorem d_X12_pressure_12 : decode J_X12_pressure.2.1 12 = .ok (.getfield 58, 3) := by decide +kernel
theorem d_X12_pressure_15 : decode J_X12_pressure.2.1 15 = .ok (.iload_n 1, 1) := by decide +kernel
theorem d_X12_pressure_16 : decode J_X12_pressure.2.1 16 = .ok (.iaload, 1) := by decide +kernel
theorem d_X12_pressure_17 : decode J_X12_pressure.2.1 17 = .ok (.iconst 1, 1) := by decide +kernel
theorem d_X12_pressure_18 : decode J_X12_pressure.2.1 18 = .ok (.isub, 1) := by decide +kernel
theorem d_X12_pressure_19 : decode J_X12_pressure.2.1 19 = .ok (.i2l, 1) := by decide +kernel
theorem d_X12_pressure_20 : decode J_X12_pressure.2.1 20 = .ok (.invokestatic 145, 3) := by decide +kernel
theorem d_X12_pressure_23 : decode J_X12_pressure.2.1 23 = .ok (.ifCond .eq 10, 3) := by decide +kernel
theorem d_X12_pressure_26 : decode J_X12_pressure.2.1 26 = .ok (.iload_n 3, 1) := by decide +kernel
theorem d_X12_pressure_27 : decode J_X12_pressure.2.1 27 = .ok (.invokestatic 210, 3) := by decide +kernel
theorem d_X12_pressure_30 : decode J_X12_pressure.2.1 30 = .ok (.ifCond .ne 7, 3) := by decide +kernel
theorem d_X12_pressure_33 : decode J_X12_pressure.2.1 33 = .ok (.ldc_w 282, 3) := by decide +kernel
theorem d_X12_pressure_36 : decode J_X12_pressure.2.1 36 = .ok (.ireturn, 1) := by decide +kernel
theorem d_X12_pressure_37 : decode J_X12_pressure.2.1 37 = .ok (.aload_n 0, 1) := by decide +kernel
theorem d_X12_pressure_38 : decode J_X12_pressure.2.1 38 = .ok (.iload_n 1, 1) := by decide +kernel
theorem d_X12_pressure_39 : decode J_X12_pressure.2.1 39 = .ok (.invokevirtual 275, 3) := by decide +kernel
theorem d_X12_pressure_42 : decode J_X12_pressure.2.1 42 = .ok (.aload_n 0, 1) := by decide +kernel
theorem d_X12_pressure_43 : decode J_X12_pressure.2.1 43 = .ok (.iload_n 3, 1) := by decide +kernel
theorem d_X12_pressure_44 : decode J_X12_pressure.2.1 44 = .ok (.invokevirtual 268, 3) := by decide +kernel
theorem d_X12_pressure_47 : decode J_X12_pressure.2.1 47 = .ok (.istore 4, 2) := by decide +kernel
theorem d_X12_pressure_49 : decode J_X12_pressure.2.1 49 = .ok (.aload_n 0, 1) := by decide +kernel
theorem d_X12_pressure_50 : decode J_X12_pressure.2.1 50 = .ok (.getfield 89, 3) := by decide +kernel
theorem d_X12_pressure_53 : decode J_X12_pressure.2.1 53 = .ok (.iload_n 2, 1) := by decide +kernel
theorem d_X12_pressure_54 : decode J_X12_pressure.2.1 54 = .ok (.iaload, 1) := by decide +kernel
theorem d_X12_pressure_55 : decode J_X12_pressure.2.1 55 = .ok (.ireturn, 1) := by decide +kernel
def f_X12_pressure_33 (N : Nat) (K : oK)   (M : oM) : Option (Int32 × oM) :=
  some ((-2000000000), M)
set_option maxRecDepth 20000 in
theorem v_X12_pressure_33 {X : oX} {d N : Nat} {K : oK}   {M : oM} {v : Int32} {M' : oM}  (hd : 4 ≤ d) (hK : oSR K)   (h : f_X12_pressure_33 N K   M = some (v, M')) : oEv X d J_X12_pressure 33 [none, none, none, none, none] [] K M (some (.int v)) K M' := by
  unfold f_X12_pressure_33 at h
  refine oe_ldcw (pc := 33) d_X12_pressure_33 co_X12_282 ?_
  obtain ⟨rfl, rfl⟩ := oRes h
  exact oe_iret (pc := 36) d_X12_pressure_36 ⟨_, rfl, rfl⟩
def f_X12_pressure (N : Nat) (K : oK) (p1 : Int32) (p2 : Int32) (p3 : Int32) (M : oM) : Option (Int32 × oM) :=
  oB2 (f_X12_isLaying N K p1 M) (fun v1 M2 => cond v1 (oIx (p1) 20 (oB2 (f_X12_within N K ((p2 : Int32).toInt64) 0 ((((M2.1 76 (p1 : Int32).toNatClampNeg) - 1) : Int32).toInt64) M2) (fun v5 M6 => cond v5 (oB2 (f_X12_isFlow N K p3 M6) (fun v8 M9 => cond v8 (oB2 (f_X12_think N K p1 M9) (fun v11 M12 => oB2 (f_X12_goThrough N K p3 M12) (fun v14 M15 => oIx (p2) 25 (some ((M15.1 86 (p2 : Int32).toNatClampNeg), M15))))) ((f_X12_pressure_33 N K   M9)))) ((f_X12_pressure_33 N K   M6))))) ((f_X12_pressure_33 N K   M2)))
set_option maxRecDepth 20000 in
theorem v_X12_pressure {X : oX} {N : Nat} {K : oK} {p1 : Int32} {p2 : Int32} {p3 : Int32} {M : oM} {v : Int32} {M' : oM} (hK : oSR K)  (h : f_X12_pressure N K p1 p2 p3 M = some (v, M')) : oMet X 4 J_X12_pressure [(.ref 59), (.int p1), (.int p2), (.int p3)] K M (some (.int v)) K M' := by
  unfold f_X12_pressure at h
  refine oMet_of (L := [some (.ref 59), some (.int p1), some (.int p2), some (.int p3), none]) jJ_X12_pressure.1 rfl (Nat.le_of_ble_eq_true rfl) rfl (Nat.le_refl _) (Nat.le_refl _) ?_
  have hd : 4 ≤ 4 := Nat.le_refl _
  refine oe_aload_n (pc := 0) d_X12_pressure_0 rfl ?_
  refine oe_iload_n (pc := 1) d_X12_pressure_1 rfl ?_
  obtain ⟨v1, M2, q3, h⟩ := oB2_some h
  cases v1 with
  | true =>
    replace h := oCt h
    refine oe_callV (pc := 2) (ci := 12) d_X12_pressure_2 (v_X12_isLaying hK  q3) (by omega) ml_X12_230 jJ_X12_isLaying rfl rfl (oLt hK (a := 59) (Nat.le_of_ble_eq_true rfl)) (oSho hK (a := 59) (Nat.le_of_ble_eq_true rfl) rfl) ock12 rfl (Nat.le_of_ble_eq_true rfl) ⟨Nat.le_refl _, Nat.le_refl _⟩ ⟨Nat.le_refl _, Nat.le_refl _⟩ ?_
    refine oe_if_eq (pc := 5) (tgt := 33) d_X12_pressure_5 (by decide) (fun c => absurd c (by decide)) (fun _ => ?_)
    refine oe_iload_n (pc := 8) d_X12_pressure_8 rfl ?_
    refine oe_i2l (pc := 9) d_X12_pressure_9 ?_
    refine oe_lconst (pc := 10) (v := 0) d_X12_pressure_10 rfl ?_
    refine oe_aload_n (pc := 11) d_X12_pressure_11 rfl ?_
    refine oe_getr (pc := 12) d_X12_pressure_12 fl_X12_58 ock12 (k := 24) (b := 76) (Nat.le_of_ble_eq_true rfl) (by decide) (oLt hK (a := 59) (Nat.le_of_ble_eq_true rfl)) (oSho hK (a := 59) (Nat.le_of_ble_eq_true rfl) rfl) (oRfK hK rfl) ?_
    refine oe_iload_n (pc := 15) d_X12_pressure_15 rfl ?_
    obtain ⟨i4, h⟩ := oIx_some h
    refine oe_iald (pc := 16) d_X12_pressure_16 (oLt hK (a := 76) (Nat.le_of_ble_eq_true rfl)) (oSha hK (a := 76) (Nat.le_of_ble_eq_true rfl) rfl) i4 ?_
    refine oe_iconst (pc := 17) (v := 1) d_X12_pressure_17 rfl ?_
    refine oe_isub (pc := 18) d_X12_pressure_18 ?_
    refine oe_i2l (pc := 19) d_X12_pressure_19 ?_
    obtain ⟨v5, M6, q7, h⟩ := oB2_some h
    cases v5 with
    | true =>
      replace h := oCt h
      refine oe_callS (pc := 20) d_X12_pressure_20 (v_X12_within hK  q7) (by omega) ml_X12_145 jJ_X12_within rfl rfl (Nat.le_of_ble_eq_true rfl) ⟨Nat.le_refl _, Nat.le_refl _⟩ ⟨Nat.le_refl _, Nat.le_refl _⟩ ?_
      refine oe_if_eq (pc := 23) (tgt := 33) d_X12_pressure_23 (by decide) (fun c => absurd c (by decide)) (fun _ => ?_)
      refine oe_iload_n (pc := 26) d_X12_pressure_26 rfl ?_
      obtain ⟨v8, M9, q10, h⟩ := oB2_some h
      cases v8 with
      | true =>
        replace h := oCt h
        refine oe_callS (pc := 27) d_X12_pressure_27 (v_X12_isFlow hK  q10) (by omega) ml_X12_210 jJ_X12_isFlow rfl rfl (Nat.le_of_ble_eq_true rfl) ⟨Nat.le_refl _, Nat.le_refl _⟩ ⟨Nat.le_refl _, Nat.le_refl _⟩ ?_
        refine oe_if_ne (pc := 30) (tgt := 37) d_X12_pressure_30 (by decide) (fun _ => ?_) (fun c => absurd c (by decide))
        refine oe_aload_n (pc := 37) d_X12_pressure_37 rfl ?_
        refine oe_iload_n (pc := 38) d_X12_pressure_38 rfl ?_
        obtain ⟨v11, M12, q13, h⟩ := oB2_some h
        refine oe_callV (pc := 39) (ci := 12) d_X12_pressure_39 (v_X12_think hK  q13) (by omega) ml_X12_275 jJ_X12_think rfl rfl (oLt hK (a := 59) (Nat.le_of_ble_eq_true rfl)) (oSho hK (a := 59) (Nat.le_of_ble_eq_true rfl) rfl) ock12 rfl (Nat.le_of_ble_eq_true rfl) ⟨Nat.le_refl _, Nat.le_refl _⟩ ⟨Nat.le_refl _, Nat.le_refl _⟩ ?_
        refine oe_aload_n (pc := 42) d_X12_pressure_42 rfl ?_
        refine oe_iload_n (pc := 43) d_X12_pressure_43 rfl ?_
        obtain ⟨v14, M15, q16, h⟩ := oB2_some h
        refine oe_callV (pc := 44) (ci := 12) d_X12_pressure_44 (v_X12_goThrough hK  q16) (by omega) ml_X12_268 jJ_X12_goThrough rfl rfl (oLt hK (a := 59) (Nat.le_of_ble_eq_true rfl)) (oSho hK (a := 59) (Nat.le_of_ble_eq_true rfl) rfl) ock12 rfl (Nat.le_of_ble_eq_true rfl) ⟨Nat.le_refl _, Nat.le_refl _⟩ ⟨Nat.le_refl _, Nat.le_refl _⟩ ?_
        refine oe_istore (pc := 47) (L2 := [_, _, _, _, _]) d_X12_pressure_47 rfl (Nat.le_of_ble_eq_true rfl) rfl ?_
        refine oe_aload_n (pc := 49) d_X12_pressure_49 rfl ?_
        refine oe_getr (pc := 50) d_X12_pressure_50 fl_X12_89 ock12 (k := 37) (b := 86) (Nat.le_of_ble_eq_true rfl) (by decide) (oLt hK (a := 59) (Nat.le_of_ble_eq_true rfl)) (oSho hK (a := 59) (Nat.le_of_ble_eq_true rfl) rfl) (oRfK hK rfl) ?_
        refine oe_iload_n (pc := 53) d_X12_pressure_53 rfl ?_
        obtain ⟨i17, h⟩ := oIx_some h
        refine oe_iald (pc := 54) d_X12_pressure_54 (oLt hK (a := 86) (Nat.le_of_ble_eq_true rfl)) (oSha hK (a := 86) (Nat.le_of_ble_eq_true rfl) rfl) i17 ?_
        obtain ⟨rfl, rfl⟩ := oRes h
        exact oe_iret (pc := 55) d_X12_pressure_55 ⟨_, rfl, rfl⟩
      | false =>
        replace h := oCf h
        refine oe_callS (pc := 27) d_X12_pressure_27 (v_X12_isFlow hK  q10) (by omega) ml_X12_210 jJ_X12_isFlow rfl rfl (Nat.le_of_ble_eq_true rfl) ⟨Nat.le_refl _, Nat.le_refl _⟩ ⟨Nat.le_refl _, Nat.le_refl _⟩ ?_
        refine oe_if_ne (pc := 30) (tgt := 37) d_X12_pressure_30 (by decide) (fun c => absurd (by decide) c) (fun _ => ?_)
        refine oEv.fg [false, false, false, false, false] ?_
        exact v_X12_pressure_33 hd hK   h
    | false =>
      replace h := oCf h
      refine oe_callS (pc := 20) d_X12_pressure_20 (v_X12_within hK  q7) (by omega) ml_X12_145 jJ_X12_within rfl rfl (Nat.le_of_ble_eq_true rfl) ⟨Nat.le_refl _, Nat.le_refl _⟩ ⟨Nat.le_refl _, Nat.le_refl _⟩ ?_
      refine oe_if_eq (pc := 23) (tgt := 33) d_X12_pressure_23 (by decide) (fun _ => ?_) (fun c => absurd (by decide) c)
      refine oEv.fg [false, false, false, false, false] ?_
      exact v_X12_pressure_33 hd hK   h
  | false =>
    replace h := oCf h
    refine oe_callV (pc := 2) (ci := 12) d_X12_pressure_2 (v_X12_isLaying hK  q3) (by omega) ml_X12_230 jJ_X12_isLaying rfl rfl (oLt hK (a := 59) (Nat.le_of_ble_eq_true rfl)) (oSho hK (a := 59) (Nat.le_of_ble_eq_true rfl) rfl) ock12 rfl (Nat.le_of_ble_eq_true rfl) ⟨Nat.le_refl _, Nat.le_refl _⟩ ⟨Nat.le_refl _, Nat.le_refl _⟩ ?_
    refine oe_if_eq (pc := 5) (tgt := 33) d_X12_pressure_5 (by decide) (fun _ => ?_) (fun c => absurd (by decide) c)
    refine oEv.fg [false, false, false, false, false] ?_
    exact v_X12_pressure_33 hd hK   h
theorem d_X12_flow_0 : decode J_X12_flow.2.1 0 = .ok (.aload_n 0, 1) := by decide +kernel
theorem d_X12_flow_1 : decode J_X12_flow.2.1 1 = .ok (.iload_n 1, 1) := by decide +kernel
theorem d_X12_flow_2 : decode J_X12_flow.2.1 2 = .ok (.invokevirtual 230, 3) := by decide +kernel
theorem d_X12_flow_5 : decode J_X12_flow.2.1 5 = .ok (.ifCond .eq 10, 3) := by decide +kernel
theorem d_X12_flow_8 : decode J_X12_flow.2.1 8 = .ok (.iload_n 2, 1) := by decide +kernel
theorem d_X12_flow_9 : decode J_X12_flow.2.1 9 = .ok (.invokestatic 283, 3) := by decide +kernel
theorem d_X12_flow_12 : decode J_X12_flow.2.1 12 = .ok (.ifCond .ne 5, 3) := by decide +kernel
theorem d_X12_flow_15 : decode J_X12_flow.2.1 15 = .ok (.iconst (-1), 1) := by decide +kernel
theorem d_X12_flow_16 : decode J_X12_flow.2.1 16 = .ok (.ireturn, 1) := by decide +kernel
theorem d_X12_flow_17 : decode J_X12_flow.2.1 17 = .ok (.aload_n 0, 1) := by decide +kernel
theorem d_X12_flow_18 : decode J_X12_flow.2.1 18 = .ok (.iload_n 1, 1) := by decide +kernel
theorem d_X12_flow_19 : decode J_X12_flow.2.1 19 = .ok (.invokevirtual 275, 3) := by decide +kernel
theorem d_X12_flow_22 : decode J_X12_flow.2.1 22 = .ok (.aload_n 0, 1) := by decide +kernel
theorem d_X12_flow_23 : decode J_X12_flow.2.1 23 = .ok (.iload_n 2, 1) := by decide +kernel
theorem d_X12_flow_24 : decode J_X12_flow.2.1 24 = .ok (.invokevirtual 286, 3) := by decide +kernel
theorem d_X12_flow_27 : decode J_X12_flow.2.1 27 = .ok (.ireturn, 1) := by decide +kernel
def f_X12_flow (N : Nat) (K : oK) (p1 : Int32) (p2 : Int32) (M : oM) : Option (Int32 × oM) :=
  oB2 (f_X12_isLaying N K p1 M) (fun v1 M2 => cond v1 (oB2 (f_X12_isNeed N K p2 M2) (fun v4 M5 => cond v4 (oB2 (f_X12_think N K p1 M5) (fun v7 M8 => oB2 (f_X12_flowNow N K p2 M8) (fun v10 M11 => some (v10, M11)))) (some ((-1), M5)))) (some ((-1), M2)))
set_option maxRecDepth 20000 in
theorem v_X12_flow {X : oX} {N : Nat} {K : oK} {p1 : Int32} {p2 : Int32} {M : oM} {v : Int32} {M' : oM} (hK : oSR K)  (h : f_X12_flow N K p1 p2 M = some (v, M')) : oMet X 6 J_X12_flow [(.ref 59), (.int p1), (.int p2)] K M (some (.int v)) K M' := by
  unfold f_X12_flow at h
  refine oMet_of (L := [some (.ref 59), some (.int p1), some (.int p2)]) jJ_X12_flow.1 rfl (Nat.le_of_ble_eq_true rfl) rfl (Nat.le_refl _) (Nat.le_refl _) ?_
  have hd : 6 ≤ 6 := Nat.le_refl _
  refine oe_aload_n (pc := 0) d_X12_flow_0 rfl ?_
  refine oe_iload_n (pc := 1) d_X12_flow_1 rfl ?_
  obtain ⟨v1, M2, q3, h⟩ := oB2_some h
  cases v1 with
  | true =>
    replace h := oCt h
    refine oe_callV (pc := 2) (ci := 12) d_X12_flow_2 (v_X12_isLaying hK  q3) (by omega) ml_X12_230 jJ_X12_isLaying rfl rfl (oLt hK (a := 59) (Nat.le_of_ble_eq_true rfl)) (oSho hK (a := 59) (Nat.le_of_ble_eq_true rfl) rfl) ock12 rfl (Nat.le_of_ble_eq_true rfl) ⟨Nat.le_refl _, Nat.le_refl _⟩ ⟨Nat.le_refl _, Nat.le_refl _⟩ ?_
    refine oe_if_eq (pc := 5) (tgt := 15) d_X12_flow_5 (by decide) (fun c => absurd c (by decide)) (fun _ => ?_)
    refine oe_iload_n (pc := 8) d_X12_flow_8 rfl ?_
    obtain ⟨v4, M5, q6, h⟩ := oB2_some h
    cases v4 with
    | true =>
      replace h := oCt h
      refine oe_callS (pc := 9) d_X12_flow_9 (v_X12_isNeed hK  q6) (by omega) ml_X12_283 jJ_X12_isNeed rfl rfl (Nat.le_of_ble_eq_true rfl) ⟨Nat.le_refl _, Nat.le_refl _⟩ ⟨Nat.le_refl _, Nat.le_refl _⟩ ?_
      refine oe_if_ne (pc := 12) (tgt := 17) d_X12_flow_12 (by decide) (fun _ => ?_) (fun c => absurd c (by decide))
      refine oe_aload_n (pc := 17) d_X12_flow_17 rfl ?_
      refine oe_iload_n (pc := 18) d_X12_flow_18 rfl ?_
      obtain ⟨v7, M8, q9, h⟩ := oB2_some h
      refine oe_callV (pc := 19) (ci := 12) d_X12_flow_19 (v_X12_think hK  q9) (by omega) ml_X12_275 jJ_X12_think rfl rfl (oLt hK (a := 59) (Nat.le_of_ble_eq_true rfl)) (oSho hK (a := 59) (Nat.le_of_ble_eq_true rfl) rfl) ock12 rfl (Nat.le_of_ble_eq_true rfl) ⟨Nat.le_refl _, Nat.le_refl _⟩ ⟨Nat.le_refl _, Nat.le_refl _⟩ ?_
      refine oe_aload_n (pc := 22) d_X12_flow_22 rfl ?_
      refine oe_iload_n (pc := 23) d_X12_flow_23 rfl ?_
      obtain ⟨v10, M11, q12, h⟩ := oB2_some h
      refine oe_callV (pc := 24) (ci := 12) d_X12_flow_24 (v_X12_flowNow hK  q12) (by omega) ml_X12_286 jJ_X12_flowNow rfl rfl (oLt hK (a := 59) (Nat.le_of_ble_eq_true rfl)) (oSho hK (a := 59) (Nat.le_of_ble_eq_true rfl) rfl) ock12 rfl (Nat.le_of_ble_eq_true rfl) ⟨Nat.le_refl _, Nat.le_refl _⟩ ⟨Nat.le_refl _, Nat.le_refl _⟩ ?_
      obtain ⟨rfl, rfl⟩ := oRes h
      exact oe_iret (pc := 27) d_X12_flow_27 ⟨_, rfl, rfl⟩
    | false =>
      replace h := oCf h
      refine oe_callS (pc := 9) d_X12_flow_9 (v_X12_isNeed hK  q6) (by omega) ml_X12_283 jJ_X12_isNeed rfl rfl (Nat.le_of_ble_eq_true rfl) ⟨Nat.le_refl _, Nat.le_refl _⟩ ⟨Nat.le_refl _, Nat.le_refl _⟩ ?_
      refine oe_if_ne (pc := 12) (tgt := 17) d_X12_flow_12 (by decide) (fun c => absurd (by decide) c) (fun _ => ?_)
      refine oe_iconst (pc := 15) (v := (-1)) d_X12_flow_15 rfl ?_
      obtain ⟨rfl, rfl⟩ := oRes h
      exact oe_iret (pc := 16) d_X12_flow_16 ⟨_, rfl, rfl⟩
  | false =>
    replace h := oCf h
    refine oe_callV (pc := 2) (ci := 12) d_X12_flow_2 (v_X12_isLaying hK  q3) (by omega) ml_X12_230 jJ_X12_isLaying rfl rfl (oLt hK (a := 59) (Nat.le_of_ble_eq_true rfl)) (oSho hK (a := 59) (Nat.le_of_ble_eq_true rfl) rfl) ock12 rfl (Nat.le_of_ble_eq_true rfl) ⟨Nat.le_refl _, Nat.le_refl _⟩ ⟨Nat.le_refl _, Nat.le_refl _⟩ ?_
    refine oe_if_eq (pc := 5) (tgt := 15) d_X12_flow_5 (by decide) (fun _ => ?_) (fun c => absurd (by decide) c)
    refine oe_iconst (pc := 15) (v := (-1)) d_X12_flow_15 rfl ?_
    obtain ⟨rfl, rfl⟩ := oRes h
    exact oe_iret (pc := 16) d_X12_flow_16 ⟨_, rfl, rfl⟩
theorem d_X12_judge_0 : decode J_X12_judge.2.1 0 = .ok (.aload_n 0, 1) := by decide +kernel
theorem d_X12_judge_1 : decode J_X12_judge.2.1 1 = .ok (.iload_n 1, 1) := by decide +kernel
theorem d_X12_judge_2 : decode J_X12_judge.2.1 2 = .ok (.invokevirtual 230, 3) := by decide +kernel
theorem d_X12_judge_5 : decode J_X12_judge.2.1 5 = .ok (.ifCond .eq 17, 3) := by decide +kernel
theorem d_X12_judge_8 : decode J_X12_judge.2.1 8 = .ok (.iload_n 2, 1) := by decide +kernel
theorem d_X12_judge_9 : decode J_X12_judge.2.1 9 = .ok (.invokestatic 210, 3) := by decide +kernel
theorem d_X12_judge_12 : decode J_X12_judge.2.1 12 = .ok (.ifCond .eq 10, 3) := by decide +kernel
theorem d_X12_judge_15 : decode J_X12_judge.2.1 15 = .ok (.iload_n 3, 1) := by decide +kernel
theorem d_X12_judge_16 : decode J_X12_judge.2.1 16 = .ok (.invokestatic 283, 3) := by decide +kernel
theorem d_X12_judge_19 : decode J_X12_judge.2.1 19 = .ok (.ifCond .ne 5, 3) := by decide +kernel
theorem d_X12_judge_22 : decode J_X12_judge.2.1 22 = .ok (.iconst (-1), 1) := by decide +kernel
theorem d_X12_judge_23 : decode J_X12_judge.2.1 23 = .ok (.ireturn, 1) := by decide +kernel
theorem d_X12_judge_24 : decode J_X12_judge.2.1 24 = .ok (.aload_n 0, 1) := by decide +kernel
theorem d_X12_judge_25 : decode J_X12_judge.2.1 25 = .ok (.iload_n 1, 1) := by decide +kernel
theorem d_X12_judge_26 : decode J_X12_judge.2.1 26 = .ok (.invokevirtual 275, 3) := by decide +kernel
theorem d_X12_judge_29 : decode J_X12_judge.2.1 29 = .ok (.aload_n 0, 1) := by decide +kernel
theorem d_X12_judge_30 : decode J_X12_judge.2.1 30 = .ok (.iload_n 2, 1) := by decide +kernel
theorem d_X12_judge_31 : decode J_X12_judge.2.1 31 = .ok (.invokevirtual 268, 3) := by decide +kernel
theorem d_X12_judge_34 : decode J_X12_judge.2.1 34 = .ok (.istore 4, 2) := by decide +kernel
theorem d_X12_judge_36 : decode J_X12_judge.2.1 36 = .ok (.aload_n 0, 1) := by decide +kernel
theorem d_X12_judge_37 : decode J_X12_judge.2.1 37 = .ok (.getfield 265, 3) := by decide +kernel
theorem d_X12_judge_40 : decode J_X12_judge.2.1 40 = .ok (.ifCond .lt 10, 3) := by decide +kernel
theorem d_X12_judge_43 : decode J_X12_judge.2.1 43 = .ok (.aload_n 0, 1) := by decide +kernel
theorem d_X12_judge_44 : decode J_X12_judge.2.1 44 = .ok (.getfield 265, 3) := by decide +kernel
theorem d_X12_judge_47 : decode J_X12_judge.2.1 47 = .ok (.goto 16, 3) := by decide +kernel
theorem d_X12_judge_50 : decode J_X12_judge.2.1 50 = .ok (.iload 4, 2) := by decide +kernel
theorem d_X12_judge_52 : decode J_X12_judge.2.1 52 = .ok (.iload_n 3, 1) := by decide +kernel
theorem d_X12_judge_53 : decode J_X12_judge.2.1 53 = .ok (.if_icmp .ge 8, 3) := by decide +kernel
theorem d_X12_judge_56 : decode J_X12_judge.2.1 56 = .ok (.bipush 100, 2) := by decide +kernel
theorem d_X12_judge_58 : decode J_X12_judge.2.1 58 = .ok (.goto 5, 3) := by decide +kernel
theorem d_X12_judge_61 : decode J_X12_judge.2.1 61 = .ok (.bipush (-2), 2) := by decide +kernel
theorem d_X12_judge_63 : decode J_X12_judge.2.1 63 = .ok (.ireturn, 1) := by decide +kernel
def f_X12_judge (N : Nat) (K : oK) (p1 : Int32) (p2 : Int32) (p3 : Int32) (M : oM) : Option (Int32 × oM) :=
  oB2 (f_X12_isLaying N K p1 M) (fun v1 M2 => cond v1 (oB2 (f_X12_isFlow N K p2 M2) (fun v4 M5 => cond v4 (oB2 (f_X12_isNeed N K p3 M5) (fun v7 M8 => cond v7 (oB2 (f_X12_think N K p1 M8) (fun v10 M11 => oB2 (f_X12_goThrough N K p2 M11) (fun v13 M14 => (if (M14.1 59 39) < 0 then (if p3 ≤ v13 then some ((-2), M14) else some (100, M14)) else some ((M14.1 59 39), M14))))) (some ((-1), M8)))) (some ((-1), M5)))) (some ((-1), M2)))
set_option maxRecDepth 20000 in
theorem v_X12_judge {X : oX} {N : Nat} {K : oK} {p1 : Int32} {p2 : Int32} {p3 : Int32} {M : oM} {v : Int32} {M' : oM} (hK : oSR K)  (h : f_X12_judge N K p1 p2 p3 M = some (v, M')) : oMet X 4 J_X12_judge [(.ref 59), (.int p1), (.int p2), (.int p3)] K M (some (.int v)) K M' := by
  unfold f_X12_judge at h
  refine oMet_of (L := [some (.ref 59), some (.int p1), some (.int p2), some (.int p3), none]) jJ_X12_judge.1 rfl (Nat.le_of_ble_eq_true rfl) rfl (Nat.le_refl _) (Nat.le_refl _) ?_
  have hd : 4 ≤ 4 := Nat.le_refl _
  refine oe_aload_n (pc := 0) d_X12_judge_0 rfl ?_
  refine oe_iload_n (pc := 1) d_X12_judge_1 rfl ?_
  obtain ⟨v1, M2, q3, h⟩ := oB2_some h
  cases v1 with
  | true =>
    replace h := oCt h
    refine oe_callV (pc := 2) (ci := 12) d_X12_judge_2 (v_X12_isLaying hK  q3) (by omega) ml_X12_230 jJ_X12_isLaying rfl rfl (oLt hK (a := 59) (Nat.le_of_ble_eq_true rfl)) (oSho hK (a := 59) (Nat.le_of_ble_eq_true rfl) rfl) ock12 rfl (Nat.le_of_ble_eq_true rfl) ⟨Nat.le_refl _, Nat.le_refl _⟩ ⟨Nat.le_refl _, Nat.le_refl _⟩ ?_
    refine oe_if_eq (pc := 5) (tgt := 22) d_X12_judge_5 (by decide) (fun c => absurd c (by decide)) (fun _ => ?_)
    refine oe_iload_n (pc := 8) d_X12_judge_8 rfl ?_
    obtain ⟨v4, M5, q6, h⟩ := oB2_some h
    cases v4 with
    | true =>
      replace h := oCt h
      refine oe_callS (pc := 9) d_X12_judge_9 (v_X12_isFlow hK  q6) (by omega) ml_X12_210 jJ_X12_isFlow rfl rfl (Nat.le_of_ble_eq_true rfl) ⟨Nat.le_refl _, Nat.le_refl _⟩ ⟨Nat.le_refl _, Nat.le_refl _⟩ ?_
      refine oe_if_eq (pc := 12) (tgt := 22) d_X12_judge_12 (by decide) (fun c => absurd c (by decide)) (fun _ => ?_)
      refine oe_iload_n (pc := 15) d_X12_judge_15 rfl ?_
      obtain ⟨v7, M8, q9, h⟩ := oB2_some h
      cases v7 with
      | true =>
        replace h := oCt h
        refine oe_callS (pc := 16) d_X12_judge_16 (v_X12_isNeed hK  q9) (by omega) ml_X12_283 jJ_X12_isNeed rfl rfl (Nat.le_of_ble_eq_true rfl) ⟨Nat.le_refl _, Nat.le_refl _⟩ ⟨Nat.le_refl _, Nat.le_refl _⟩ ?_
        refine oe_if_ne (pc := 19) (tgt := 24) d_X12_judge_19 (by decide) (fun _ => ?_) (fun c => absurd c (by decide))
        refine oe_aload_n (pc := 24) d_X12_judge_24 rfl ?_
        refine oe_iload_n (pc := 25) d_X12_judge_25 rfl ?_
        obtain ⟨v10, M11, q12, h⟩ := oB2_some h
        refine oe_callV (pc := 26) (ci := 12) d_X12_judge_26 (v_X12_think hK  q12) (by omega) ml_X12_275 jJ_X12_think rfl rfl (oLt hK (a := 59) (Nat.le_of_ble_eq_true rfl)) (oSho hK (a := 59) (Nat.le_of_ble_eq_true rfl) rfl) ock12 rfl (Nat.le_of_ble_eq_true rfl) ⟨Nat.le_refl _, Nat.le_refl _⟩ ⟨Nat.le_refl _, Nat.le_refl _⟩ ?_
        refine oe_aload_n (pc := 29) d_X12_judge_29 rfl ?_
        refine oe_iload_n (pc := 30) d_X12_judge_30 rfl ?_
        obtain ⟨v13, M14, q15, h⟩ := oB2_some h
        refine oe_callV (pc := 31) (ci := 12) d_X12_judge_31 (v_X12_goThrough hK  q15) (by omega) ml_X12_268 jJ_X12_goThrough rfl rfl (oLt hK (a := 59) (Nat.le_of_ble_eq_true rfl)) (oSho hK (a := 59) (Nat.le_of_ble_eq_true rfl) rfl) ock12 rfl (Nat.le_of_ble_eq_true rfl) ⟨Nat.le_refl _, Nat.le_refl _⟩ ⟨Nat.le_refl _, Nat.le_refl _⟩ ?_
        refine oe_istore (pc := 34) (L2 := [_, _, _, _, _]) d_X12_judge_34 rfl (Nat.le_of_ble_eq_true rfl) rfl ?_
        refine oe_aload_n (pc := 36) d_X12_judge_36 rfl ?_
        refine oe_getf (pc := 37) d_X12_judge_37 fl_X12_265 ock12 (k := 39) (Nat.le_of_ble_eq_true rfl) rfl (oLt hK (a := 59) (Nat.le_of_ble_eq_true rfl)) (oSho hK (a := 59) (Nat.le_of_ble_eq_true rfl) rfl) ?_
        refine oe_if_lt (pc := 40) (tgt := 50) d_X12_judge_40 (by decide) (fun c16 => ?_) (fun c16 => ?_)
        · replace h := (if_pos c16).symm.trans h
          refine oe_iload (pc := 50) d_X12_judge_50 rfl ?_
          refine oe_iload_n (pc := 52) d_X12_judge_52 rfl ?_
          refine oe_icmp_ge (pc := 53) (tgt := 61) d_X12_judge_53 (by decide) (fun c17 => ?_) (fun c17 => ?_)
          · replace h := (if_pos c17).symm.trans h
            refine oe_bipush (pc := 61) (v := (-2)) d_X12_judge_61 rfl ?_
            obtain ⟨rfl, rfl⟩ := oRes h
            exact oe_iret (pc := 63) d_X12_judge_63 ⟨_, rfl, rfl⟩
          · replace h := (if_neg c17).symm.trans h
            refine oe_bipush (pc := 56) (v := 100) d_X12_judge_56 rfl ?_
            refine oe_goto (pc := 58) (tgt := 63) d_X12_judge_58 (by decide) ?_
            obtain ⟨rfl, rfl⟩ := oRes h
            exact oe_iret (pc := 63) d_X12_judge_63 ⟨_, rfl, rfl⟩
        · replace h := (if_neg c16).symm.trans h
          refine oe_aload_n (pc := 43) d_X12_judge_43 rfl ?_
          refine oe_getf (pc := 44) d_X12_judge_44 fl_X12_265 ock12 (k := 39) (Nat.le_of_ble_eq_true rfl) rfl (oLt hK (a := 59) (Nat.le_of_ble_eq_true rfl)) (oSho hK (a := 59) (Nat.le_of_ble_eq_true rfl) rfl) ?_
          refine oe_goto (pc := 47) (tgt := 63) d_X12_judge_47 (by decide) ?_
          obtain ⟨rfl, rfl⟩ := oRes h
          exact oe_iret (pc := 63) d_X12_judge_63 ⟨_, rfl, rfl⟩
      | false =>
        replace h := oCf h
        refine oe_callS (pc := 16) d_X12_judge_16 (v_X12_isNeed hK  q9) (by omega) ml_X12_283 jJ_X12_isNeed rfl rfl (Nat.le_of_ble_eq_true rfl) ⟨Nat.le_refl _, Nat.le_refl _⟩ ⟨Nat.le_refl _, Nat.le_refl _⟩ ?_
        refine oe_if_ne (pc := 19) (tgt := 24) d_X12_judge_19 (by decide) (fun c => absurd (by decide) c) (fun _ => ?_)
        refine oe_iconst (pc := 22) (v := (-1)) d_X12_judge_22 rfl ?_
        obtain ⟨rfl, rfl⟩ := oRes h
        exact oe_iret (pc := 23) d_X12_judge_23 ⟨_, rfl, rfl⟩
    | false =>
      replace h := oCf h
      refine oe_callS (pc := 9) d_X12_judge_9 (v_X12_isFlow hK  q6) (by omega) ml_X12_210 jJ_X12_isFlow rfl rfl (Nat.le_of_ble_eq_true rfl) ⟨Nat.le_refl _, Nat.le_refl _⟩ ⟨Nat.le_refl _, Nat.le_refl _⟩ ?_
      refine oe_if_eq (pc := 12) (tgt := 22) d_X12_judge_12 (by decide) (fun _ => ?_) (fun c => absurd (by decide) c)
      refine oe_iconst (pc := 22) (v := (-1)) d_X12_judge_22 rfl ?_
      obtain ⟨rfl, rfl⟩ := oRes h
      exact oe_iret (pc := 23) d_X12_judge_23 ⟨_, rfl, rfl⟩
  | false =>
    replace h := oCf h
    refine oe_callV (pc := 2) (ci := 12) d_X12_judge_2 (v_X12_isLaying hK  q3) (by omega) ml_X12_230 jJ_X12_isLaying rfl rfl (oLt hK (a := 59) (Nat.le_of_ble_eq_true rfl)) (oSho hK (a := 59) (Nat.le_of_ble_eq_true rfl) rfl) ock12 rfl (Nat.le_of_ble_eq_true rfl) ⟨Nat.le_refl _, Nat.le_refl _⟩ ⟨Nat.le_refl _, Nat.le_refl _⟩ ?_
    refine oe_if_eq (pc := 5) (tgt := 22) d_X12_judge_5 (by decide) (fun _ => ?_) (fun c => absurd (by decide) c)
    refine oe_iconst (pc := 22) (v := (-1)) d_X12_judge_22 rfl ?_
    obtain ⟨rfl, rfl⟩ := oRes h
    exact oe_iret (pc := 23) d_X12_judge_23 ⟨_, rfl, rfl⟩
theorem d_X12_bound_0 : decode J_X12_bound.2.1 0 = .ok (.aload_n 0, 1) := by decide +kernel
theorem d_X12_bound_1 : decode J_X12_bound.2.1 1 = .ok (.iload_n 1, 1) := by decide +kernel
theorem d_X12_bound_2 : decode J_X12_bound.2.1 2 = .ok (.invokevirtual 230, 3) := by decide +kernel
theorem d_X12_bound_5 : decode J_X12_bound.2.1 5 = .ok (.ifCond .eq 10, 3) := by decide +kernel
theorem d_X12_bound_8 : decode J_X12_bound.2.1 8 = .ok (.iload_n 2, 1) := by decide +kernel
theorem d_X12_bound_9 : decode J_X12_bound.2.1 9 = .ok (.invokestatic 283, 3) := by decide +kernel
theorem d_X12_bound_12 : decode J_X12_bound.2.1 12 = .ok (.ifCond .ne 5, 3) := by decide +kernel
theorem d_X12_bound_15 : decode J_X12_bound.2.1 15 = .ok (.iconst (-1), 1) := by decide +kernel
theorem d_X12_bound_16 : decode J_X12_bound.2.1 16 = .ok (.ireturn, 1) := by decide +kernel
theorem d_X12_bound_17 : decode J_X12_bound.2.1 17 = .ok (.aload_n 0, 1) := by decide +kernel
theorem d_X12_bound_18 : decode J_X12_bound.2.1 18 = .ok (.iload_n 1, 1) := by decide +kernel
theorem d_X12_bound_19 : decode J_X12_bound.2.1 19 = .ok (.invokevirtual 275, 3) := by decide +kernel
theorem d_X12_bound_22 : decode J_X12_bound.2.1 22 = .ok (.aload_n 0, 1) := by decide +kernel
theorem d_X12_bound_23 : decode J_X12_bound.2.1 23 = .ok (.iload_n 2, 1) := by decide +kernel
theorem d_X12_bound_24 : decode J_X12_bound.2.1 24 = .ok (.iconst 1, 1) := by decide +kernel
theorem d_X12_bound_25 : decode J_X12_bound.2.1 25 = .ok (.iconst (-1), 1) := by decide +kernel
theorem d_X12_bound_26 : decode J_X12_bound.2.1 26 = .ok (.invokevirtual 271, 3) := by decide +kernel
theorem d_X12_bound_29 : decode J_X12_bound.2.1 29 = .ok (.istore_n 3, 1) := by decide +kernel
theorem d_X12_bound_30 : decode J_X12_bound.2.1 30 = .ok (.iload_n 3, 1) := by decide +kernel
theorem d_X12_bound_31 : decode J_X12_bound.2.1 31 = .ok (.ifCond .ge 8, 3) := by decide +kernel
theorem d_X12_bound_34 : decode J_X12_bound.2.1 34 = .ok (.bipush (-2), 2) := by decide +kernel
theorem d_X12_bound_36 : decode J_X12_bound.2.1 36 = .ok (.goto 4, 3) := by decide +kernel
theorem d_X12_bound_39 : decode J_X12_bound.2.1 39 = .ok (.iload_n 3, 1) := by decide +kernel
theorem d_X12_bound_40 : decode J_X12_bound.2.1 40 = .ok (.ireturn, 1) := by decide +kernel
def f_X12_bound (N : Nat) (K : oK) (p1 : Int32) (p2 : Int32) (M : oM) : Option (Int32 × oM) :=
  oB2 (f_X12_isLaying N K p1 M) (fun v1 M2 => cond v1 (oB2 (f_X12_isNeed N K p2 M2) (fun v4 M5 => cond v4 (oB2 (f_X12_think N K p1 M5) (fun v7 M8 => oB2 (f_X12_greatest N K p2 (1 : Int32) ((-1) : Int32) M8) (fun v10 M11 => (if 0 ≤ v10 then some (v10, M11) else some ((-2), M11))))) (some ((-1), M5)))) (some ((-1), M2)))
set_option maxRecDepth 20000 in
theorem v_X12_bound {X : oX} {N : Nat} {K : oK} {p1 : Int32} {p2 : Int32} {M : oM} {v : Int32} {M' : oM} (hK : oSR K)  (h : f_X12_bound N K p1 p2 M = some (v, M')) : oMet X 5 J_X12_bound [(.ref 59), (.int p1), (.int p2)] K M (some (.int v)) K M' := by
  unfold f_X12_bound at h
  refine oMet_of (L := [some (.ref 59), some (.int p1), some (.int p2), none]) jJ_X12_bound.1 rfl (Nat.le_of_ble_eq_true rfl) rfl (Nat.le_refl _) (Nat.le_refl _) ?_
  have hd : 5 ≤ 5 := Nat.le_refl _
  refine oe_aload_n (pc := 0) d_X12_bound_0 rfl ?_
  refine oe_iload_n (pc := 1) d_X12_bound_1 rfl ?_
  obtain ⟨v1, M2, q3, h⟩ := oB2_some h
  cases v1 with
  | true =>
    replace h := oCt h
    refine oe_callV (pc := 2) (ci := 12) d_X12_bound_2 (v_X12_isLaying hK  q3) (by omega) ml_X12_230 jJ_X12_isLaying rfl rfl (oLt hK (a := 59) (Nat.le_of_ble_eq_true rfl)) (oSho hK (a := 59) (Nat.le_of_ble_eq_true rfl) rfl) ock12 rfl (Nat.le_of_ble_eq_true rfl) ⟨Nat.le_refl _, Nat.le_refl _⟩ ⟨Nat.le_refl _, Nat.le_refl _⟩ ?_
    refine oe_if_eq (pc := 5) (tgt := 15) d_X12_bound_5 (by decide) (fun c => absurd c (by decide)) (fun _ => ?_)
    refine oe_iload_n (pc := 8) d_X12_bound_8 rfl ?_
    obtain ⟨v4, M5, q6, h⟩ := oB2_some h
    cases v4 with
    | true =>
      replace h := oCt h
      refine oe_callS (pc := 9) d_X12_bound_9 (v_X12_isNeed hK  q6) (by omega) ml_X12_283 jJ_X12_isNeed rfl rfl (Nat.le_of_ble_eq_true rfl) ⟨Nat.le_refl _, Nat.le_refl _⟩ ⟨Nat.le_refl _, Nat.le_refl _⟩ ?_
      refine oe_if_ne (pc := 12) (tgt := 17) d_X12_bound_12 (by decide) (fun _ => ?_) (fun c => absurd c (by decide))
      refine oe_aload_n (pc := 17) d_X12_bound_17 rfl ?_
      refine oe_iload_n (pc := 18) d_X12_bound_18 rfl ?_
      obtain ⟨v7, M8, q9, h⟩ := oB2_some h
      refine oe_callV (pc := 19) (ci := 12) d_X12_bound_19 (v_X12_think hK  q9) (by omega) ml_X12_275 jJ_X12_think rfl rfl (oLt hK (a := 59) (Nat.le_of_ble_eq_true rfl)) (oSho hK (a := 59) (Nat.le_of_ble_eq_true rfl) rfl) ock12 rfl (Nat.le_of_ble_eq_true rfl) ⟨Nat.le_refl _, Nat.le_refl _⟩ ⟨Nat.le_refl _, Nat.le_refl _⟩ ?_
      refine oe_aload_n (pc := 22) d_X12_bound_22 rfl ?_
      refine oe_iload_n (pc := 23) d_X12_bound_23 rfl ?_
      refine oe_iconst (pc := 24) (v := 1) d_X12_bound_24 rfl ?_
      refine oe_iconst (pc := 25) (v := (-1)) d_X12_bound_25 rfl ?_
      obtain ⟨v10, M11, q12, h⟩ := oB2_some h
      refine oe_callV (pc := 26) (ci := 12) d_X12_bound_26 (v_X12_greatest hK  q12) (by omega) ml_X12_271 jJ_X12_greatest rfl rfl (oLt hK (a := 59) (Nat.le_of_ble_eq_true rfl)) (oSho hK (a := 59) (Nat.le_of_ble_eq_true rfl) rfl) ock12 rfl (Nat.le_of_ble_eq_true rfl) ⟨Nat.le_refl _, Nat.le_refl _⟩ ⟨Nat.le_refl _, Nat.le_refl _⟩ ?_
      refine oe_istore_n (pc := 29) (L2 := [_, _, _, _]) d_X12_bound_29 rfl rfl (Nat.le_of_ble_eq_true rfl) rfl ?_
      refine oe_iload_n (pc := 30) d_X12_bound_30 rfl ?_
      refine oe_if_ge (pc := 31) (tgt := 39) d_X12_bound_31 (by decide) (fun c13 => ?_) (fun c13 => ?_)
      · replace h := (if_pos c13).symm.trans h
        refine oe_iload_n (pc := 39) d_X12_bound_39 rfl ?_
        obtain ⟨rfl, rfl⟩ := oRes h
        exact oe_iret (pc := 40) d_X12_bound_40 ⟨_, rfl, rfl⟩
      · replace h := (if_neg c13).symm.trans h
        refine oe_bipush (pc := 34) (v := (-2)) d_X12_bound_34 rfl ?_
        refine oe_goto (pc := 36) (tgt := 40) d_X12_bound_36 (by decide) ?_
        obtain ⟨rfl, rfl⟩ := oRes h
        exact oe_iret (pc := 40) d_X12_bound_40 ⟨_, rfl, rfl⟩
    | false =>
      replace h := oCf h
      refine oe_callS (pc := 9) d_X12_bound_9 (v_X12_isNeed hK  q6) (by omega) ml_X12_283 jJ_X12_isNeed rfl rfl (Nat.le_of_ble_eq_true rfl) ⟨Nat.le_refl _, Nat.le_refl _⟩ ⟨Nat.le_refl _, Nat.le_refl _⟩ ?_
      refine oe_if_ne (pc := 12) (tgt := 17) d_X12_bound_12 (by decide) (fun c => absurd (by decide) c) (fun _ => ?_)
      refine oe_iconst (pc := 15) (v := (-1)) d_X12_bound_15 rfl ?_
      obtain ⟨rfl, rfl⟩ := oRes h
      exact oe_iret (pc := 16) d_X12_bound_16 ⟨_, rfl, rfl⟩
  | false =>
    replace h := oCf h
    refine oe_callV (pc := 2) (ci := 12) d_X12_bound_2 (v_X12_isLaying hK  q3) (by omega) ml_X12_230 jJ_X12_isLaying rfl rfl (oLt hK (a := 59) (Nat.le_of_ble_eq_true rfl)) (oSho hK (a := 59) (Nat.le_of_ble_eq_true rfl) rfl) ock12 rfl (Nat.le_of_ble_eq_true rfl) ⟨Nat.le_refl _, Nat.le_refl _⟩ ⟨Nat.le_refl _, Nat.le_refl _⟩ ?_
    refine oe_if_eq (pc := 5) (tgt := 15) d_X12_bound_5 (by decide) (fun _ => ?_) (fun c => absurd (by decide) c)
    refine oe_iconst (pc := 15) (v := (-1)) d_X12_bound_15 rfl ?_
    obtain ⟨rfl, rfl⟩ := oRes h
    exact oe_iret (pc := 16) d_X12_bound_16 ⟨_, rfl, rfl⟩
theorem d_X12_sums_0 : decode J_X12_sums.2.1 0 = .ok (.aload_n 0, 1) := by decide +kernel
theorem d_X12_sums_1 : decode J_X12_sums.2.1 1 = .ok (.iconst 0, 1) := by decide +kernel
theorem d_X12_sums_2 : decode J_X12_sums.2.1 2 = .ok (.putfield 289, 3) := by decide +kernel
theorem d_X12_sums_5 : decode J_X12_sums.2.1 5 = .ok (.aload_n 0, 1) := by decide +kernel
theorem d_X12_sums_6 : decode J_X12_sums.2.1 6 = .ok (.iconst 0, 1) := by decide +kernel
theorem d_X12_sums_7 : decode J_X12_sums.2.1 7 = .ok (.putfield 292, 3) := by decide +kernel
theorem d_X12_sums_10 : decode J_X12_sums.2.1 10 = .ok (.iconst 0, 1) := by decide +kernel
theorem d_X12_sums_11 : decode J_X12_sums.2.1 11 = .ok (.istore_n 2, 1) := by decide +kernel
theorem d_X12_sums_12 : decode J_X12_sums.2.1 12 = .ok (.iload_n 2, 1) := by decide +kernel
theorem d_X12_sums_13 : decode J_X12_sums.2.1 13 = .ok (.bipush 7, 2) := by decide +kernel
theorem d_X12_sums_15 : decode J_X12_sums.2.1 15 = .ok (.if_icmp .ge 16, 3) := by decide +kernel
theorem d_X12_sums_18 : decode J_X12_sums.2.1 18 = .ok (.aload_n 0, 1) := by decide +kernel
theorem d_X12_sums_19 : decode J_X12_sums.2.1 19 = .ok (.getfield 95, 3) := by decide +kernel
theorem d_X12_sums_22 : decode J_X12_sums.2.1 22 = .ok (.iload_n 2, 1) := by decide +kernel
theorem d_X12_sums_23 : decode J_X12_sums.2.1 23 = .ok (.iconst 0, 1) := by decide +kernel
theorem d_X12_sums_24 : decode J_X12_sums.2.1 24 = .ok (.iastore, 1) := by decide +kernel
theorem d_X12_sums_25 : decode J_X12_sums.2.1 25 = .ok (.iinc 2 1, 3) := by decide +kernel
theorem d_X12_sums_28 : decode J_X12_sums.2.1 28 = .ok (.goto (-16), 3) := by decide +kernel
theorem d_X12_sums_31 : decode J_X12_sums.2.1 31 = .ok (.bipush 24, 2) := by decide +kernel
theorem d_X12_sums_33 : decode J_X12_sums.2.1 33 = .ok (.iload_n 1, 1) := by decide +kernel
theorem d_X12_sums_34 : decode J_X12_sums.2.1 34 = .ok (.imul, 1) := by decide +kernel
theorem d_X12_sums_35 : decode J_X12_sums.2.1 35 = .ok (.istore_n 2, 1) := by decide +kernel
theorem d_X12_sums_36 : decode J_X12_sums.2.1 36 = .ok (.iload_n 2, 1) := by decide +kernel
theorem d_X12_sums_37 : decode J_X12_sums.2.1 37 = .ok (.bipush 24, 2) := by decide +kernel
theorem d_X12_sums_39 : decode J_X12_sums.2.1 39 = .ok (.iload_n 1, 1) := by decide +kernel
theorem d_X12_sums_40 : decode J_X12_sums.2.1 40 = .ok (.imul, 1) := by decide +kernel
theorem d_X12_sums_41 : decode J_X12_sums.2.1 41 = .ok (.aload_n 0, 1) := by decide +kernel
theorem d_X12_sums_42 : decode J_X12_sums.2.1 42 = .ok (.getfield 58, 3) := by decide +kernel
theorem d_X12_sums_45 : decode J_X12_sums.2.1 45 = .ok (.iload_n 1, 1) := by decide +kernel
theorem d_X12_sums_46 : decode J_X12_sums.2.1 46 = .ok (.iaload, 1) := by decide +kernel
theorem d_X12_sums_47 : decode J_X12_sums.2.1 47 = .ok (.iadd, 1) := by decide +kernel
theorem d_X12_sums_48 : decode J_X12_sums.2.1 48 = .ok (.if_icmp .ge 135, 3) := by decide +kernel
theorem d_X12_sums_51 : decode J_X12_sums.2.1 51 = .ok (.aload_n 0, 1) := by decide +kernel
theorem d_X12_sums_52 : decode J_X12_sums.2.1 52 = .ok (.getfield 61, 3) := by decide +kernel
theorem d_X12_sums_55 : decode J_X12_sums.2.1 55 = .ok (.iload_n 2, 1) := by decide +kernel
theorem d_X12_sums_56 : decode J_X12_sums.2.1 56 = .ok (.iaload, 1) := by decide +kernel
theorem d_X12_sums_57 : decode J_X12_sums.2.1 57 = .ok (.iconst 1, 1) := by decide +kernel
theorem d_X12_sums_58 : decode J_X12_sums.2.1 58 = .ok (.if_icmp .ne 12, 3) := by decide +kernel
theorem d_X12_sums_61 : decode J_X12_sums.2.1 61 = .ok (.aload_n 0, 1) := by decide +kernel
theorem d_X12_sums_62 : decode J_X12_sums.2.1 62 = .ok (.getfield 289, 3) := by decide +kernel
theorem d_X12_sums_65 : decode J_X12_sums.2.1 65 = .ok (.bipush 6, 2) := by decide +kernel
theorem d_X12_sums_67 : decode J_X12_sums.2.1 67 = .ok (.if_icmp .eq 20, 3) := by decide +kernel
theorem d_X12_sums_70 : decode J_X12_sums.2.1 70 = .ok (.aload_n 0, 1) := by decide +kernel
theorem d_X12_sums_71 : decode J_X12_sums.2.1 71 = .ok (.getfield 61, 3) := by decide +kernel
theorem d_X12_sums_74 : decode J_X12_sums.2.1 74 = .ok (.iload_n 2, 1) := by decide +kernel
theorem d_X12_sums_75 : decode J_X12_sums.2.1 75 = .ok (.iaload, 1) := by decide +kernel
theorem d_X12_sums_76 : decode J_X12_sums.2.1 76 = .ok (.ifCond .ne 13, 3) := by decide +kernel
theorem d_X12_sums_79 : decode J_X12_sums.2.1 79 = .ok (.aload_n 0, 1) := by decide +kernel
theorem d_X12_sums_80 : decode J_X12_sums.2.1 80 = .ok (.getfield 292, 3) := by decide +kernel
theorem d_X12_sums_83 : decode J_X12_sums.2.1 83 = .ok (.iconst 4, 1) := by decide +kernel
theorem d_X12_sums_84 : decode J_X12_sums.2.1 84 = .ok (.if_icmp .ne 5, 3) := by decide +kernel
theorem d_X12_sums_87 : decode J_X12_sums.2.1 87 = .ok (.iconst 0, 1) := by decide +kernel
theorem d_X12_sums_88 : decode J_X12_sums.2.1 88 = .ok (.ireturn, 1) := by decide +kernel
theorem d_X12_sums_89 : decode J_X12_sums.2.1 89 = .ok (.aload_n 0, 1) := by decide +kernel
theorem d_X12_sums_90 : decode J_X12_sums.2.1 90 = .ok (.getfield 61, 3) := by decide +kernel
theorem d_X12_sums_93 : decode J_X12_sums.2.1 93 = .ok (.iload_n 2, 1) := by decide +kernel
theorem d_X12_sums_94 : decode J_X12_sums.2.1 94 = .ok (.iaload, 1) := by decide +kernel
theorem d_X12_sums_95 : decode J_X12_sums.2.1 95 = .ok (.iconst 1, 1) := by decide +kernel
theorem d_X12_sums_96 : decode J_X12_sums.2.1 96 = .ok (.if_icmp .ne 31, 3) := by decide +kernel
theorem d_X12_sums_99 : decode J_X12_sums.2.1 99 = .ok (.aload_n 0, 1) := by decide +kernel
theorem d_X12_sums_100 : decode J_X12_sums.2.1 100 = .ok (.getfield 92, 3) := by decide +kernel
theorem d_X12_sums_103 : decode J_X12_sums.2.1 103 = .ok (.aload_n 0, 1) := by decide +kernel
theorem d_X12_sums_104 : decode J_X12_sums.2.1 104 = .ok (.getfield 289, 3) := by decide +kernel
theorem d_X12_sums_107 : decode J_X12_sums.2.1 107 = .ok (.aload_n 0, 1) := by decide +kernel
theorem d_X12_sums_108 : decode J_X12_sums.2.1 108 = .ok (.getfield 64, 3) := by decide +kernel
theorem d_X12_sums_111 : decode J_X12_sums.2.1 111 = .ok (.iload_n 2, 1) := by decide +kernel
theorem d_X12_sums_112 : decode J_X12_sums.2.1 112 = .ok (.iaload, 1) := by decide +kernel
theorem d_X12_sums_113 : decode J_X12_sums.2.1 113 = .ok (.iastore, 1) := by decide +kernel
theorem d_X12_sums_114 : decode J_X12_sums.2.1 114 = .ok (.aload_n 0, 1) := by decide +kernel
theorem d_X12_sums_115 : decode J_X12_sums.2.1 115 = .ok (.dup, 1) := by decide +kernel
theorem d_X12_sums_116 : decode J_X12_sums.2.1 116 = .ok (.getfield 289, 3) := by decide +kernel
theorem d_X12_sums_119 : decode J_X12_sums.2.1 119 = .ok (.iconst 1, 1) := by decide +kernel
theorem d_X12_sums_120 : decode J_X12_sums.2.1 120 = .ok (.iadd, 1) := by decide +kernel
theorem d_X12_sums_121 : decode J_X12_sums.2.1 121 = .ok (.putfield 289, 3) := by decide +kernel
theorem d_X12_sums_124 : decode J_X12_sums.2.1 124 = .ok (.goto 53, 3) := by decide +kernel
theorem d_X12_sums_127 : decode J_X12_sums.2.1 127 = .ok (.aload_n 0, 1) := by decide +kernel
theorem d_X12_sums_128 : decode J_X12_sums.2.1 128 = .ok (.getfield 61, 3) := by decide +kernel
theorem d_X12_sums_131 : decode J_X12_sums.2.1 131 = .ok (.iload_n 2, 1) := by decide +kernel
theorem d_X12_sums_132 : decode J_X12_sums.2.1 132 = .ok (.iaload, 1) := by decide +kernel
theorem d_X12_sums_133 : decode J_X12_sums.2.1 133 = .ok (.ifCond .ne 31, 3) := by decide +kernel
theorem d_X12_sums_136 : decode J_X12_sums.2.1 136 = .ok (.aload_n 0, 1) := by decide +kernel
theorem d_X12_sums_137 : decode J_X12_sums.2.1 137 = .ok (.getfield 98, 3) := by decide +kernel
theorem d_X12_sums_140 : decode J_X12_sums.2.1 140 = .ok (.aload_n 0, 1) := by decide +kernel
theorem d_X12_sums_141 : decode J_X12_sums.2.1 141 = .ok (.getfield 292, 3) := by decide +kernel
theorem d_X12_sums_144 : decode J_X12_sums.2.1 144 = .ok (.aload_n 0, 1) := by decide +kernel
theorem d_X12_sums_145 : decode J_X12_sums.2.1 145 = .ok (.getfield 64, 3) := by decide +kernel
theorem d_X12_sums_148 : decode J_X12_sums.2.1 148 = .ok (.iload_n 2, 1) := by decide +kernel
theorem d_X12_sums_149 : decode J_X12_sums.2.1 149 = .ok (.iaload, 1) := by decide +kernel
theorem d_X12_sums_150 : decode J_X12_sums.2.1 150 = .ok (.iastore, 1) := by decide +kernel
theorem d_X12_sums_151 : decode J_X12_sums.2.1 151 = .ok (.aload_n 0, 1) := by decide +kernel
theorem d_X12_sums_152 : decode J_X12_sums.2.1 152 = .ok (.dup, 1) := by decide +kernel
theorem d_X12_sums_153 : decode J_X12_sums.2.1 153 = .ok (.getfield 292, 3) := by decide +kernel
theorem d_X12_sums_156 : decode J_X12_sums.2.1 156 = .ok (.iconst 1, 1) := by decide +kernel
theorem d_X12_sums_157 : decode J_X12_sums.2.1 157 = .ok (.iadd, 1) := by decide +kernel
theorem d_X12_sums_158 : decode J_X12_sums.2.1 158 = .ok (.putfield 292, 3) := by decide +kernel
theorem d_X12_sums_161 : decode J_X12_sums.2.1 161 = .ok (.goto 16, 3) := by decide +kernel
theorem d_X12_sums_164 : decode J_X12_sums.2.1 164 = .ok (.aload_n 0, 1) := by decide +kernel
theorem d_X12_sums_165 : decode J_X12_sums.2.1 165 = .ok (.getfield 95, 3) := by decide +kernel
theorem d_X12_sums_168 : decode J_X12_sums.2.1 168 = .ok (.aload_n 0, 1) := by decide +kernel
theorem d_X12_sums_169 : decode J_X12_sums.2.1 169 = .ok (.getfield 289, 3) := by decide +kernel
theorem d_X12_sums_172 : decode J_X12_sums.2.1 172 = .ok (.dup2, 1) := by decide +kernel
theorem d_X12_sums_173 : decode J_X12_sums.2.1 173 = .ok (.iaload, 1) := by decide +kernel
theorem d_X12_sums_174 : decode J_X12_sums.2.1 174 = .ok (.iconst 1, 1) := by decide +kernel
theorem d_X12_sums_175 : decode J_X12_sums.2.1 175 = .ok (.iadd, 1) := by decide +kernel
theorem d_X12_sums_176 : decode J_X12_sums.2.1 176 = .ok (.iastore, 1) := by decide +kernel
theorem d_X12_sums_177 : decode J_X12_sums.2.1 177 = .ok (.iinc 2 1, 3) := by decide +kernel
theorem d_X12_sums_180 : decode J_X12_sums.2.1 180 = .ok (.goto (-144), 3) := by decide +kernel
theorem d_X12_sums_183 : decode J_X12_sums.2.1 183 = .ok (.iconst 1, 1) := by decide +kernel
theorem d_X12_sums_184 : decode J_X12_sums.2.1 184 = .ok (.ireturn, 1) := by decide +kernel
def f_X12_sums_177 (N : Nat) (K : oK) (r36 : (Int32 → Int32 → oM → Option (Bool × oM))) (p1 : Int32) (p2 : Int32) (M : oM) : Option (Bool × oM) :=
  (r36 p1 (p2 + 1) M)
set_option maxRecDepth 20000 in
theorem v_X12_sums_177 {X : oX} {d N : Nat} {K : oK} {r36 : (Int32 → Int32 → oM → Option (Bool × oM))} {p1 : Int32} {p2 : Int32} {M : oM} {v : Bool} {M' : oM}  (hd : 1 ≤ d) (hK : oSR K)  (hr36 : ∀ (p1 : Int32) (p2 : Int32) (M : oM) (v : Bool) (M' : oM) , r36 p1 p2 M = some (v, M') → oEv X d J_X12_sums 36 [some (.ref 59), some (.int p1), some (.int p2)] [] K M (some (.int (oBi v))) K M') (h : f_X12_sums_177 N K r36 p1 p2 M = some (v, M')) : oEv X d J_X12_sums 177 [some (.ref 59), some (.int p1), some (.int p2)] [] K M (some (.int (oBi v))) K M' := by
  unfold f_X12_sums_177 at h
  refine oe_iinc (pc := 177) (v := (p2 + 1)) (L2 := [_, _, _]) d_X12_sums_177 rfl rfl rfl (Nat.le_of_ble_eq_true rfl) rfl ?_
  refine oe_goto (pc := 180) (tgt := 36) d_X12_sums_180 (by decide) ?_
  exact hr36 _ _ _ _ _ h
def f_X12_sums_89 (N : Nat) (K : oK) (r36 : (Int32 → Int32 → oM → Option (Bool × oM))) (p1 : Int32) (p2 : Int32) (M : oM) : Option (Bool × oM) :=
  oIx (p2) 480 ((if (M.1 77 (p2 : Int32).toNatClampNeg) = 1 then oIx (p2) 480 (oIx ((M.1 59 44)) 6 ((f_X12_sums_177 N K r36 p1 p2 (oUp (oUp M 87 ((M.1 59 44) : Int32).toNatClampNeg (M.1 78 (p2 : Int32).toNatClampNeg)) 59 44 (((oUp M 87 ((M.1 59 44) : Int32).toNatClampNeg (M.1 78 (p2 : Int32).toNatClampNeg)).1 59 44) + 1))))) else oIx (p2) 480 ((if (M.1 77 (p2 : Int32).toNatClampNeg) = 0 then oIx (p2) 480 (oIx ((M.1 59 45)) 4 ((f_X12_sums_177 N K r36 p1 p2 (oUp (oUp M 89 ((M.1 59 45) : Int32).toNatClampNeg (M.1 78 (p2 : Int32).toNatClampNeg)) 59 45 (((oUp M 89 ((M.1 59 45) : Int32).toNatClampNeg (M.1 78 (p2 : Int32).toNatClampNeg)).1 59 45) + 1))))) else oIx ((M.1 59 44)) 7 (oIx ((M.1 59 44)) 7 ((f_X12_sums_177 N K r36 p1 p2 (oUp M 88 ((M.1 59 44) : Int32).toNatClampNeg ((M.1 88 ((M.1 59 44) : Int32).toNatClampNeg) + 1)))))))))
set_option maxRecDepth 20000 in
theorem v_X12_sums_89 {X : oX} {d N : Nat} {K : oK} {r36 : (Int32 → Int32 → oM → Option (Bool × oM))} {p1 : Int32} {p2 : Int32} {M : oM} {v : Bool} {M' : oM}  (hd : 1 ≤ d) (hK : oSR K)  (hr36 : ∀ (p1 : Int32) (p2 : Int32) (M : oM) (v : Bool) (M' : oM) , r36 p1 p2 M = some (v, M') → oEv X d J_X12_sums 36 [some (.ref 59), some (.int p1), some (.int p2)] [] K M (some (.int (oBi v))) K M') (h : f_X12_sums_89 N K r36 p1 p2 M = some (v, M')) : oEv X d J_X12_sums 89 [some (.ref 59), some (.int p1), some (.int p2)] [] K M (some (.int (oBi v))) K M' := by
  unfold f_X12_sums_89 at h
  refine oe_aload_n (pc := 89) d_X12_sums_89 rfl ?_
  refine oe_getr (pc := 90) d_X12_sums_90 fl_X12_61 ock12 (k := 25) (b := 77) (Nat.le_of_ble_eq_true rfl) (by decide) (oLt hK (a := 59) (Nat.le_of_ble_eq_true rfl)) (oSho hK (a := 59) (Nat.le_of_ble_eq_true rfl) rfl) (oRfK hK rfl) ?_
  refine oe_iload_n (pc := 93) d_X12_sums_93 rfl ?_
  obtain ⟨i8, h⟩ := oIx_some h
  refine oe_iald (pc := 94) d_X12_sums_94 (oLt hK (a := 77) (Nat.le_of_ble_eq_true rfl)) (oSha hK (a := 77) (Nat.le_of_ble_eq_true rfl) rfl) i8 ?_
  refine oe_iconst (pc := 95) (v := 1) d_X12_sums_95 rfl ?_
  refine oe_icmp_ne (pc := 96) (tgt := 127) d_X12_sums_96 (by decide) (fun c9 => ?_) (fun c9 => ?_)
  · replace h := (if_neg c9).symm.trans h
    refine oe_aload_n (pc := 127) d_X12_sums_127 rfl ?_
    refine oe_getr (pc := 128) d_X12_sums_128 fl_X12_61 ock12 (k := 25) (b := 77) (Nat.le_of_ble_eq_true rfl) (by decide) (oLt hK (a := 59) (Nat.le_of_ble_eq_true rfl)) (oSho hK (a := 59) (Nat.le_of_ble_eq_true rfl) rfl) (oRfK hK rfl) ?_
    refine oe_iload_n (pc := 131) d_X12_sums_131 rfl ?_
    obtain ⟨i10, h⟩ := oIx_some h
    refine oe_iald (pc := 132) d_X12_sums_132 (oLt hK (a := 77) (Nat.le_of_ble_eq_true rfl)) (oSha hK (a := 77) (Nat.le_of_ble_eq_true rfl) rfl) i10 ?_
    refine oe_if_ne (pc := 133) (tgt := 164) d_X12_sums_133 (by decide) (fun c11 => ?_) (fun c11 => ?_)
    · replace h := (if_neg c11).symm.trans h
      refine oe_aload_n (pc := 164) d_X12_sums_164 rfl ?_
      refine oe_getr (pc := 165) d_X12_sums_165 fl_X12_95 ock12 (k := 41) (b := 88) (Nat.le_of_ble_eq_true rfl) (by decide) (oLt hK (a := 59) (Nat.le_of_ble_eq_true rfl)) (oSho hK (a := 59) (Nat.le_of_ble_eq_true rfl) rfl) (oRfK hK rfl) ?_
      refine oe_aload_n (pc := 168) d_X12_sums_168 rfl ?_
      refine oe_getf (pc := 169) d_X12_sums_169 fl_X12_289 ock12 (k := 44) (Nat.le_of_ble_eq_true rfl) rfl (oLt hK (a := 59) (Nat.le_of_ble_eq_true rfl)) (oSho hK (a := 59) (Nat.le_of_ble_eq_true rfl) rfl) ?_
      refine oe_dup2 (pc := 172) d_X12_sums_172 rfl rfl ?_
      obtain ⟨i12, h⟩ := oIx_some h
      refine oe_iald (pc := 173) d_X12_sums_173 (oLt hK (a := 88) (Nat.le_of_ble_eq_true rfl)) (oSha hK (a := 88) (Nat.le_of_ble_eq_true rfl) rfl) i12 ?_
      refine oe_iconst (pc := 174) (v := 1) d_X12_sums_174 rfl ?_
      refine oe_iadd (pc := 175) d_X12_sums_175 ?_
      obtain ⟨i13, h⟩ := oIx_some h
      refine oe_iast (pc := 176) d_X12_sums_176 (oLt hK (a := 88) (Nat.le_of_ble_eq_true rfl)) (oSha hK (a := 88) (Nat.le_of_ble_eq_true rfl) rfl) i13 ?_
      exact v_X12_sums_177 hd hK  hr36 h
    · replace h := (if_pos c11).symm.trans h
      refine oe_aload_n (pc := 136) d_X12_sums_136 rfl ?_
      refine oe_getr (pc := 137) d_X12_sums_137 fl_X12_98 ock12 (k := 42) (b := 89) (Nat.le_of_ble_eq_true rfl) (by decide) (oLt hK (a := 59) (Nat.le_of_ble_eq_true rfl)) (oSho hK (a := 59) (Nat.le_of_ble_eq_true rfl) rfl) (oRfK hK rfl) ?_
      refine oe_aload_n (pc := 140) d_X12_sums_140 rfl ?_
      refine oe_getf (pc := 141) d_X12_sums_141 fl_X12_292 ock12 (k := 45) (Nat.le_of_ble_eq_true rfl) rfl (oLt hK (a := 59) (Nat.le_of_ble_eq_true rfl)) (oSho hK (a := 59) (Nat.le_of_ble_eq_true rfl) rfl) ?_
      refine oe_aload_n (pc := 144) d_X12_sums_144 rfl ?_
      refine oe_getr (pc := 145) d_X12_sums_145 fl_X12_64 ock12 (k := 26) (b := 78) (Nat.le_of_ble_eq_true rfl) (by decide) (oLt hK (a := 59) (Nat.le_of_ble_eq_true rfl)) (oSho hK (a := 59) (Nat.le_of_ble_eq_true rfl) rfl) (oRfK hK rfl) ?_
      refine oe_iload_n (pc := 148) d_X12_sums_148 rfl ?_
      obtain ⟨i14, h⟩ := oIx_some h
      refine oe_iald (pc := 149) d_X12_sums_149 (oLt hK (a := 78) (Nat.le_of_ble_eq_true rfl)) (oSha hK (a := 78) (Nat.le_of_ble_eq_true rfl) rfl) i14 ?_
      obtain ⟨i15, h⟩ := oIx_some h
      refine oe_iast (pc := 150) d_X12_sums_150 (oLt hK (a := 89) (Nat.le_of_ble_eq_true rfl)) (oSha hK (a := 89) (Nat.le_of_ble_eq_true rfl) rfl) i15 ?_
      refine oe_aload_n (pc := 151) d_X12_sums_151 rfl ?_
      refine oe_dup (pc := 152) d_X12_sums_152 rfl ?_
      refine oe_getf (pc := 153) d_X12_sums_153 fl_X12_292 ock12 (k := 45) (Nat.le_of_ble_eq_true rfl) rfl (oLt hK (a := 59) (Nat.le_of_ble_eq_true rfl)) (oSho hK (a := 59) (Nat.le_of_ble_eq_true rfl) rfl) ?_
      refine oe_iconst (pc := 156) (v := 1) d_X12_sums_156 rfl ?_
      refine oe_iadd (pc := 157) d_X12_sums_157 ?_
      refine oe_putf (pc := 158) d_X12_sums_158 fl_X12_292 ock12 (k := 45) (Nat.le_of_ble_eq_true rfl) rfl rfl (oLt hK (a := 59) (Nat.le_of_ble_eq_true rfl)) (oSho hK (a := 59) (Nat.le_of_ble_eq_true rfl) rfl) ?_
      refine oe_goto (pc := 161) (tgt := 177) d_X12_sums_161 (by decide) ?_
      exact v_X12_sums_177 hd hK  hr36 h
  · replace h := (if_pos c9).symm.trans h
    refine oe_aload_n (pc := 99) d_X12_sums_99 rfl ?_
    refine oe_getr (pc := 100) d_X12_sums_100 fl_X12_92 ock12 (k := 40) (b := 87) (Nat.le_of_ble_eq_true rfl) (by decide) (oLt hK (a := 59) (Nat.le_of_ble_eq_true rfl)) (oSho hK (a := 59) (Nat.le_of_ble_eq_true rfl) rfl) (oRfK hK rfl) ?_
    refine oe_aload_n (pc := 103) d_X12_sums_103 rfl ?_
    refine oe_getf (pc := 104) d_X12_sums_104 fl_X12_289 ock12 (k := 44) (Nat.le_of_ble_eq_true rfl) rfl (oLt hK (a := 59) (Nat.le_of_ble_eq_true rfl)) (oSho hK (a := 59) (Nat.le_of_ble_eq_true rfl) rfl) ?_
    refine oe_aload_n (pc := 107) d_X12_sums_107 rfl ?_
    refine oe_getr (pc := 108) d_X12_sums_108 fl_X12_64 ock12 (k := 26) (b := 78) (Nat.le_of_ble_eq_true rfl) (by decide) (oLt hK (a := 59) (Nat.le_of_ble_eq_true rfl)) (oSho hK (a := 59) (Nat.le_of_ble_eq_true rfl) rfl) (oRfK hK rfl) ?_
    refine oe_iload_n (pc := 111) d_X12_sums_111 rfl ?_
    obtain ⟨i16, h⟩ := oIx_some h
    refine oe_iald (pc := 112) d_X12_sums_112 (oLt hK (a := 78) (Nat.le_of_ble_eq_true rfl)) (oSha hK (a := 78) (Nat.le_of_ble_eq_true rfl) rfl) i16 ?_
    obtain ⟨i17, h⟩ := oIx_some h
    refine oe_iast (pc := 113) d_X12_sums_113 (oLt hK (a := 87) (Nat.le_of_ble_eq_true rfl)) (oSha hK (a := 87) (Nat.le_of_ble_eq_true rfl) rfl) i17 ?_
    refine oe_aload_n (pc := 114) d_X12_sums_114 rfl ?_
    refine oe_dup (pc := 115) d_X12_sums_115 rfl ?_
    refine oe_getf (pc := 116) d_X12_sums_116 fl_X12_289 ock12 (k := 44) (Nat.le_of_ble_eq_true rfl) rfl (oLt hK (a := 59) (Nat.le_of_ble_eq_true rfl)) (oSho hK (a := 59) (Nat.le_of_ble_eq_true rfl) rfl) ?_
    refine oe_iconst (pc := 119) (v := 1) d_X12_sums_119 rfl ?_
    refine oe_iadd (pc := 120) d_X12_sums_120 ?_
    refine oe_putf (pc := 121) d_X12_sums_121 fl_X12_289 ock12 (k := 44) (Nat.le_of_ble_eq_true rfl) rfl rfl (oLt hK (a := 59) (Nat.le_of_ble_eq_true rfl)) (oSho hK (a := 59) (Nat.le_of_ble_eq_true rfl) rfl) ?_
    refine oe_goto (pc := 124) (tgt := 177) d_X12_sums_124 (by decide) ?_
    exact v_X12_sums_177 hd hK  hr36 h
def f_X12_sums_70 (N : Nat) (K : oK) (r36 : (Int32 → Int32 → oM → Option (Bool × oM))) (p1 : Int32) (p2 : Int32) (M : oM) : Option (Bool × oM) :=
  oIx (p2) 480 ((if (M.1 77 (p2 : Int32).toNatClampNeg) = 0 then (if (M.1 59 45) = 4 then some (false, M) else (f_X12_sums_89 N K r36 p1 p2 M)) else (f_X12_sums_89 N K r36 p1 p2 M)))
set_option maxRecDepth 20000 in
theorem v_X12_sums_70 {X : oX} {d N : Nat} {K : oK} {r36 : (Int32 → Int32 → oM → Option (Bool × oM))} {p1 : Int32} {p2 : Int32} {M : oM} {v : Bool} {M' : oM}  (hd : 1 ≤ d) (hK : oSR K)  (hr36 : ∀ (p1 : Int32) (p2 : Int32) (M : oM) (v : Bool) (M' : oM) , r36 p1 p2 M = some (v, M') → oEv X d J_X12_sums 36 [some (.ref 59), some (.int p1), some (.int p2)] [] K M (some (.int (oBi v))) K M') (h : f_X12_sums_70 N K r36 p1 p2 M = some (v, M')) : oEv X d J_X12_sums 70 [some (.ref 59), some (.int p1), some (.int p2)] [] K M (some (.int (oBi v))) K M' := by
  unfold f_X12_sums_70 at h
  refine oe_aload_n (pc := 70) d_X12_sums_70 rfl ?_
  refine oe_getr (pc := 71) d_X12_sums_71 fl_X12_61 ock12 (k := 25) (b := 77) (Nat.le_of_ble_eq_true rfl) (by decide) (oLt hK (a := 59) (Nat.le_of_ble_eq_true rfl)) (oSho hK (a := 59) (Nat.le_of_ble_eq_true rfl) rfl) (oRfK hK rfl) ?_
  refine oe_iload_n (pc := 74) d_X12_sums_74 rfl ?_
  obtain ⟨i6, h⟩ := oIx_some h
  refine oe_iald (pc := 75) d_X12_sums_75 (oLt hK (a := 77) (Nat.le_of_ble_eq_true rfl)) (oSha hK (a := 77) (Nat.le_of_ble_eq_true rfl) rfl) i6 ?_
  refine oe_if_ne (pc := 76) (tgt := 89) d_X12_sums_76 (by decide) (fun c7 => ?_) (fun c7 => ?_)
  · replace h := (if_neg c7).symm.trans h
    exact v_X12_sums_89 hd hK  hr36 h
  · replace h := (if_pos c7).symm.trans h
    refine oe_aload_n (pc := 79) d_X12_sums_79 rfl ?_
    refine oe_getf (pc := 80) d_X12_sums_80 fl_X12_292 ock12 (k := 45) (Nat.le_of_ble_eq_true rfl) rfl (oLt hK (a := 59) (Nat.le_of_ble_eq_true rfl)) (oSho hK (a := 59) (Nat.le_of_ble_eq_true rfl) rfl) ?_
    refine oe_iconst (pc := 83) (v := 4) d_X12_sums_83 rfl ?_
    refine oe_icmp_ne (pc := 84) (tgt := 89) d_X12_sums_84 (by decide) (fun c18 => ?_) (fun c18 => ?_)
    · replace h := (if_neg c18).symm.trans h
      exact v_X12_sums_89 hd hK  hr36 h
    · replace h := (if_pos c18).symm.trans h
      refine oe_iconst (pc := 87) (v := 0) d_X12_sums_87 rfl ?_
      obtain ⟨rfl, rfl⟩ := oRes h
      exact oe_iret (pc := 88) d_X12_sums_88 ⟨_, rfl, rfl⟩
def f_X12_sums_36 (N : Nat) (K : oK)  : Nat → Int32 → Int32 → oM → Option (Bool × oM)
  | 0, _, _, _ => none
  | n + 1, p1, p2, M => (fun r36 => oIx (p1) 20 ((if (((24 : Int32) * p1) + (M.1 76 (p1 : Int32).toNatClampNeg)) ≤ p2 then some (true, M) else oIx (p2) 480 ((if (M.1 77 (p2 : Int32).toNatClampNeg) = 1 then (if (M.1 59 44) = 6 then some (false, M) else (f_X12_sums_70 N K r36 p1 p2 M)) else (f_X12_sums_70 N K r36 p1 p2 M)))))) (f_X12_sums_36 N K  n)
set_option maxRecDepth 20000 in
theorem v_X12_sums_36_L {X : oX} {d N : Nat} {K : oK}  (hd : 1 ≤ d) (hK : oSR K)  : ∀ (n : Nat) (p1 : Int32) (p2 : Int32) (M : oM) (v : Bool) (M' : oM)  , f_X12_sums_36 N K  n p1 p2 M = some (v, M') → oEv X d J_X12_sums 36 [some (.ref 59), some (.int p1), some (.int p2)] [] K M (some (.int (oBi v))) K M' := by
  intro n
  induction n with
  | zero =>
    intro p1 p2 M v M'   h
    cases h
  | succ n hr36 =>
    intro p1 p2 M v M'   h
    refine oe_iload_n (pc := 36) d_X12_sums_36 rfl ?_
    refine oe_bipush (pc := 37) (v := 24) d_X12_sums_37 rfl ?_
    refine oe_iload_n (pc := 39) d_X12_sums_39 rfl ?_
    refine oe_imul (pc := 40) d_X12_sums_40 ?_
    refine oe_aload_n (pc := 41) d_X12_sums_41 rfl ?_
    refine oe_getr (pc := 42) d_X12_sums_42 fl_X12_58 ock12 (k := 24) (b := 76) (Nat.le_of_ble_eq_true rfl) (by decide) (oLt hK (a := 59) (Nat.le_of_ble_eq_true rfl)) (oSho hK (a := 59) (Nat.le_of_ble_eq_true rfl) rfl) (oRfK hK rfl) ?_
    refine oe_iload_n (pc := 45) d_X12_sums_45 rfl ?_
    obtain ⟨i2, h⟩ := oIx_some h
    refine oe_iald (pc := 46) d_X12_sums_46 (oLt hK (a := 76) (Nat.le_of_ble_eq_true rfl)) (oSha hK (a := 76) (Nat.le_of_ble_eq_true rfl) rfl) i2 ?_
    refine oe_iadd (pc := 47) d_X12_sums_47 ?_
    refine oe_icmp_ge (pc := 48) (tgt := 183) d_X12_sums_48 (by decide) (fun c3 => ?_) (fun c3 => ?_)
    · replace h := (if_pos c3).symm.trans h
      refine oe_iconst (pc := 183) (v := 1) d_X12_sums_183 rfl ?_
      obtain ⟨rfl, rfl⟩ := oRes h
      exact oe_iret (pc := 184) d_X12_sums_184 ⟨_, rfl, rfl⟩
    · replace h := (if_neg c3).symm.trans h
      refine oe_aload_n (pc := 51) d_X12_sums_51 rfl ?_
      refine oe_getr (pc := 52) d_X12_sums_52 fl_X12_61 ock12 (k := 25) (b := 77) (Nat.le_of_ble_eq_true rfl) (by decide) (oLt hK (a := 59) (Nat.le_of_ble_eq_true rfl)) (oSho hK (a := 59) (Nat.le_of_ble_eq_true rfl) rfl) (oRfK hK rfl) ?_
      refine oe_iload_n (pc := 55) d_X12_sums_55 rfl ?_
      obtain ⟨i4, h⟩ := oIx_some h
      refine oe_iald (pc := 56) d_X12_sums_56 (oLt hK (a := 77) (Nat.le_of_ble_eq_true rfl)) (oSha hK (a := 77) (Nat.le_of_ble_eq_true rfl) rfl) i4 ?_
      refine oe_iconst (pc := 57) (v := 1) d_X12_sums_57 rfl ?_
      refine oe_icmp_ne (pc := 58) (tgt := 70) d_X12_sums_58 (by decide) (fun c5 => ?_) (fun c5 => ?_)
      · replace h := (if_neg c5).symm.trans h
        exact v_X12_sums_70 hd hK  hr36 h
      · replace h := (if_pos c5).symm.trans h
        refine oe_aload_n (pc := 61) d_X12_sums_61 rfl ?_
        refine oe_getf (pc := 62) d_X12_sums_62 fl_X12_289 ock12 (k := 44) (Nat.le_of_ble_eq_true rfl) rfl (oLt hK (a := 59) (Nat.le_of_ble_eq_true rfl)) (oSho hK (a := 59) (Nat.le_of_ble_eq_true rfl) rfl) ?_
        refine oe_bipush (pc := 65) (v := 6) d_X12_sums_65 rfl ?_
        refine oe_icmp_eq (pc := 67) (tgt := 87) d_X12_sums_67 (by decide) (fun c19 => ?_) (fun c19 => ?_)
        · replace h := (if_pos c19).symm.trans h
          refine oe_iconst (pc := 87) (v := 0) d_X12_sums_87 rfl ?_
          obtain ⟨rfl, rfl⟩ := oRes h
          exact oe_iret (pc := 88) d_X12_sums_88 ⟨_, rfl, rfl⟩
        · replace h := (if_neg c19).symm.trans h
          exact v_X12_sums_70 hd hK  hr36 h
theorem v_X12_sums_36 {X : oX} {d N : Nat} {K : oK}  {p1 : Int32} {p2 : Int32} {M : oM} {v : Bool} {M' : oM}  (hd : 1 ≤ d) (hK : oSR K)   (h : f_X12_sums_36 N K  N p1 p2 M = some (v, M')) : oEv X d J_X12_sums 36 [some (.ref 59), some (.int p1), some (.int p2)] [] K M (some (.int (oBi v))) K M' := v_X12_sums_36_L hd hK  N p1 p2 M v M'   h
def f_X12_sums_12 (N : Nat) (K : oK)  : Nat → Int32 → Int32 → oM → Option (Bool × oM)
  | 0, _, _, _ => none
  | n + 1, p1, p2, M => (fun r12 => (if 7 ≤ p2 then (f_X12_sums_36 N K  N p1 ((24 : Int32) * p1) M) else oIx (p2) 7 ((r12 p1 (p2 + 1) (oUp M 88 (p2 : Int32).toNatClampNeg (0 : Int32)))))) (f_X12_sums_12 N K  n)
set_option maxRecDepth 20000 in
theorem v_X12_sums_12_L {X : oX} {d N : Nat} {K : oK}  (hd : 1 ≤ d) (hK : oSR K)  : ∀ (n : Nat) (p1 : Int32) (p2 : Int32) (M : oM) (v : Bool) (M' : oM)  , f_X12_sums_12 N K  n p1 p2 M = some (v, M') → oEv X d J_X12_sums 12 [some (.ref 59), some (.int p1), some (.int p2)] [] K M (some (.int (oBi v))) K M' := by
  intro n
  induction n with
  | zero =>
    intro p1 p2 M v M'   h
    cases h
  | succ n hr12 =>
    intro p1 p2 M v M'   h
    refine oe_iload_n (pc := 12) d_X12_sums_12 rfl ?_
    refine oe_bipush (pc := 13) (v := 7) d_X12_sums_13 rfl ?_
    refine oe_icmp_ge (pc := 15) (tgt := 31) d_X12_sums_15 (by decide) (fun c1 => ?_) (fun c1 => ?_)
    · replace h := (if_pos c1).symm.trans h
      refine oe_bipush (pc := 31) (v := 24) d_X12_sums_31 rfl ?_
      refine oe_iload_n (pc := 33) d_X12_sums_33 rfl ?_
      refine oe_imul (pc := 34) d_X12_sums_34 ?_
      refine oe_istore_n (pc := 35) (L2 := [_, _, _]) d_X12_sums_35 rfl rfl (Nat.le_of_ble_eq_true rfl) rfl ?_
      exact v_X12_sums_36 hd hK   h
    · replace h := (if_neg c1).symm.trans h
      refine oe_aload_n (pc := 18) d_X12_sums_18 rfl ?_
      refine oe_getr (pc := 19) d_X12_sums_19 fl_X12_95 ock12 (k := 41) (b := 88) (Nat.le_of_ble_eq_true rfl) (by decide) (oLt hK (a := 59) (Nat.le_of_ble_eq_true rfl)) (oSho hK (a := 59) (Nat.le_of_ble_eq_true rfl) rfl) (oRfK hK rfl) ?_
      refine oe_iload_n (pc := 22) d_X12_sums_22 rfl ?_
      refine oe_iconst (pc := 23) (v := 0) d_X12_sums_23 rfl ?_
      obtain ⟨i20, h⟩ := oIx_some h
      refine oe_iast (pc := 24) d_X12_sums_24 (oLt hK (a := 88) (Nat.le_of_ble_eq_true rfl)) (oSha hK (a := 88) (Nat.le_of_ble_eq_true rfl) rfl) i20 ?_
      refine oe_iinc (pc := 25) (v := (p2 + 1)) (L2 := [_, _, _]) d_X12_sums_25 rfl rfl rfl (Nat.le_of_ble_eq_true rfl) rfl ?_
      refine oe_goto (pc := 28) (tgt := 12) d_X12_sums_28 (by decide) ?_
      exact hr12 _ _ _ _ _ h
theorem v_X12_sums_12 {X : oX} {d N : Nat} {K : oK}  {p1 : Int32} {p2 : Int32} {M : oM} {v : Bool} {M' : oM}  (hd : 1 ≤ d) (hK : oSR K)   (h : f_X12_sums_12 N K  N p1 p2 M = some (v, M')) : oEv X d J_X12_sums 12 [some (.ref 59), some (.int p1), some (.int p2)] [] K M (some (.int (oBi v))) K M' := v_X12_sums_12_L hd hK  N p1 p2 M v M'   h
def f_X12_sums (N : Nat) (K : oK) (p1 : Int32) (M : oM) : Option (Bool × oM) :=
  (f_X12_sums_12 N K  N p1 0 (oUp (oUp M 59 44 (0 : Int32)) 59 45 (0 : Int32)))
set_option maxRecDepth 20000 in
theorem v_X12_sums {X : oX} {N : Nat} {K : oK} {p1 : Int32} {M : oM} {v : Bool} {M' : oM} (hK : oSR K)  (h : f_X12_sums N K p1 M = some (v, M')) : oMet X 1 J_X12_sums [(.ref 59), (.int p1)] K M (some (.int (oBi v))) K M' := by
  unfold f_X12_sums at h
  refine oMet_of (L := [some (.ref 59), some (.int p1), none]) jJ_X12_sums.1 rfl (Nat.le_of_ble_eq_true rfl) rfl (Nat.le_refl _) (Nat.le_refl _) ?_
  have hd : 1 ≤ 1 := Nat.le_refl _
  refine oe_aload_n (pc := 0) d_X12_sums_0 rfl ?_
  refine oe_iconst (pc := 1) (v := 0) d_X12_sums_1 rfl ?_
  refine oe_putf (pc := 2) d_X12_sums_2 fl_X12_289 ock12 (k := 44) (Nat.le_of_ble_eq_true rfl) rfl rfl (oLt hK (a := 59) (Nat.le_of_ble_eq_true rfl)) (oSho hK (a := 59) (Nat.le_of_ble_eq_true rfl) rfl) ?_
  refine oe_aload_n (pc := 5) d_X12_sums_5 rfl ?_
  refine oe_iconst (pc := 6) (v := 0) d_X12_sums_6 rfl ?_
  refine oe_putf (pc := 7) d_X12_sums_7 fl_X12_292 ock12 (k := 45) (Nat.le_of_ble_eq_true rfl) rfl rfl (oLt hK (a := 59) (Nat.le_of_ble_eq_true rfl)) (oSho hK (a := 59) (Nat.le_of_ble_eq_true rfl) rfl) ?_
  refine oe_iconst (pc := 10) (v := 0) d_X12_sums_10 rfl ?_
  refine oe_istore_n (pc := 11) (L2 := [_, _, _]) d_X12_sums_11 rfl rfl (Nat.le_of_ble_eq_true rfl) rfl ?_
  exact v_X12_sums_12 hd hK   h
theorem d_X12_lay_0 : decode J_X12_lay.2.1 0 = .ok (.aload_n 0, 1) := by decide +kernel
theorem d_X12_lay_1 : decode J_X12_lay.2.1 1 = .ok (.aload_n 0, 1) := by decide +kernel
theorem d_X12_lay_2 : decode J_X12_lay.2.1 2 = .ok (.getfield 49, 3) := by decide +kernel
theorem d_X12_lay_5 : decode J_X12_lay.2.1 5 = .ok (.iload_n 1, 1) := by decide +kernel
theorem d_X12_lay_6 : decode J_X12_lay.2.1 6 = .ok (.iaload, 1) := by decide +kernel
theorem d_X12_lay_7 : decode J_X12_lay.2.1 7 = .ok (.putfield 252, 3) := by decide +kernel
theorem d_X12_lay_10 : decode J_X12_lay.2.1 10 = .ok (.aload_n 0, 1) := by decide +kernel
theorem d_X12_lay_11 : decode J_X12_lay.2.1 11 = .ok (.aload_n 0, 1) := by decide +kernel
theorem d_X12_lay_12 : decode J_X12_lay.2.1 12 = .ok (.getfield 52, 3) := by decide +kernel
theorem d_X12_lay_15 : decode J_X12_lay.2.1 15 = .ok (.iload_n 1, 1) := by decide +kernel
theorem d_X12_lay_16 : decode J_X12_lay.2.1 16 = .ok (.iaload, 1) := by decide +kernel
theorem d_X12_lay_17 : decode J_X12_lay.2.1 17 = .ok (.putfield 249, 3) := by decide +kernel
theorem d_X12_lay_20 : decode J_X12_lay.2.1 20 = .ok (.aload_n 0, 1) := by decide +kernel
theorem d_X12_lay_21 : decode J_X12_lay.2.1 21 = .ok (.iconst 0, 1) := by decide +kernel
theorem d_X12_lay_22 : decode J_X12_lay.2.1 22 = .ok (.putfield 246, 3) := by decide +kernel
theorem d_X12_lay_25 : decode J_X12_lay.2.1 25 = .ok (.iconst 0, 1) := by decide +kernel
theorem d_X12_lay_26 : decode J_X12_lay.2.1 26 = .ok (.istore_n 3, 1) := by decide +kernel
theorem d_X12_lay_27 : decode J_X12_lay.2.1 27 = .ok (.iconst 1, 1) := by decide +kernel
theorem d_X12_lay_28 : decode J_X12_lay.2.1 28 = .ok (.istore 4, 2) := by decide +kernel
theorem d_X12_lay_30 : decode J_X12_lay.2.1 30 = .ok (.iconst 1, 1) := by decide +kernel
theorem d_X12_lay_31 : decode J_X12_lay.2.1 31 = .ok (.istore 5, 2) := by decide +kernel
theorem d_X12_lay_33 : decode J_X12_lay.2.1 33 = .ok (.iload 5, 2) := by decide +kernel
theorem d_X12_lay_35 : decode J_X12_lay.2.1 35 = .ok (.aload_n 0, 1) := by decide +kernel
theorem d_X12_lay_36 : decode J_X12_lay.2.1 36 = .ok (.getfield 289, 3) := by decide +kernel
theorem d_X12_lay_39 : decode J_X12_lay.2.1 39 = .ok (.if_icmp .ge 16, 3) := by decide +kernel
theorem d_X12_lay_42 : decode J_X12_lay.2.1 42 = .ok (.iload 4, 2) := by decide +kernel
theorem d_X12_lay_44 : decode J_X12_lay.2.1 44 = .ok (.bipush 10, 2) := by decide +kernel
theorem d_X12_lay_46 : decode J_X12_lay.2.1 46 = .ok (.imul, 1) := by decide +kernel
theorem d_X12_lay_47 : decode J_X12_lay.2.1 47 = .ok (.istore 4, 2) := by decide +kernel
theorem d_X12_lay_49 : decode J_X12_lay.2.1 49 = .ok (.iinc 5 1, 3) := by decide +kernel
theorem d_X12_lay_52 : decode J_X12_lay.2.1 52 = .ok (.goto (-19), 3) := by decide +kernel
theorem d_X12_lay_55 : decode J_X12_lay.2.1 55 = .ok (.iconst 0, 1) := by decide +kernel
theorem d_X12_lay_56 : decode J_X12_lay.2.1 56 = .ok (.istore 5, 2) := by decide +kernel
theorem d_X12_lay_58 : decode J_X12_lay.2.1 58 = .ok (.iload 5, 2) := by decide +kernel
theorem d_X12_lay_60 : decode J_X12_lay.2.1 60 = .ok (.aload_n 0, 1) := by decide +kernel
theorem d_X12_lay_61 : decode J_X12_lay.2.1 61 = .ok (.getfield 289, 3) := by decide +kernel
theorem d_X12_lay_64 : decode J_X12_lay.2.1 64 = .ok (.if_icmp .gt 109, 3) := by decide +kernel
theorem d_X12_lay_67 : decode J_X12_lay.2.1 67 = .ok (.iconst 0, 1) := by decide +kernel
theorem d_X12_lay_68 : decode J_X12_lay.2.1 68 = .ok (.istore 6, 2) := by decide +kernel
theorem d_X12_lay_70 : decode J_X12_lay.2.1 70 = .ok (.iload 6, 2) := by decide +kernel
theorem d_X12_lay_72 : decode J_X12_lay.2.1 72 = .ok (.aload_n 0, 1) := by decide +kernel
theorem d_X12_lay_73 : decode J_X12_lay.2.1 73 = .ok (.getfield 95, 3) := by decide +kernel
theorem d_X12_lay_76 : decode J_X12_lay.2.1 76 = .ok (.iload 5, 2) := by decide +kernel
theorem d_X12_lay_78 : decode J_X12_lay.2.1 78 = .ok (.iaload, 1) := by decide +kernel
theorem d_X12_lay_79 : decode J_X12_lay.2.1 79 = .ok (.if_icmp .ge 16, 3) := by decide +kernel
theorem d_X12_lay_82 : decode J_X12_lay.2.1 82 = .ok (.aload_n 0, 1) := by decide +kernel
theorem d_X12_lay_83 : decode J_X12_lay.2.1 83 = .ok (.iconst 2, 1) := by decide +kernel
theorem d_X12_lay_84 : decode J_X12_lay.2.1 84 = .ok (.iconst (-1), 1) := by decide +kernel
theorem d_X12_lay_85 : decode J_X12_lay.2.1 85 = .ok (.iconst (-1), 1) := by decide +kernel
theorem d_X12_lay_86 : decode J_X12_lay.2.1 86 = .ok (.invokevirtual 255, 3) := by decide +kernel
theorem d_X12_lay_89 : decode J_X12_lay.2.1 89 = .ok (.iinc 6 1, 3) := by decide +kernel
theorem d_X12_lay_92 : decode J_X12_lay.2.1 92 = .ok (.goto (-22), 3) := by decide +kernel
theorem d_X12_lay_95 : decode J_X12_lay.2.1 95 = .ok (.iload 5, 2) := by decide +kernel
theorem d_X12_lay_97 : decode J_X12_lay.2.1 97 = .ok (.aload_n 0, 1) := by decide +kernel
theorem d_X12_lay_98 : decode J_X12_lay.2.1 98 = .ok (.getfield 289, 3) := by decide +kernel
theorem d_X12_lay_101 : decode J_X12_lay.2.1 101 = .ok (.if_icmp .ne 6, 3) := by decide +kernel
theorem d_X12_lay_104 : decode J_X12_lay.2.1 104 = .ok (.goto 69, 3) := by decide +kernel
theorem d_X12_lay_107 : decode J_X12_lay.2.1 107 = .ok (.iload_n 3, 1) := by decide +kernel
theorem d_X12_lay_108 : decode J_X12_lay.2.1 108 = .ok (.aload_n 0, 1) := by decide +kernel
theorem d_X12_lay_109 : decode J_X12_lay.2.1 109 = .ok (.getfield 292, 3) := by decide +kernel
theorem d_X12_lay_112 : decode J_X12_lay.2.1 112 = .ok (.if_icmp .ge 29, 3) := by decide +kernel
theorem d_X12_lay_115 : decode J_X12_lay.2.1 115 = .ok (.aload_n 0, 1) := by decide +kernel
theorem d_X12_lay_116 : decode J_X12_lay.2.1 116 = .ok (.getfield 101, 3) := by decide +kernel
theorem d_X12_lay_119 : decode J_X12_lay.2.1 119 = .ok (.iload_n 3, 1) := by decide +kernel
theorem d_X12_lay_120 : decode J_X12_lay.2.1 120 = .ok (.iaload, 1) := by decide +kernel
theorem d_X12_lay_121 : decode J_X12_lay.2.1 121 = .ok (.iload 5, 2) := by decide +kernel
theorem d_X12_lay_123 : decode J_X12_lay.2.1 123 = .ok (.if_icmp .ne 18, 3) := by decide +kernel
theorem d_X12_lay_126 : decode J_X12_lay.2.1 126 = .ok (.aload_n 0, 1) := by decide +kernel
theorem d_X12_lay_127 : decode J_X12_lay.2.1 127 = .ok (.iconst 0, 1) := by decide +kernel
theorem d_X12_lay_128 : decode J_X12_lay.2.1 128 = .ok (.aload_n 0, 1) := by decide +kernel
theorem d_X12_lay_129 : decode J_X12_lay.2.1 129 = .ok (.getfield 98, 3) := by decide +kernel
theorem d_X12_lay_132 : decode J_X12_lay.2.1 132 = .ok (.iload_n 3, 1) := by decide +kernel
theorem d_X12_lay_133 : decode J_X12_lay.2.1 133 = .ok (.iaload, 1) := by decide +kernel
theorem d_X12_lay_134 : decode J_X12_lay.2.1 134 = .ok (.iconst (-1), 1) := by decide +kernel
theorem d_X12_lay_135 : decode J_X12_lay.2.1 135 = .ok (.invokevirtual 255, 3) := by decide +kernel
theorem d_X12_lay_138 : decode J_X12_lay.2.1 138 = .ok (.iinc 3 1, 3) := by decide +kernel
theorem d_X12_lay_141 : decode J_X12_lay.2.1 141 = .ok (.aload_n 0, 1) := by decide +kernel
theorem d_X12_lay_142 : decode J_X12_lay.2.1 142 = .ok (.iconst 1, 1) := by decide +kernel
theorem d_X12_lay_143 : decode J_X12_lay.2.1 143 = .ok (.aload_n 0, 1) := by decide +kernel
theorem d_X12_lay_144 : decode J_X12_lay.2.1 144 = .ok (.getfield 92, 3) := by decide +kernel
theorem d_X12_lay_147 : decode J_X12_lay.2.1 147 = .ok (.iload 5, 2) := by decide +kernel
theorem d_X12_lay_149 : decode J_X12_lay.2.1 149 = .ok (.iaload, 1) := by decide +kernel
theorem d_X12_lay_150 : decode J_X12_lay.2.1 150 = .ok (.iload_n 2, 1) := by decide +kernel
theorem d_X12_lay_151 : decode J_X12_lay.2.1 151 = .ok (.iload 4, 2) := by decide +kernel
theorem d_X12_lay_153 : decode J_X12_lay.2.1 153 = .ok (.idiv, 1) := by decide +kernel
theorem d_X12_lay_154 : decode J_X12_lay.2.1 154 = .ok (.bipush 10, 2) := by decide +kernel
theorem d_X12_lay_156 : decode J_X12_lay.2.1 156 = .ok (.irem, 1) := by decide +kernel
theorem d_X12_lay_157 : decode J_X12_lay.2.1 157 = .ok (.invokevirtual 255, 3) := by decide +kernel
theorem d_X12_lay_160 : decode J_X12_lay.2.1 160 = .ok (.iload 4, 2) := by decide +kernel
theorem d_X12_lay_162 : decode J_X12_lay.2.1 162 = .ok (.bipush 10, 2) := by decide +kernel
theorem d_X12_lay_164 : decode J_X12_lay.2.1 164 = .ok (.idiv, 1) := by decide +kernel
theorem d_X12_lay_165 : decode J_X12_lay.2.1 165 = .ok (.istore 4, 2) := by decide +kernel
theorem d_X12_lay_167 : decode J_X12_lay.2.1 167 = .ok (.iinc 5 1, 3) := by decide +kernel
theorem d_X12_lay_170 : decode J_X12_lay.2.1 170 = .ok (.goto (-112), 3) := by decide +kernel
theorem d_X12_lay_173 : decode J_X12_lay.2.1 173 = .ok (.aload_n 0, 1) := by decide +kernel
theorem d_X12_lay_174 : decode J_X12_lay.2.1 174 = .ok (.invokevirtual 259, 3) := by decide +kernel
theorem d_X12_lay_177 : decode J_X12_lay.2.1 177 = .ok (.return_, 1) := by decide +kernel
def f_X12_lay_173 (N : Nat) (K : oK)   (M : oM) : Option (Unit × oM) :=
  oB2 (f_X12_settle N K  M) (fun v5 M6 => some ((), M6))
set_option maxRecDepth 20000 in
theorem v_X12_lay_173 {X : oX} {d N : Nat} {K : oK}   {M : oM} {v : Unit} {M' : oM}  (hd : 2 ≤ d) (hK : oSR K)   (h : f_X12_lay_173 N K   M = some (v, M')) : oEv X d J_X12_lay 173 [some (.ref 59), none, none, none, none, none, none] [] K M none K M' := by
  unfold f_X12_lay_173 at h
  refine oe_aload_n (pc := 173) d_X12_lay_173 rfl ?_
  obtain ⟨v5, M6, q7, h⟩ := oB2_some h
  refine oe_callV (pc := 174) (ci := 12) d_X12_lay_174 (v_X12_settle hK  q7) (by omega) ml_X12_259 jJ_X12_settle rfl rfl (oLt hK (a := 59) (Nat.le_of_ble_eq_true rfl)) (oSho hK (a := 59) (Nat.le_of_ble_eq_true rfl) rfl) ock12 rfl (Nat.le_of_ble_eq_true rfl) ⟨Nat.le_refl _, Nat.le_refl _⟩ ⟨Nat.le_refl _, Nat.le_refl _⟩ ?_
  obtain ⟨rfl, rfl⟩ := oRes h
  exact oe_vret (pc := 177) d_X12_lay_177 rfl
def f_X12_lay_141 (N : Nat) (K : oK) (r58 : (Int32 → Int32 → Int32 → Int32 → oM → Option (Unit × oM))) (p2 : Int32) (p3 : Int32) (p4 : Int32) (p5 : Int32) (M : oM) : Option (Unit × oM) :=
  oIx (p5) 6 (oNz (p4) (oB2 (f_X12_adds N K (1 : Int32) (M.1 87 (p5 : Int32).toNatClampNeg) ((p2 / p4) - (p2 / p4) / 10 * 10) M) (fun v13 M14 => (r58 p2 p3 (p4 / 10) (p5 + 1) M14))))
set_option maxRecDepth 20000 in
theorem v_X12_lay_141 {X : oX} {d N : Nat} {K : oK} {r58 : (Int32 → Int32 → Int32 → Int32 → oM → Option (Unit × oM))} {p2 : Int32} {p3 : Int32} {p4 : Int32} {p5 : Int32} {M : oM} {v : Unit} {M' : oM}  (hd : 2 ≤ d) (hK : oSR K)  (hr58 : ∀ (p2 : Int32) (p3 : Int32) (p4 : Int32) (p5 : Int32) (M : oM) (v : Unit) (M' : oM) , r58 p2 p3 p4 p5 M = some (v, M') → oEv X d J_X12_lay 58 [some (.ref 59), none, some (.int p2), some (.int p3), some (.int p4), some (.int p5), none] [] K M none K M') (h : f_X12_lay_141 N K r58 p2 p3 p4 p5 M = some (v, M')) : oEv X d J_X12_lay 141 [some (.ref 59), none, some (.int p2), some (.int p3), some (.int p4), some (.int p5), none] [] K M none K M' := by
  unfold f_X12_lay_141 at h
  refine oe_aload_n (pc := 141) d_X12_lay_141 rfl ?_
  refine oe_iconst (pc := 142) (v := 1) d_X12_lay_142 rfl ?_
  refine oe_aload_n (pc := 143) d_X12_lay_143 rfl ?_
  refine oe_getr (pc := 144) d_X12_lay_144 fl_X12_92 ock12 (k := 40) (b := 87) (Nat.le_of_ble_eq_true rfl) (by decide) (oLt hK (a := 59) (Nat.le_of_ble_eq_true rfl)) (oSho hK (a := 59) (Nat.le_of_ble_eq_true rfl) rfl) (oRfK hK rfl) ?_
  refine oe_iload (pc := 147) d_X12_lay_147 rfl ?_
  obtain ⟨i12, h⟩ := oIx_some h
  refine oe_iald (pc := 149) d_X12_lay_149 (oLt hK (a := 87) (Nat.le_of_ble_eq_true rfl)) (oSha hK (a := 87) (Nat.le_of_ble_eq_true rfl) rfl) i12 ?_
  refine oe_iload_n (pc := 150) d_X12_lay_150 rfl ?_
  refine oe_iload (pc := 151) d_X12_lay_151 rfl ?_
  obtain ⟨z153, h⟩ := oNz_some h
  refine oe_idiv (pc := 153) d_X12_lay_153 z153 ?_
  refine oe_bipush (pc := 154) (v := 10) d_X12_lay_154 rfl ?_
  refine oe_irem (pc := 156) d_X12_lay_156 (by decide) ?_
  obtain ⟨v13, M14, q15, h⟩ := oB2_some h
  refine oe_callV (pc := 157) (ci := 12) d_X12_lay_157 (v_X12_adds hK  q15) (by omega) ml_X12_255 jJ_X12_adds rfl rfl (oLt hK (a := 59) (Nat.le_of_ble_eq_true rfl)) (oSho hK (a := 59) (Nat.le_of_ble_eq_true rfl) rfl) ock12 rfl (Nat.le_of_ble_eq_true rfl) ⟨Nat.le_refl _, Nat.le_refl _⟩ ⟨Nat.le_refl _, Nat.le_refl _⟩ ?_
  refine oe_iload (pc := 160) d_X12_lay_160 rfl ?_
  refine oe_bipush (pc := 162) (v := 10) d_X12_lay_162 rfl ?_
  refine oe_idiv (pc := 164) d_X12_lay_164 (by decide) ?_
  refine oe_istore (pc := 165) (L2 := [_, _, _, _, _, _, _]) d_X12_lay_165 rfl (Nat.le_of_ble_eq_true rfl) rfl ?_
  refine oe_iinc (pc := 167) (v := (p5 + 1)) (L2 := [_, _, _, _, _, _, _]) d_X12_lay_167 rfl rfl rfl (Nat.le_of_ble_eq_true rfl) rfl ?_
  refine oe_goto (pc := 170) (tgt := 58) d_X12_lay_170 (by decide) ?_
  exact hr58 _ _ _ _ _ _ _ h
def f_X12_lay_70 (N : Nat) (K : oK) (r58 : (Int32 → Int32 → Int32 → Int32 → oM → Option (Unit × oM))) : Nat → Int32 → Int32 → Int32 → Int32 → Int32 → oM → Option (Unit × oM)
  | 0, _, _, _, _, _, _ => none
  | n + 1, p2, p3, p4, p5, p6, M => (fun r70 => oIx (p5) 7 ((if (M.1 88 (p5 : Int32).toNatClampNeg) ≤ p6 then (if p5 = (M.1 59 44) then (f_X12_lay_173 N K   M) else (if (M.1 59 45) ≤ p3 then (f_X12_lay_141 N K r58 p2 p3 p4 p5 M) else oIx (p3) 4 ((if (M.1 90 (p3 : Int32).toNatClampNeg) = p5 then oIx (p3) 4 (oB2 (f_X12_adds N K (0 : Int32) (M.1 89 (p3 : Int32).toNatClampNeg) ((-1) : Int32) M) (fun v19 M20 => (f_X12_lay_141 N K r58 p2 (p3 + 1) p4 p5 M20))) else (f_X12_lay_141 N K r58 p2 p3 p4 p5 M))))) else oB2 (f_X12_adds N K (2 : Int32) ((-1) : Int32) ((-1) : Int32) M) (fun v22 M23 => (r70 p2 p3 p4 p5 (p6 + 1) M23))))) (f_X12_lay_70 N K r58 n)
set_option maxRecDepth 20000 in
theorem v_X12_lay_70_L {X : oX} {d N : Nat} {K : oK} {r58 : (Int32 → Int32 → Int32 → Int32 → oM → Option (Unit × oM))} (hd : 2 ≤ d) (hK : oSR K) (hr58 : ∀ (p2 : Int32) (p3 : Int32) (p4 : Int32) (p5 : Int32) (M : oM) (v : Unit) (M' : oM) , r58 p2 p3 p4 p5 M = some (v, M') → oEv X d J_X12_lay 58 [some (.ref 59), none, some (.int p2), some (.int p3), some (.int p4), some (.int p5), none] [] K M none K M') : ∀ (n : Nat) (p2 : Int32) (p3 : Int32) (p4 : Int32) (p5 : Int32) (p6 : Int32) (M : oM) (v : Unit) (M' : oM)  , f_X12_lay_70 N K r58 n p2 p3 p4 p5 p6 M = some (v, M') → oEv X d J_X12_lay 70 [some (.ref 59), none, some (.int p2), some (.int p3), some (.int p4), some (.int p5), some (.int p6)] [] K M none K M' := by
  intro n
  induction n with
  | zero =>
    intro p2 p3 p4 p5 p6 M v M'   h
    cases h
  | succ n hr70 =>
    intro p2 p3 p4 p5 p6 M v M'   h
    refine oe_iload (pc := 70) d_X12_lay_70 rfl ?_
    refine oe_aload_n (pc := 72) d_X12_lay_72 rfl ?_
    refine oe_getr (pc := 73) d_X12_lay_73 fl_X12_95 ock12 (k := 41) (b := 88) (Nat.le_of_ble_eq_true rfl) (by decide) (oLt hK (a := 59) (Nat.le_of_ble_eq_true rfl)) (oSho hK (a := 59) (Nat.le_of_ble_eq_true rfl) rfl) (oRfK hK rfl) ?_
    refine oe_iload (pc := 76) d_X12_lay_76 rfl ?_
    obtain ⟨i8, h⟩ := oIx_some h
    refine oe_iald (pc := 78) d_X12_lay_78 (oLt hK (a := 88) (Nat.le_of_ble_eq_true rfl)) (oSha hK (a := 88) (Nat.le_of_ble_eq_true rfl) rfl) i8 ?_
    refine oe_icmp_ge (pc := 79) (tgt := 95) d_X12_lay_79 (by decide) (fun c9 => ?_) (fun c9 => ?_)
    · replace h := (if_pos c9).symm.trans h
      refine oe_iload (pc := 95) d_X12_lay_95 rfl ?_
      refine oe_aload_n (pc := 97) d_X12_lay_97 rfl ?_
      refine oe_getf (pc := 98) d_X12_lay_98 fl_X12_289 ock12 (k := 44) (Nat.le_of_ble_eq_true rfl) rfl (oLt hK (a := 59) (Nat.le_of_ble_eq_true rfl)) (oSho hK (a := 59) (Nat.le_of_ble_eq_true rfl) rfl) ?_
      refine oe_icmp_ne (pc := 101) (tgt := 107) d_X12_lay_101 (by decide) (fun c10 => ?_) (fun c10 => ?_)
      · replace h := (if_neg c10).symm.trans h
        refine oe_iload_n (pc := 107) d_X12_lay_107 rfl ?_
        refine oe_aload_n (pc := 108) d_X12_lay_108 rfl ?_
        refine oe_getf (pc := 109) d_X12_lay_109 fl_X12_292 ock12 (k := 45) (Nat.le_of_ble_eq_true rfl) rfl (oLt hK (a := 59) (Nat.le_of_ble_eq_true rfl)) (oSho hK (a := 59) (Nat.le_of_ble_eq_true rfl) rfl) ?_
        refine oe_icmp_ge (pc := 112) (tgt := 141) d_X12_lay_112 (by decide) (fun c11 => ?_) (fun c11 => ?_)
        · replace h := (if_pos c11).symm.trans h
          refine oEv.fg [true, false, true, true, true, true, false] ?_
          exact v_X12_lay_141 hd hK  hr58 h
        · replace h := (if_neg c11).symm.trans h
          refine oe_aload_n (pc := 115) d_X12_lay_115 rfl ?_
          refine oe_getr (pc := 116) d_X12_lay_116 fl_X12_101 ock12 (k := 43) (b := 90) (Nat.le_of_ble_eq_true rfl) (by decide) (oLt hK (a := 59) (Nat.le_of_ble_eq_true rfl)) (oSho hK (a := 59) (Nat.le_of_ble_eq_true rfl) rfl) (oRfK hK rfl) ?_
          refine oe_iload_n (pc := 119) d_X12_lay_119 rfl ?_
          obtain ⟨i16, h⟩ := oIx_some h
          refine oe_iald (pc := 120) d_X12_lay_120 (oLt hK (a := 90) (Nat.le_of_ble_eq_true rfl)) (oSha hK (a := 90) (Nat.le_of_ble_eq_true rfl) rfl) i16 ?_
          refine oe_iload (pc := 121) d_X12_lay_121 rfl ?_
          refine oe_icmp_ne (pc := 123) (tgt := 141) d_X12_lay_123 (by decide) (fun c17 => ?_) (fun c17 => ?_)
          · replace h := (if_neg c17).symm.trans h
            refine oEv.fg [true, false, true, true, true, true, false] ?_
            exact v_X12_lay_141 hd hK  hr58 h
          · replace h := (if_pos c17).symm.trans h
            refine oe_aload_n (pc := 126) d_X12_lay_126 rfl ?_
            refine oe_iconst (pc := 127) (v := 0) d_X12_lay_127 rfl ?_
            refine oe_aload_n (pc := 128) d_X12_lay_128 rfl ?_
            refine oe_getr (pc := 129) d_X12_lay_129 fl_X12_98 ock12 (k := 42) (b := 89) (Nat.le_of_ble_eq_true rfl) (by decide) (oLt hK (a := 59) (Nat.le_of_ble_eq_true rfl)) (oSho hK (a := 59) (Nat.le_of_ble_eq_true rfl) rfl) (oRfK hK rfl) ?_
            refine oe_iload_n (pc := 132) d_X12_lay_132 rfl ?_
            obtain ⟨i18, h⟩ := oIx_some h
            refine oe_iald (pc := 133) d_X12_lay_133 (oLt hK (a := 89) (Nat.le_of_ble_eq_true rfl)) (oSha hK (a := 89) (Nat.le_of_ble_eq_true rfl) rfl) i18 ?_
            refine oe_iconst (pc := 134) (v := (-1)) d_X12_lay_134 rfl ?_
            obtain ⟨v19, M20, q21, h⟩ := oB2_some h
            refine oe_callV (pc := 135) (ci := 12) d_X12_lay_135 (v_X12_adds hK  q21) (by omega) ml_X12_255 jJ_X12_adds rfl rfl (oLt hK (a := 59) (Nat.le_of_ble_eq_true rfl)) (oSho hK (a := 59) (Nat.le_of_ble_eq_true rfl) rfl) ock12 rfl (Nat.le_of_ble_eq_true rfl) ⟨Nat.le_refl _, Nat.le_refl _⟩ ⟨Nat.le_refl _, Nat.le_refl _⟩ ?_
            refine oe_iinc (pc := 138) (v := (p3 + 1)) (L2 := [_, _, _, _, _, _, _]) d_X12_lay_138 rfl rfl rfl (Nat.le_of_ble_eq_true rfl) rfl ?_
            refine oEv.fg [true, false, true, true, true, true, false] ?_
            exact v_X12_lay_141 hd hK  hr58 h
      · replace h := (if_pos c10).symm.trans h
        refine oe_goto (pc := 104) (tgt := 173) d_X12_lay_104 (by decide) ?_
        refine oEv.fg [true, false, false, false, false, false, false] ?_
        exact v_X12_lay_173 hd hK   h
    · replace h := (if_neg c9).symm.trans h
      refine oe_aload_n (pc := 82) d_X12_lay_82 rfl ?_
      refine oe_iconst (pc := 83) (v := 2) d_X12_lay_83 rfl ?_
      refine oe_iconst (pc := 84) (v := (-1)) d_X12_lay_84 rfl ?_
      refine oe_iconst (pc := 85) (v := (-1)) d_X12_lay_85 rfl ?_
      obtain ⟨v22, M23, q24, h⟩ := oB2_some h
      refine oe_callV (pc := 86) (ci := 12) d_X12_lay_86 (v_X12_adds hK  q24) (by omega) ml_X12_255 jJ_X12_adds rfl rfl (oLt hK (a := 59) (Nat.le_of_ble_eq_true rfl)) (oSho hK (a := 59) (Nat.le_of_ble_eq_true rfl) rfl) ock12 rfl (Nat.le_of_ble_eq_true rfl) ⟨Nat.le_refl _, Nat.le_refl _⟩ ⟨Nat.le_refl _, Nat.le_refl _⟩ ?_
      refine oe_iinc (pc := 89) (v := (p6 + 1)) (L2 := [_, _, _, _, _, _, _]) d_X12_lay_89 rfl rfl rfl (Nat.le_of_ble_eq_true rfl) rfl ?_
      refine oe_goto (pc := 92) (tgt := 70) d_X12_lay_92 (by decide) ?_
      exact hr70 _ _ _ _ _ _ _ _ h
theorem v_X12_lay_70 {X : oX} {d N : Nat} {K : oK} {r58 : (Int32 → Int32 → Int32 → Int32 → oM → Option (Unit × oM))} {p2 : Int32} {p3 : Int32} {p4 : Int32} {p5 : Int32} {p6 : Int32} {M : oM} {v : Unit} {M' : oM}  (hd : 2 ≤ d) (hK : oSR K)  (hr58 : ∀ (p2 : Int32) (p3 : Int32) (p4 : Int32) (p5 : Int32) (M : oM) (v : Unit) (M' : oM) , r58 p2 p3 p4 p5 M = some (v, M') → oEv X d J_X12_lay 58 [some (.ref 59), none, some (.int p2), some (.int p3), some (.int p4), some (.int p5), none] [] K M none K M') (h : f_X12_lay_70 N K r58 N p2 p3 p4 p5 p6 M = some (v, M')) : oEv X d J_X12_lay 70 [some (.ref 59), none, some (.int p2), some (.int p3), some (.int p4), some (.int p5), some (.int p6)] [] K M none K M' := v_X12_lay_70_L hd hK hr58 N p2 p3 p4 p5 p6 M v M'   h
def f_X12_lay_58 (N : Nat) (K : oK)  : Nat → Int32 → Int32 → Int32 → Int32 → oM → Option (Unit × oM)
  | 0, _, _, _, _, _ => none
  | n + 1, p2, p3, p4, p5, M => (fun r58 => (if (M.1 59 44) < p5 then (f_X12_lay_173 N K   M) else (f_X12_lay_70 N K r58 N p2 p3 p4 p5 0 M))) (f_X12_lay_58 N K  n)
set_option maxRecDepth 20000 in
theorem v_X12_lay_58_L {X : oX} {d N : Nat} {K : oK}  (hd : 2 ≤ d) (hK : oSR K)  : ∀ (n : Nat) (p2 : Int32) (p3 : Int32) (p4 : Int32) (p5 : Int32) (M : oM) (v : Unit) (M' : oM)  , f_X12_lay_58 N K  n p2 p3 p4 p5 M = some (v, M') → oEv X d J_X12_lay 58 [some (.ref 59), none, some (.int p2), some (.int p3), some (.int p4), some (.int p5), none] [] K M none K M' := by
  intro n
  induction n with
  | zero =>
    intro p2 p3 p4 p5 M v M'   h
    cases h
  | succ n hr58 =>
    intro p2 p3 p4 p5 M v M'   h
    refine oe_iload (pc := 58) d_X12_lay_58 rfl ?_
    refine oe_aload_n (pc := 60) d_X12_lay_60 rfl ?_
    refine oe_getf (pc := 61) d_X12_lay_61 fl_X12_289 ock12 (k := 44) (Nat.le_of_ble_eq_true rfl) rfl (oLt hK (a := 59) (Nat.le_of_ble_eq_true rfl)) (oSho hK (a := 59) (Nat.le_of_ble_eq_true rfl) rfl) ?_
    refine oe_icmp_gt (pc := 64) (tgt := 173) d_X12_lay_64 (by decide) (fun c4 => ?_) (fun c4 => ?_)
    · replace h := (if_pos c4).symm.trans h
      refine oEv.fg [true, false, false, false, false, false, false] ?_
      exact v_X12_lay_173 hd hK   h
    · replace h := (if_neg c4).symm.trans h
      refine oe_iconst (pc := 67) (v := 0) d_X12_lay_67 rfl ?_
      refine oe_istore (pc := 68) (L2 := [_, _, _, _, _, _, _]) d_X12_lay_68 rfl (Nat.le_of_ble_eq_true rfl) rfl ?_
      exact v_X12_lay_70 hd hK  hr58 h
theorem v_X12_lay_58 {X : oX} {d N : Nat} {K : oK}  {p2 : Int32} {p3 : Int32} {p4 : Int32} {p5 : Int32} {M : oM} {v : Unit} {M' : oM}  (hd : 2 ≤ d) (hK : oSR K)   (h : f_X12_lay_58 N K  N p2 p3 p4 p5 M = some (v, M')) : oEv X d J_X12_lay 58 [some (.ref 59), none, some (.int p2), some (.int p3), some (.int p4), some (.int p5), none] [] K M none K M' := v_X12_lay_58_L hd hK  N p2 p3 p4 p5 M v M'   h
def f_X12_lay_33 (N : Nat) (K : oK)  : Nat → Int32 → Int32 → Int32 → Int32 → oM → Option (Unit × oM)
  | 0, _, _, _, _, _ => none
  | n + 1, p2, p3, p4, p5, M => (fun r33 => (if (M.1 59 44) ≤ p5 then (f_X12_lay_58 N K  N p2 p3 p4 0 M) else (r33 p2 p3 (p4 * 10) (p5 + 1) M))) (f_X12_lay_33 N K  n)
set_option maxRecDepth 20000 in
theorem v_X12_lay_33_L {X : oX} {d N : Nat} {K : oK}  (hd : 2 ≤ d) (hK : oSR K)  : ∀ (n : Nat) (p2 : Int32) (p3 : Int32) (p4 : Int32) (p5 : Int32) (M : oM) (v : Unit) (M' : oM)  , f_X12_lay_33 N K  n p2 p3 p4 p5 M = some (v, M') → oEv X d J_X12_lay 33 [some (.ref 59), none, some (.int p2), some (.int p3), some (.int p4), some (.int p5), none] [] K M none K M' := by
  intro n
  induction n with
  | zero =>
    intro p2 p3 p4 p5 M v M'   h
    cases h
  | succ n hr33 =>
    intro p2 p3 p4 p5 M v M'   h
    refine oe_iload (pc := 33) d_X12_lay_33 rfl ?_
    refine oe_aload_n (pc := 35) d_X12_lay_35 rfl ?_
    refine oe_getf (pc := 36) d_X12_lay_36 fl_X12_289 ock12 (k := 44) (Nat.le_of_ble_eq_true rfl) rfl (oLt hK (a := 59) (Nat.le_of_ble_eq_true rfl)) (oSho hK (a := 59) (Nat.le_of_ble_eq_true rfl) rfl) ?_
    refine oe_icmp_ge (pc := 39) (tgt := 55) d_X12_lay_39 (by decide) (fun c3 => ?_) (fun c3 => ?_)
    · replace h := (if_pos c3).symm.trans h
      refine oe_iconst (pc := 55) (v := 0) d_X12_lay_55 rfl ?_
      refine oe_istore (pc := 56) (L2 := [_, _, _, _, _, _, _]) d_X12_lay_56 rfl (Nat.le_of_ble_eq_true rfl) rfl ?_
      exact v_X12_lay_58 hd hK   h
    · replace h := (if_neg c3).symm.trans h
      refine oe_iload (pc := 42) d_X12_lay_42 rfl ?_
      refine oe_bipush (pc := 44) (v := 10) d_X12_lay_44 rfl ?_
      refine oe_imul (pc := 46) d_X12_lay_46 ?_
      refine oe_istore (pc := 47) (L2 := [_, _, _, _, _, _, _]) d_X12_lay_47 rfl (Nat.le_of_ble_eq_true rfl) rfl ?_
      refine oe_iinc (pc := 49) (v := (p5 + 1)) (L2 := [_, _, _, _, _, _, _]) d_X12_lay_49 rfl rfl rfl (Nat.le_of_ble_eq_true rfl) rfl ?_
      refine oe_goto (pc := 52) (tgt := 33) d_X12_lay_52 (by decide) ?_
      exact hr33 _ _ _ _ _ _ _ h
theorem v_X12_lay_33 {X : oX} {d N : Nat} {K : oK}  {p2 : Int32} {p3 : Int32} {p4 : Int32} {p5 : Int32} {M : oM} {v : Unit} {M' : oM}  (hd : 2 ≤ d) (hK : oSR K)   (h : f_X12_lay_33 N K  N p2 p3 p4 p5 M = some (v, M')) : oEv X d J_X12_lay 33 [some (.ref 59), none, some (.int p2), some (.int p3), some (.int p4), some (.int p5), none] [] K M none K M' := v_X12_lay_33_L hd hK  N p2 p3 p4 p5 M v M'   h
def f_X12_lay (N : Nat) (K : oK) (p1 : Int32) (p2 : Int32) (M : oM) : Option (Unit × oM) :=
  oIx (p1) 20 (oIx (p1) 20 ((f_X12_lay_33 N K  N p2 0 1 1 (oUp (oUp (oUp M 59 29 (M.1 73 (p1 : Int32).toNatClampNeg)) 59 30 ((oUp M 59 29 (M.1 73 (p1 : Int32).toNatClampNeg)).1 74 (p1 : Int32).toNatClampNeg)) 59 31 (0 : Int32)))))
set_option maxRecDepth 20000 in
theorem v_X12_lay {X : oX} {N : Nat} {K : oK} {p1 : Int32} {p2 : Int32} {M : oM} {v : Unit} {M' : oM} (hK : oSR K)  (h : f_X12_lay N K p1 p2 M = some (v, M')) : oMet X 2 J_X12_lay [(.ref 59), (.int p1), (.int p2)] K M none K M' := by
  unfold f_X12_lay at h
  refine oMet_of (L := [some (.ref 59), some (.int p1), some (.int p2), none, none, none, none]) jJ_X12_lay.1 rfl (Nat.le_of_ble_eq_true rfl) rfl (Nat.le_refl _) (Nat.le_refl _) ?_
  have hd : 2 ≤ 2 := Nat.le_refl _
  refine oe_aload_n (pc := 0) d_X12_lay_0 rfl ?_
  refine oe_aload_n (pc := 1) d_X12_lay_1 rfl ?_
  refine oe_getr (pc := 2) d_X12_lay_2 fl_X12_49 ock12 (k := 21) (b := 73) (Nat.le_of_ble_eq_true rfl) (by decide) (oLt hK (a := 59) (Nat.le_of_ble_eq_true rfl)) (oSho hK (a := 59) (Nat.le_of_ble_eq_true rfl) rfl) (oRfK hK rfl) ?_
  refine oe_iload_n (pc := 5) d_X12_lay_5 rfl ?_
  obtain ⟨i1, h⟩ := oIx_some h
  refine oe_iald (pc := 6) d_X12_lay_6 (oLt hK (a := 73) (Nat.le_of_ble_eq_true rfl)) (oSha hK (a := 73) (Nat.le_of_ble_eq_true rfl) rfl) i1 ?_
  refine oe_putf (pc := 7) d_X12_lay_7 fl_X12_252 ock12 (k := 29) (Nat.le_of_ble_eq_true rfl) rfl rfl (oLt hK (a := 59) (Nat.le_of_ble_eq_true rfl)) (oSho hK (a := 59) (Nat.le_of_ble_eq_true rfl) rfl) ?_
  refine oe_aload_n (pc := 10) d_X12_lay_10 rfl ?_
  refine oe_aload_n (pc := 11) d_X12_lay_11 rfl ?_
  refine oe_getr (pc := 12) d_X12_lay_12 fl_X12_52 ock12 (k := 22) (b := 74) (Nat.le_of_ble_eq_true rfl) (by decide) (oLt hK (a := 59) (Nat.le_of_ble_eq_true rfl)) (oSho hK (a := 59) (Nat.le_of_ble_eq_true rfl) rfl) (oRfK hK rfl) ?_
  refine oe_iload_n (pc := 15) d_X12_lay_15 rfl ?_
  obtain ⟨i2, h⟩ := oIx_some h
  refine oe_iald (pc := 16) d_X12_lay_16 (oLt hK (a := 74) (Nat.le_of_ble_eq_true rfl)) (oSha hK (a := 74) (Nat.le_of_ble_eq_true rfl) rfl) i2 ?_
  refine oe_putf (pc := 17) d_X12_lay_17 fl_X12_249 ock12 (k := 30) (Nat.le_of_ble_eq_true rfl) rfl rfl (oLt hK (a := 59) (Nat.le_of_ble_eq_true rfl)) (oSho hK (a := 59) (Nat.le_of_ble_eq_true rfl) rfl) ?_
  refine oe_aload_n (pc := 20) d_X12_lay_20 rfl ?_
  refine oe_iconst (pc := 21) (v := 0) d_X12_lay_21 rfl ?_
  refine oe_putf (pc := 22) d_X12_lay_22 fl_X12_246 ock12 (k := 31) (Nat.le_of_ble_eq_true rfl) rfl rfl (oLt hK (a := 59) (Nat.le_of_ble_eq_true rfl)) (oSho hK (a := 59) (Nat.le_of_ble_eq_true rfl) rfl) ?_
  refine oe_iconst (pc := 25) (v := 0) d_X12_lay_25 rfl ?_
  refine oe_istore_n (pc := 26) (L2 := [_, _, _, _, _, _, _]) d_X12_lay_26 rfl rfl (Nat.le_of_ble_eq_true rfl) rfl ?_
  refine oe_iconst (pc := 27) (v := 1) d_X12_lay_27 rfl ?_
  refine oe_istore (pc := 28) (L2 := [_, _, _, _, _, _, _]) d_X12_lay_28 rfl (Nat.le_of_ble_eq_true rfl) rfl ?_
  refine oe_iconst (pc := 30) (v := 1) d_X12_lay_30 rfl ?_
  refine oe_istore (pc := 31) (L2 := [_, _, _, _, _, _, _]) d_X12_lay_31 rfl (Nat.le_of_ble_eq_true rfl) rfl ?_
  refine oEv.fg [true, false, true, true, true, true, false] ?_
  exact v_X12_lay_33 hd hK   h
