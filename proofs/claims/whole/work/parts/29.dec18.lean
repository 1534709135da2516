/-! walked by program: X12_worth, X12_helps, X12_goes, X12_changed, X12_load, X12_unload, X12_carry, X12_minutes -/
theorem d_X12_worth_0 : decode J_X12_worth.2.1 0 = .ok (.aload_n 0, 1) := by decide +kernel
theorem d_X12_worth_1 : decode J_X12_worth.2.1 1 = .ok (.iload_n 1, 1) := by decide +kernel
theorem d_X12_worth_2 : decode J_X12_worth.2.1 2 = .ok (.iload_n 2, 1) := by decide +kernel
theorem d_X12_worth_3 : decode J_X12_worth.2.1 3 = .ok (.iconst 0, 1) := by decide +kernel
theorem d_X12_worth_4 : decode J_X12_worth.2.1 4 = .ok (.invokevirtual 323, 3) := by decide +kernel
theorem d_X12_worth_7 : decode J_X12_worth.2.1 7 = .ok (.ifCond .eq 10, 3) := by decide +kernel
theorem d_X12_worth_10 : decode J_X12_worth.2.1 10 = .ok (.iload_n 3, 1) := by decide +kernel
theorem d_X12_worth_11 : decode J_X12_worth.2.1 11 = .ok (.invokestatic 283, 3) := by decide +kernel
theorem d_X12_worth_14 : decode J_X12_worth.2.1 14 = .ok (.ifCond .ne 7, 3) := by decide +kernel
theorem d_X12_worth_17 : decode J_X12_worth.2.1 17 = .ok (.ldc_w 282, 3) := by decide +kernel
theorem d_X12_worth_20 : decode J_X12_worth.2.1 20 = .ok (.ireturn, 1) := by decide +kernel
theorem d_X12_worth_21 : decode J_X12_worth.2.1 21 = .ok (.aload_n 0, 1) := by decide +kernel
theorem d_X12_worth_22 : decode J_X12_worth.2.1 22 = .ok (.iload_n 1, 1) := by decide +kernel
theorem d_X12_worth_23 : decode J_X12_worth.2.1 23 = .ok (.invokevirtual 275, 3) := by decide +kernel
theorem d_X12_worth_26 : decode J_X12_worth.2.1 26 = .ok (.aload_n 0, 1) := by decide +kernel
theorem d_X12_worth_27 : decode J_X12_worth.2.1 27 = .ok (.iload_n 3, 1) := by decide +kernel
theorem d_X12_worth_28 : decode J_X12_worth.2.1 28 = .ok (.invokevirtual 286, 3) := by decide +kernel
theorem d_X12_worth_31 : decode J_X12_worth.2.1 31 = .ok (.invokestatic 327, 3) := by decide +kernel
theorem d_X12_worth_34 : decode J_X12_worth.2.1 34 = .ok (.istore 4, 2) := by decide +kernel
theorem d_X12_worth_36 : decode J_X12_worth.2.1 36 = .ok (.aload_n 0, 1) := by decide +kernel
theorem d_X12_worth_37 : decode J_X12_worth.2.1 37 = .ok (.iload_n 1, 1) := by decide +kernel
theorem d_X12_worth_38 : decode J_X12_worth.2.1 38 = .ok (.iload_n 2, 1) := by decide +kernel
theorem d_X12_worth_39 : decode J_X12_worth.2.1 39 = .ok (.iconst 0, 1) := by decide +kernel
theorem d_X12_worth_40 : decode J_X12_worth.2.1 40 = .ok (.invokevirtual 330, 3) := by decide +kernel
theorem d_X12_worth_43 : decode J_X12_worth.2.1 43 = .ok (.iload 4, 2) := by decide +kernel
theorem d_X12_worth_45 : decode J_X12_worth.2.1 45 = .ok (.aload_n 0, 1) := by decide +kernel
theorem d_X12_worth_46 : decode J_X12_worth.2.1 46 = .ok (.iload_n 3, 1) := by decide +kernel
theorem d_X12_worth_47 : decode J_X12_worth.2.1 47 = .ok (.invokevirtual 286, 3) := by decide +kernel
theorem d_X12_worth_50 : decode J_X12_worth.2.1 50 = .ok (.invokestatic 327, 3) := by decide +kernel
theorem d_X12_worth_53 : decode J_X12_worth.2.1 53 = .ok (.isub, 1) := by decide +kernel
theorem d_X12_worth_54 : decode J_X12_worth.2.1 54 = .ok (.ireturn, 1) := by decide +kernel
def f_X12_worth_17 (N : Nat) (K : oK)   (M : oM) : Option (Int32 × oM) :=
  some ((-2000000000), M)
set_option maxRecDepth 20000 in
theorem v_X12_worth_17 {X : oX} {d N : Nat} {K : oK}   {M : oM} {v : Int32} {M' : oM}  (hd : 6 ≤ d) (hK : oSR K)   (h : f_X12_worth_17 N K   M = some (v, M')) : oEv X d J_X12_worth 17 [none, none, none, none, none] [] K M (some (.int v)) K M' := by
  unfold f_X12_worth_17 at h
  refine oe_ldcw (pc := 17) d_X12_worth_17 co_X12_282 ?_
  obtain ⟨rfl, rfl⟩ := oRes h
  exact oe_iret (pc := 20) d_X12_worth_20 ⟨_, rfl, rfl⟩
def f_X12_worth (N : Nat) (K : oK) (p1 : Int32) (p2 : Int32) (p3 : Int32) (M : oM) : Option (Int32 × oM) :=
  oB2 (f_X12_isPart N K p1 p2 (0 : Int32) M) (fun v1 M2 => cond v1 (oB2 (f_X12_isNeed N K p3 M2) (fun v4 M5 => cond v4 (oB2 (f_X12_think N K p1 M5) (fun v7 M8 => oB2 (f_X12_flowNow N K p3 M8) (fun v10 M11 => oB2 (f_X12_orNone N K v10 M11) (fun v13 M14 => oB2 (f_X12_thinkBut N K p1 p2 (0 : Int32) M14) (fun v16 M17 => oB2 (f_X12_flowNow N K p3 M17) (fun v19 M20 => oB2 (f_X12_orNone N K v19 M20) (fun v22 M23 => some ((v13 - v22), M23)))))))) ((f_X12_worth_17 N K   M5)))) ((f_X12_worth_17 N K   M2)))
set_option maxRecDepth 20000 in
theorem v_X12_worth {X : oX} {N : Nat} {K : oK} {p1 : Int32} {p2 : Int32} {p3 : Int32} {M : oM} {v : Int32} {M' : oM} (hK : oSR K)  (h : f_X12_worth N K p1 p2 p3 M = some (v, M')) : oMet X 6 J_X12_worth [(.ref 59), (.int p1), (.int p2), (.int p3)] K M (some (.int v)) K M' := by
  unfold f_X12_worth at h
  refine oMet_of (L := [some (.ref 59), some (.int p1), some (.int p2), some (.int p3), none]) jJ_X12_worth.1 rfl (Nat.le_of_ble_eq_true rfl) rfl (Nat.le_refl _) (Nat.le_refl _) ?_
  have hd : 6 ≤ 6 := Nat.le_refl _
  refine oe_aload_n (pc := 0) d_X12_worth_0 rfl ?_
  refine oe_iload_n (pc := 1) d_X12_worth_1 rfl ?_
  refine oe_iload_n (pc := 2) d_X12_worth_2 rfl ?_
  refine oe_iconst (pc := 3) (v := 0) d_X12_worth_3 rfl ?_
  obtain ⟨v1, M2, q3, h⟩ := oB2_some h
  cases v1 with
  | true =>
    replace h := oCt h
    refine oe_callV (pc := 4) (ci := 12) d_X12_worth_4 (v_X12_isPart hK  q3) (by omega) ml_X12_323 jJ_X12_isPart rfl rfl (oLt hK (a := 59) (Nat.le_of_ble_eq_true rfl)) (oSho hK (a := 59) (Nat.le_of_ble_eq_true rfl) rfl) ock12 rfl (Nat.le_of_ble_eq_true rfl) ⟨Nat.le_refl _, Nat.le_refl _⟩ ⟨Nat.le_refl _, Nat.le_refl _⟩ ?_
    refine oe_if_eq (pc := 7) (tgt := 17) d_X12_worth_7 (by decide) (fun c => absurd c (by decide)) (fun _ => ?_)
    refine oe_iload_n (pc := 10) d_X12_worth_10 rfl ?_
    obtain ⟨v4, M5, q6, h⟩ := oB2_some h
    cases v4 with
    | true =>
      replace h := oCt h
      refine oe_callS (pc := 11) d_X12_worth_11 (v_X12_isNeed hK  q6) (by omega) ml_X12_283 jJ_X12_isNeed rfl rfl (Nat.le_of_ble_eq_true rfl) ⟨Nat.le_refl _, Nat.le_refl _⟩ ⟨Nat.le_refl _, Nat.le_refl _⟩ ?_
      refine oe_if_ne (pc := 14) (tgt := 21) d_X12_worth_14 (by decide) (fun _ => ?_) (fun c => absurd c (by decide))
      refine oe_aload_n (pc := 21) d_X12_worth_21 rfl ?_
      refine oe_iload_n (pc := 22) d_X12_worth_22 rfl ?_
      obtain ⟨v7, M8, q9, h⟩ := oB2_some h
      refine oe_callV (pc := 23) (ci := 12) d_X12_worth_23 (v_X12_think hK  q9) (by omega) ml_X12_275 jJ_X12_think rfl rfl (oLt hK (a := 59) (Nat.le_of_ble_eq_true rfl)) (oSho hK (a := 59) (Nat.le_of_ble_eq_true rfl) rfl) ock12 rfl (Nat.le_of_ble_eq_true rfl) ⟨Nat.le_refl _, Nat.le_refl _⟩ ⟨Nat.le_refl _, Nat.le_refl _⟩ ?_
      refine oe_aload_n (pc := 26) d_X12_worth_26 rfl ?_
      refine oe_iload_n (pc := 27) d_X12_worth_27 rfl ?_
      obtain ⟨v10, M11, q12, h⟩ := oB2_some h
      refine oe_callV (pc := 28) (ci := 12) d_X12_worth_28 (v_X12_flowNow hK  q12) (by omega) ml_X12_286 jJ_X12_flowNow rfl rfl (oLt hK (a := 59) (Nat.le_of_ble_eq_true rfl)) (oSho hK (a := 59) (Nat.le_of_ble_eq_true rfl) rfl) ock12 rfl (Nat.le_of_ble_eq_true rfl) ⟨Nat.le_refl _, Nat.le_refl _⟩ ⟨Nat.le_refl _, Nat.le_refl _⟩ ?_
      obtain ⟨v13, M14, q15, h⟩ := oB2_some h
      refine oe_callS (pc := 31) d_X12_worth_31 (v_X12_orNone hK  q15) (by omega) ml_X12_327 jJ_X12_orNone rfl rfl (Nat.le_of_ble_eq_true rfl) ⟨Nat.le_refl _, Nat.le_refl _⟩ ⟨Nat.le_refl _, Nat.le_refl _⟩ ?_
      refine oe_istore (pc := 34) (L2 := [_, _, _, _, _]) d_X12_worth_34 rfl (Nat.le_of_ble_eq_true rfl) rfl ?_
      refine oe_aload_n (pc := 36) d_X12_worth_36 rfl ?_
      refine oe_iload_n (pc := 37) d_X12_worth_37 rfl ?_
      refine oe_iload_n (pc := 38) d_X12_worth_38 rfl ?_
      refine oe_iconst (pc := 39) (v := 0) d_X12_worth_39 rfl ?_
      obtain ⟨v16, M17, q18, h⟩ := oB2_some h
      refine oe_callV (pc := 40) (ci := 12) d_X12_worth_40 (v_X12_thinkBut hK  q18) (by omega) ml_X12_330 jJ_X12_thinkBut rfl rfl (oLt hK (a := 59) (Nat.le_of_ble_eq_true rfl)) (oSho hK (a := 59) (Nat.le_of_ble_eq_true rfl) rfl) ock12 rfl (Nat.le_of_ble_eq_true rfl) ⟨Nat.le_refl _, Nat.le_refl _⟩ ⟨Nat.le_refl _, Nat.le_refl _⟩ ?_
      refine oe_iload (pc := 43) d_X12_worth_43 rfl ?_
      refine oe_aload_n (pc := 45) d_X12_worth_45 rfl ?_
      refine oe_iload_n (pc := 46) d_X12_worth_46 rfl ?_
      obtain ⟨v19, M20, q21, h⟩ := oB2_some h
      refine oe_callV (pc := 47) (ci := 12) d_X12_worth_47 (v_X12_flowNow hK  q21) (by omega) ml_X12_286 jJ_X12_flowNow rfl rfl (oLt hK (a := 59) (Nat.le_of_ble_eq_true rfl)) (oSho hK (a := 59) (Nat.le_of_ble_eq_true rfl) rfl) ock12 rfl (Nat.le_of_ble_eq_true rfl) ⟨Nat.le_refl _, Nat.le_refl _⟩ ⟨Nat.le_refl _, Nat.le_refl _⟩ ?_
      obtain ⟨v22, M23, q24, h⟩ := oB2_some h
      refine oe_callS (pc := 50) d_X12_worth_50 (v_X12_orNone hK  q24) (by omega) ml_X12_327 jJ_X12_orNone rfl rfl (Nat.le_of_ble_eq_true rfl) ⟨Nat.le_refl _, Nat.le_refl _⟩ ⟨Nat.le_refl _, Nat.le_refl _⟩ ?_
      refine oe_isub (pc := 53) d_X12_worth_53 ?_
      obtain ⟨rfl, rfl⟩ := oRes h
      exact oe_iret (pc := 54) d_X12_worth_54 ⟨_, rfl, rfl⟩
    | false =>
      replace h := oCf h
      refine oe_callS (pc := 11) d_X12_worth_11 (v_X12_isNeed hK  q6) (by omega) ml_X12_283 jJ_X12_isNeed rfl rfl (Nat.le_of_ble_eq_true rfl) ⟨Nat.le_refl _, Nat.le_refl _⟩ ⟨Nat.le_refl _, Nat.le_refl _⟩ ?_
      refine oe_if_ne (pc := 14) (tgt := 21) d_X12_worth_14 (by decide) (fun c => absurd (by decide) c) (fun _ => ?_)
      refine oEv.fg [false, false, false, false, false] ?_
      exact v_X12_worth_17 hd hK   h
  | false =>
    replace h := oCf h
    refine oe_callV (pc := 4) (ci := 12) d_X12_worth_4 (v_X12_isPart hK  q3) (by omega) ml_X12_323 jJ_X12_isPart rfl rfl (oLt hK (a := 59) (Nat.le_of_ble_eq_true rfl)) (oSho hK (a := 59) (Nat.le_of_ble_eq_true rfl) rfl) ock12 rfl (Nat.le_of_ble_eq_true rfl) ⟨Nat.le_refl _, Nat.le_refl _⟩ ⟨Nat.le_refl _, Nat.le_refl _⟩ ?_
    refine oe_if_eq (pc := 7) (tgt := 17) d_X12_worth_7 (by decide) (fun _ => ?_) (fun c => absurd (by decide) c)
    refine oEv.fg [false, false, false, false, false] ?_
    exact v_X12_worth_17 hd hK   h
theorem d_X12_helps_0 : decode J_X12_helps.2.1 0 = .ok (.aload_n 0, 1) := by decide +kernel
theorem d_X12_helps_1 : decode J_X12_helps.2.1 1 = .ok (.iload_n 1, 1) := by decide +kernel
theorem d_X12_helps_2 : decode J_X12_helps.2.1 2 = .ok (.invokevirtual 230, 3) := by decide +kernel
theorem d_X12_helps_5 : decode J_X12_helps.2.1 5 = .ok (.ifCond .eq 29, 3) := by decide +kernel
theorem d_X12_helps_8 : decode J_X12_helps.2.1 8 = .ok (.aload_n 0, 1) := by decide +kernel
theorem d_X12_helps_9 : decode J_X12_helps.2.1 9 = .ok (.getfield 58, 3) := by decide +kernel
theorem d_X12_helps_12 : decode J_X12_helps.2.1 12 = .ok (.iload_n 1, 1) := by decide +kernel
theorem d_X12_helps_13 : decode J_X12_helps.2.1 13 = .ok (.iaload, 1) := by decide +kernel
theorem d_X12_helps_14 : decode J_X12_helps.2.1 14 = .ok (.ifCond .eq 20, 3) := by decide +kernel
theorem d_X12_helps_17 : decode J_X12_helps.2.1 17 = .ok (.iload_n 2, 1) := by decide +kernel
theorem d_X12_helps_18 : decode J_X12_helps.2.1 18 = .ok (.invokestatic 283, 3) := by decide +kernel
theorem d_X12_helps_21 : decode J_X12_helps.2.1 21 = .ok (.ifCond .eq 13, 3) := by decide +kernel
theorem d_X12_helps_24 : decode J_X12_helps.2.1 24 = .ok (.iload_n 3, 1) := by decide +kernel
theorem d_X12_helps_25 : decode J_X12_helps.2.1 25 = .ok (.i2l, 1) := by decide +kernel
theorem d_X12_helps_26 : decode J_X12_helps.2.1 26 = .ok (.lconst 0, 1) := by decide +kernel
theorem d_X12_helps_27 : decode J_X12_helps.2.1 27 = .ok (.lconst 1, 1) := by decide +kernel
theorem d_X12_helps_28 : decode J_X12_helps.2.1 28 = .ok (.invokestatic 145, 3) := by decide +kernel
theorem d_X12_helps_31 : decode J_X12_helps.2.1 31 = .ok (.ifCond .ne 5, 3) := by decide +kernel
theorem d_X12_helps_34 : decode J_X12_helps.2.1 34 = .ok (.iconst (-1), 1) := by decide +kernel
theorem d_X12_helps_35 : decode J_X12_helps.2.1 35 = .ok (.ireturn, 1) := by decide +kernel
theorem d_X12_helps_36 : decode J_X12_helps.2.1 36 = .ok (.bipush (-2), 2) := by decide +kernel
theorem d_X12_helps_38 : decode J_X12_helps.2.1 38 = .ok (.istore 4, 2) := by decide +kernel
theorem d_X12_helps_40 : decode J_X12_helps.2.1 40 = .ok (.iconst (-1), 1) := by decide +kernel
theorem d_X12_helps_41 : decode J_X12_helps.2.1 41 = .ok (.istore 5, 2) := by decide +kernel
theorem d_X12_helps_43 : decode J_X12_helps.2.1 43 = .ok (.iconst 0, 1) := by decide +kernel
theorem d_X12_helps_44 : decode J_X12_helps.2.1 44 = .ok (.istore 6, 2) := by decide +kernel
theorem d_X12_helps_46 : decode J_X12_helps.2.1 46 = .ok (.iload 6, 2) := by decide +kernel
theorem d_X12_helps_48 : decode J_X12_helps.2.1 48 = .ok (.aload_n 0, 1) := by decide +kernel
theorem d_X12_helps_49 : decode J_X12_helps.2.1 49 = .ok (.getfield 58, 3) := by decide +kernel
theorem d_X12_helps_52 : decode J_X12_helps.2.1 52 = .ok (.iload_n 1, 1) := by decide +kernel
theorem d_X12_helps_53 : decode J_X12_helps.2.1 53 = .ok (.iaload, 1) := by decide +kernel
theorem d_X12_helps_54 : decode J_X12_helps.2.1 54 = .ok (.if_icmp .ge 39, 3) := by decide +kernel
theorem d_X12_helps_57 : decode J_X12_helps.2.1 57 = .ok (.aload_n 0, 1) := by decide +kernel
theorem d_X12_helps_58 : decode J_X12_helps.2.1 58 = .ok (.iload_n 1, 1) := by decide +kernel
theorem d_X12_helps_59 : decode J_X12_helps.2.1 59 = .ok (.iload 6, 2) := by decide +kernel
theorem d_X12_helps_61 : decode J_X12_helps.2.1 61 = .ok (.iconst 1, 1) := by decide +kernel
theorem d_X12_helps_62 : decode J_X12_helps.2.1 62 = .ok (.invokevirtual 330, 3) := by decide +kernel
theorem d_X12_helps_65 : decode J_X12_helps.2.1 65 = .ok (.aload_n 0, 1) := by decide +kernel
theorem d_X12_helps_66 : decode J_X12_helps.2.1 66 = .ok (.iload_n 2, 1) := by decide +kernel
theorem d_X12_helps_67 : decode J_X12_helps.2.1 67 = .ok (.invokevirtual 286, 3) := by decide +kernel
theorem d_X12_helps_70 : decode J_X12_helps.2.1 70 = .ok (.istore 7, 2) := by decide +kernel
theorem d_X12_helps_72 : decode J_X12_helps.2.1 72 = .ok (.iload 7, 2) := by decide +kernel
theorem d_X12_helps_74 : decode J_X12_helps.2.1 74 = .ok (.iload 5, 2) := by decide +kernel
theorem d_X12_helps_76 : decode J_X12_helps.2.1 76 = .ok (.if_icmp .le 11, 3) := by decide +kernel
theorem d_X12_helps_79 : decode J_X12_helps.2.1 79 = .ok (.iload 6, 2) := by decide +kernel
theorem d_X12_helps_81 : decode J_X12_helps.2.1 81 = .ok (.istore 4, 2) := by decide +kernel
theorem d_X12_helps_83 : decode J_X12_helps.2.1 83 = .ok (.iload 7, 2) := by decide +kernel
theorem d_X12_helps_85 : decode J_X12_helps.2.1 85 = .ok (.istore 5, 2) := by decide +kernel
theorem d_X12_helps_87 : decode J_X12_helps.2.1 87 = .ok (.iinc 6 1, 3) := by decide +kernel
theorem d_X12_helps_90 : decode J_X12_helps.2.1 90 = .ok (.goto (-44), 3) := by decide +kernel
theorem d_X12_helps_93 : decode J_X12_helps.2.1 93 = .ok (.iload 4, 2) := by decide +kernel
theorem d_X12_helps_95 : decode J_X12_helps.2.1 95 = .ok (.ifCond .ge 8, 3) := by decide +kernel
theorem d_X12_helps_98 : decode J_X12_helps.2.1 98 = .ok (.bipush (-2), 2) := by decide +kernel
theorem d_X12_helps_100 : decode J_X12_helps.2.1 100 = .ok (.goto 14, 3) := by decide +kernel
theorem d_X12_helps_103 : decode J_X12_helps.2.1 103 = .ok (.iload_n 3, 1) := by decide +kernel
theorem d_X12_helps_104 : decode J_X12_helps.2.1 104 = .ok (.ifCond .ne 8, 3) := by decide +kernel
theorem d_X12_helps_107 : decode J_X12_helps.2.1 107 = .ok (.iload 4, 2) := by decide +kernel
theorem d_X12_helps_109 : decode J_X12_helps.2.1 109 = .ok (.goto 5, 3) := by decide +kernel
theorem d_X12_helps_112 : decode J_X12_helps.2.1 112 = .ok (.iload 5, 2) := by decide +kernel
theorem d_X12_helps_114 : decode J_X12_helps.2.1 114 = .ok (.ireturn, 1) := by decide +kernel
def f_X12_helps_87 (N : Nat) (K : oK) (r46 : (Int32 → Int32 → Int32 → Int32 → Int32 → Int32 → oM → Option (Int32 × oM))) (p1 : Int32) (p2 : Int32) (p3 : Int32) (p4 : Int32) (p5 : Int32) (p6 : Int32) (M : oM) : Option (Int32 × oM) :=
  (r46 p1 p2 p3 p4 p5 (p6 + 1) M)
set_option maxRecDepth 20000 in
theorem v_X12_helps_87 {X : oX} {d N : Nat} {K : oK} {r46 : (Int32 → Int32 → Int32 → Int32 → Int32 → Int32 → oM → Option (Int32 × oM))} {p1 : Int32} {p2 : Int32} {p3 : Int32} {p4 : Int32} {p5 : Int32} {p6 : Int32} {M : oM} {v : Int32} {M' : oM}  (hd : 6 ≤ d) (hK : oSR K)  (hr46 : ∀ (p1 : Int32) (p2 : Int32) (p3 : Int32) (p4 : Int32) (p5 : Int32) (p6 : Int32) (M : oM) (v : Int32) (M' : oM) , r46 p1 p2 p3 p4 p5 p6 M = some (v, M') → oEv X d J_X12_helps 46 [some (.ref 59), some (.int p1), some (.int p2), some (.int p3), some (.int p4), some (.int p5), some (.int p6), none] [] K M (some (.int v)) K M') (h : f_X12_helps_87 N K r46 p1 p2 p3 p4 p5 p6 M = some (v, M')) : oEv X d J_X12_helps 87 [some (.ref 59), some (.int p1), some (.int p2), some (.int p3), some (.int p4), some (.int p5), some (.int p6), none] [] K M (some (.int v)) K M' := by
  unfold f_X12_helps_87 at h
  refine oe_iinc (pc := 87) (v := (p6 + 1)) (L2 := [_, _, _, _, _, _, _, _]) d_X12_helps_87 rfl rfl rfl (Nat.le_of_ble_eq_true rfl) rfl ?_
  refine oe_goto (pc := 90) (tgt := 46) d_X12_helps_90 (by decide) ?_
  exact hr46 _ _ _ _ _ _ _ _ _ h
def f_X12_helps_46 (N : Nat) (K : oK)  : Nat → Int32 → Int32 → Int32 → Int32 → Int32 → Int32 → oM → Option (Int32 × oM)
  | 0, _, _, _, _, _, _, _ => none
  | n + 1, p1, p2, p3, p4, p5, p6, M => (fun r46 => oIx (p1) 20 ((if (M.1 76 (p1 : Int32).toNatClampNeg) ≤ p6 then (if 0 ≤ p4 then (if p3 = 0 then some (p4, M) else some (p5, M)) else some ((-2), M)) else oB2 (f_X12_thinkBut N K p1 p6 (1 : Int32) M) (fun v16 M17 => oB2 (f_X12_flowNow N K p2 M17) (fun v19 M20 => (if v19 ≤ p5 then (f_X12_helps_87 N K r46 p1 p2 p3 p4 p5 p6 M20) else (f_X12_helps_87 N K r46 p1 p2 p3 p6 v19 p6 M20))))))) (f_X12_helps_46 N K  n)
set_option maxRecDepth 20000 in
theorem v_X12_helps_46_L {X : oX} {d N : Nat} {K : oK}  (hd : 6 ≤ d) (hK : oSR K)  : ∀ (n : Nat) (p1 : Int32) (p2 : Int32) (p3 : Int32) (p4 : Int32) (p5 : Int32) (p6 : Int32) (M : oM) (v : Int32) (M' : oM)  , f_X12_helps_46 N K  n p1 p2 p3 p4 p5 p6 M = some (v, M') → oEv X d J_X12_helps 46 [some (.ref 59), some (.int p1), some (.int p2), some (.int p3), some (.int p4), some (.int p5), some (.int p6), none] [] K M (some (.int v)) K M' := by
  intro n
  induction n with
  | zero =>
    intro p1 p2 p3 p4 p5 p6 M v M'   h
    cases h
  | succ n hr46 =>
    intro p1 p2 p3 p4 p5 p6 M v M'   h
    refine oe_iload (pc := 46) d_X12_helps_46 rfl ?_
    refine oe_aload_n (pc := 48) d_X12_helps_48 rfl ?_
    refine oe_getr (pc := 49) d_X12_helps_49 fl_X12_58 ock12 (k := 24) (b := 76) (Nat.le_of_ble_eq_true rfl) (by decide) (oLt hK (a := 59) (Nat.le_of_ble_eq_true rfl)) (oSho hK (a := 59) (Nat.le_of_ble_eq_true rfl) rfl) (oRfK hK rfl) ?_
    refine oe_iload_n (pc := 52) d_X12_helps_52 rfl ?_
    obtain ⟨i12, h⟩ := oIx_some h
    refine oe_iald (pc := 53) d_X12_helps_53 (oLt hK (a := 76) (Nat.le_of_ble_eq_true rfl)) (oSha hK (a := 76) (Nat.le_of_ble_eq_true rfl) rfl) i12 ?_
    refine oe_icmp_ge (pc := 54) (tgt := 93) d_X12_helps_54 (by decide) (fun c13 => ?_) (fun c13 => ?_)
    · replace h := (if_pos c13).symm.trans h
      refine oe_iload (pc := 93) d_X12_helps_93 rfl ?_
      refine oe_if_ge (pc := 95) (tgt := 103) d_X12_helps_95 (by decide) (fun c14 => ?_) (fun c14 => ?_)
      · replace h := (if_pos c14).symm.trans h
        refine oe_iload_n (pc := 103) d_X12_helps_103 rfl ?_
        refine oe_if_ne (pc := 104) (tgt := 112) d_X12_helps_104 (by decide) (fun c15 => ?_) (fun c15 => ?_)
        · replace h := (if_neg c15).symm.trans h
          refine oe_iload (pc := 112) d_X12_helps_112 rfl ?_
          obtain ⟨rfl, rfl⟩ := oRes h
          exact oe_iret (pc := 114) d_X12_helps_114 ⟨_, rfl, rfl⟩
        · replace h := (if_pos c15).symm.trans h
          refine oe_iload (pc := 107) d_X12_helps_107 rfl ?_
          refine oe_goto (pc := 109) (tgt := 114) d_X12_helps_109 (by decide) ?_
          obtain ⟨rfl, rfl⟩ := oRes h
          exact oe_iret (pc := 114) d_X12_helps_114 ⟨_, rfl, rfl⟩
      · replace h := (if_neg c14).symm.trans h
        refine oe_bipush (pc := 98) (v := (-2)) d_X12_helps_98 rfl ?_
        refine oe_goto (pc := 100) (tgt := 114) d_X12_helps_100 (by decide) ?_
        obtain ⟨rfl, rfl⟩ := oRes h
        exact oe_iret (pc := 114) d_X12_helps_114 ⟨_, rfl, rfl⟩
    · replace h := (if_neg c13).symm.trans h
      refine oe_aload_n (pc := 57) d_X12_helps_57 rfl ?_
      refine oe_iload_n (pc := 58) d_X12_helps_58 rfl ?_
      refine oe_iload (pc := 59) d_X12_helps_59 rfl ?_
      refine oe_iconst (pc := 61) (v := 1) d_X12_helps_61 rfl ?_
      obtain ⟨v16, M17, q18, h⟩ := oB2_some h
      refine oe_callV (pc := 62) (ci := 12) d_X12_helps_62 (v_X12_thinkBut hK  q18) (by omega) ml_X12_330 jJ_X12_thinkBut rfl rfl (oLt hK (a := 59) (Nat.le_of_ble_eq_true rfl)) (oSho hK (a := 59) (Nat.le_of_ble_eq_true rfl) rfl) ock12 rfl (Nat.le_of_ble_eq_true rfl) ⟨Nat.le_refl _, Nat.le_refl _⟩ ⟨Nat.le_refl _, Nat.le_refl _⟩ ?_
      refine oe_aload_n (pc := 65) d_X12_helps_65 rfl ?_
      refine oe_iload_n (pc := 66) d_X12_helps_66 rfl ?_
      obtain ⟨v19, M20, q21, h⟩ := oB2_some h
      refine oe_callV (pc := 67) (ci := 12) d_X12_helps_67 (v_X12_flowNow hK  q21) (by omega) ml_X12_286 jJ_X12_flowNow rfl rfl (oLt hK (a := 59) (Nat.le_of_ble_eq_true rfl)) (oSho hK (a := 59) (Nat.le_of_ble_eq_true rfl) rfl) ock12 rfl (Nat.le_of_ble_eq_true rfl) ⟨Nat.le_refl _, Nat.le_refl _⟩ ⟨Nat.le_refl _, Nat.le_refl _⟩ ?_
      refine oe_istore (pc := 70) (L2 := [_, _, _, _, _, _, _, _]) d_X12_helps_70 rfl (Nat.le_of_ble_eq_true rfl) rfl ?_
      refine oe_iload (pc := 72) d_X12_helps_72 rfl ?_
      refine oe_iload (pc := 74) d_X12_helps_74 rfl ?_
      refine oe_icmp_le (pc := 76) (tgt := 87) d_X12_helps_76 (by decide) (fun c22 => ?_) (fun c22 => ?_)
      · replace h := (if_pos c22).symm.trans h
        refine oEv.fg [true, true, true, true, true, true, true, false] ?_
        exact v_X12_helps_87 hd hK  hr46 h
      · replace h := (if_neg c22).symm.trans h
        refine oe_iload (pc := 79) d_X12_helps_79 rfl ?_
        refine oe_istore (pc := 81) (L2 := [_, _, _, _, _, _, _, _]) d_X12_helps_81 rfl (Nat.le_of_ble_eq_true rfl) rfl ?_
        refine oe_iload (pc := 83) d_X12_helps_83 rfl ?_
        refine oe_istore (pc := 85) (L2 := [_, _, _, _, _, _, _, _]) d_X12_helps_85 rfl (Nat.le_of_ble_eq_true rfl) rfl ?_
        refine oEv.fg [true, true, true, true, true, true, true, false] ?_
        exact v_X12_helps_87 hd hK  hr46 h
theorem v_X12_helps_46 {X : oX} {d N : Nat} {K : oK}  {p1 : Int32} {p2 : Int32} {p3 : Int32} {p4 : Int32} {p5 : Int32} {p6 : Int32} {M : oM} {v : Int32} {M' : oM}  (hd : 6 ≤ d) (hK : oSR K)   (h : f_X12_helps_46 N K  N p1 p2 p3 p4 p5 p6 M = some (v, M')) : oEv X d J_X12_helps 46 [some (.ref 59), some (.int p1), some (.int p2), some (.int p3), some (.int p4), some (.int p5), some (.int p6), none] [] K M (some (.int v)) K M' := v_X12_helps_46_L hd hK  N p1 p2 p3 p4 p5 p6 M v M'   h
def f_X12_helps (N : Nat) (K : oK) (p1 : Int32) (p2 : Int32) (p3 : Int32) (M : oM) : Option (Int32 × oM) :=
  oB2 (f_X12_isLaying N K p1 M) (fun v1 M2 => cond v1 (oIx (p1) 20 ((if (M2.1 76 (p1 : Int32).toNatClampNeg) = 0 then some ((-1), M2) else oB2 (f_X12_isNeed N K p2 M2) (fun v6 M7 => cond v6 (oB2 (f_X12_within N K ((p3 : Int32).toInt64) 0 1 M7) (fun v9 M10 => cond v9 ((f_X12_helps_46 N K  N p1 p2 p3 (-2) (-1) 0 M10)) (some ((-1), M10)))) (some ((-1), M7)))))) (some ((-1), M2)))
set_option maxRecDepth 20000 in
theorem v_X12_helps {X : oX} {N : Nat} {K : oK} {p1 : Int32} {p2 : Int32} {p3 : Int32} {M : oM} {v : Int32} {M' : oM} (hK : oSR K)  (h : f_X12_helps N K p1 p2 p3 M = some (v, M')) : oMet X 6 J_X12_helps [(.ref 59), (.int p1), (.int p2), (.int p3)] K M (some (.int v)) K M' := by
  unfold f_X12_helps at h
  refine oMet_of (L := [some (.ref 59), some (.int p1), some (.int p2), some (.int p3), none, none, none, none]) jJ_X12_helps.1 rfl (Nat.le_of_ble_eq_true rfl) rfl (Nat.le_refl _) (Nat.le_refl _) ?_
  have hd : 6 ≤ 6 := Nat.le_refl _
  refine oe_aload_n (pc := 0) d_X12_helps_0 rfl ?_
  refine oe_iload_n (pc := 1) d_X12_helps_1 rfl ?_
  obtain ⟨v1, M2, q3, h⟩ := oB2_some h
  cases v1 with
  | true =>
    replace h := oCt h
    refine oe_callV (pc := 2) (ci := 12) d_X12_helps_2 (v_X12_isLaying hK  q3) (by omega) ml_X12_230 jJ_X12_isLaying rfl rfl (oLt hK (a := 59) (Nat.le_of_ble_eq_true rfl)) (oSho hK (a := 59) (Nat.le_of_ble_eq_true rfl) rfl) ock12 rfl (Nat.le_of_ble_eq_true rfl) ⟨Nat.le_refl _, Nat.le_refl _⟩ ⟨Nat.le_refl _, Nat.le_refl _⟩ ?_
    refine oe_if_eq (pc := 5) (tgt := 34) d_X12_helps_5 (by decide) (fun c => absurd c (by decide)) (fun _ => ?_)
    refine oe_aload_n (pc := 8) d_X12_helps_8 rfl ?_
    refine oe_getr (pc := 9) d_X12_helps_9 fl_X12_58 ock12 (k := 24) (b := 76) (Nat.le_of_ble_eq_true rfl) (by decide) (oLt hK (a := 59) (Nat.le_of_ble_eq_true rfl)) (oSho hK (a := 59) (Nat.le_of_ble_eq_true rfl) rfl) (oRfK hK rfl) ?_
    refine oe_iload_n (pc := 12) d_X12_helps_12 rfl ?_
    obtain ⟨i4, h⟩ := oIx_some h
    refine oe_iald (pc := 13) d_X12_helps_13 (oLt hK (a := 76) (Nat.le_of_ble_eq_true rfl)) (oSha hK (a := 76) (Nat.le_of_ble_eq_true rfl) rfl) i4 ?_
    refine oe_if_eq (pc := 14) (tgt := 34) d_X12_helps_14 (by decide) (fun c5 => ?_) (fun c5 => ?_)
    · replace h := (if_pos c5).symm.trans h
      refine oe_iconst (pc := 34) (v := (-1)) d_X12_helps_34 rfl ?_
      obtain ⟨rfl, rfl⟩ := oRes h
      exact oe_iret (pc := 35) d_X12_helps_35 ⟨_, rfl, rfl⟩
    · replace h := (if_neg c5).symm.trans h
      refine oe_iload_n (pc := 17) d_X12_helps_17 rfl ?_
      obtain ⟨v6, M7, q8, h⟩ := oB2_some h
      cases v6 with
      | true =>
        replace h := oCt h
        refine oe_callS (pc := 18) d_X12_helps_18 (v_X12_isNeed hK  q8) (by omega) ml_X12_283 jJ_X12_isNeed rfl rfl (Nat.le_of_ble_eq_true rfl) ⟨Nat.le_refl _, Nat.le_refl _⟩ ⟨Nat.le_refl _, Nat.le_refl _⟩ ?_
        refine oe_if_eq (pc := 21) (tgt := 34) d_X12_helps_21 (by decide) (fun c => absurd c (by decide)) (fun _ => ?_)
        refine oe_iload_n (pc := 24) d_X12_helps_24 rfl ?_
        refine oe_i2l (pc := 25) d_X12_helps_25 ?_
        refine oe_lconst (pc := 26) (v := 0) d_X12_helps_26 rfl ?_
        refine oe_lconst (pc := 27) (v := 1) d_X12_helps_27 rfl ?_
        obtain ⟨v9, M10, q11, h⟩ := oB2_some h
        cases v9 with
        | true =>
          replace h := oCt h
          refine oe_callS (pc := 28) d_X12_helps_28 (v_X12_within hK  q11) (by omega) ml_X12_145 jJ_X12_within rfl rfl (Nat.le_of_ble_eq_true rfl) ⟨Nat.le_refl _, Nat.le_refl _⟩ ⟨Nat.le_refl _, Nat.le_refl _⟩ ?_
          refine oe_if_ne (pc := 31) (tgt := 36) d_X12_helps_31 (by decide) (fun _ => ?_) (fun c => absurd c (by decide))
          refine oe_bipush (pc := 36) (v := (-2)) d_X12_helps_36 rfl ?_
          refine oe_istore (pc := 38) (L2 := [_, _, _, _, _, _, _, _]) d_X12_helps_38 rfl (Nat.le_of_ble_eq_true rfl) rfl ?_
          refine oe_iconst (pc := 40) (v := (-1)) d_X12_helps_40 rfl ?_
          refine oe_istore (pc := 41) (L2 := [_, _, _, _, _, _, _, _]) d_X12_helps_41 rfl (Nat.le_of_ble_eq_true rfl) rfl ?_
          refine oe_iconst (pc := 43) (v := 0) d_X12_helps_43 rfl ?_
          refine oe_istore (pc := 44) (L2 := [_, _, _, _, _, _, _, _]) d_X12_helps_44 rfl (Nat.le_of_ble_eq_true rfl) rfl ?_
          exact v_X12_helps_46 hd hK   h
        | false =>
          replace h := oCf h
          refine oe_callS (pc := 28) d_X12_helps_28 (v_X12_within hK  q11) (by omega) ml_X12_145 jJ_X12_within rfl rfl (Nat.le_of_ble_eq_true rfl) ⟨Nat.le_refl _, Nat.le_refl _⟩ ⟨Nat.le_refl _, Nat.le_refl _⟩ ?_
          refine oe_if_ne (pc := 31) (tgt := 36) d_X12_helps_31 (by decide) (fun c => absurd (by decide) c) (fun _ => ?_)
          refine oe_iconst (pc := 34) (v := (-1)) d_X12_helps_34 rfl ?_
          obtain ⟨rfl, rfl⟩ := oRes h
          exact oe_iret (pc := 35) d_X12_helps_35 ⟨_, rfl, rfl⟩
      | false =>
        replace h := oCf h
        refine oe_callS (pc := 18) d_X12_helps_18 (v_X12_isNeed hK  q8) (by omega) ml_X12_283 jJ_X12_isNeed rfl rfl (Nat.le_of_ble_eq_true rfl) ⟨Nat.le_refl _, Nat.le_refl _⟩ ⟨Nat.le_refl _, Nat.le_refl _⟩ ?_
        refine oe_if_eq (pc := 21) (tgt := 34) d_X12_helps_21 (by decide) (fun _ => ?_) (fun c => absurd (by decide) c)
        refine oe_iconst (pc := 34) (v := (-1)) d_X12_helps_34 rfl ?_
        obtain ⟨rfl, rfl⟩ := oRes h
        exact oe_iret (pc := 35) d_X12_helps_35 ⟨_, rfl, rfl⟩
  | false =>
    replace h := oCf h
    refine oe_callV (pc := 2) (ci := 12) d_X12_helps_2 (v_X12_isLaying hK  q3) (by omega) ml_X12_230 jJ_X12_isLaying rfl rfl (oLt hK (a := 59) (Nat.le_of_ble_eq_true rfl)) (oSho hK (a := 59) (Nat.le_of_ble_eq_true rfl) rfl) ock12 rfl (Nat.le_of_ble_eq_true rfl) ⟨Nat.le_refl _, Nat.le_refl _⟩ ⟨Nat.le_refl _, Nat.le_refl _⟩ ?_
    refine oe_if_eq (pc := 5) (tgt := 34) d_X12_helps_5 (by decide) (fun _ => ?_) (fun c => absurd (by decide) c)
    refine oe_iconst (pc := 34) (v := (-1)) d_X12_helps_34 rfl ?_
    obtain ⟨rfl, rfl⟩ := oRes h
    exact oe_iret (pc := 35) d_X12_helps_35 ⟨_, rfl, rfl⟩
theorem d_X12_goes_0 : decode J_X12_goes.2.1 0 = .ok (.aload_n 0, 1) := by decide +kernel
theorem d_X12_goes_1 : decode J_X12_goes.2.1 1 = .ok (.iload_n 1, 1) := by decide +kernel
theorem d_X12_goes_2 : decode J_X12_goes.2.1 2 = .ok (.iload_n 2, 1) := by decide +kernel
theorem d_X12_goes_3 : decode J_X12_goes.2.1 3 = .ok (.iconst 1, 1) := by decide +kernel
theorem d_X12_goes_4 : decode J_X12_goes.2.1 4 = .ok (.invokevirtual 323, 3) := by decide +kernel
theorem d_X12_goes_7 : decode J_X12_goes.2.1 7 = .ok (.ifCond .eq 10, 3) := by decide +kernel
theorem d_X12_goes_10 : decode J_X12_goes.2.1 10 = .ok (.iload_n 3, 1) := by decide +kernel
theorem d_X12_goes_11 : decode J_X12_goes.2.1 11 = .ok (.invokestatic 283, 3) := by decide +kernel
theorem d_X12_goes_14 : decode J_X12_goes.2.1 14 = .ok (.ifCond .ne 5, 3) := by decide +kernel
theorem d_X12_goes_17 : decode J_X12_goes.2.1 17 = .ok (.iconst (-1), 1) := by decide +kernel
theorem d_X12_goes_18 : decode J_X12_goes.2.1 18 = .ok (.ireturn, 1) := by decide +kernel
theorem d_X12_goes_19 : decode J_X12_goes.2.1 19 = .ok (.aload_n 0, 1) := by decide +kernel
theorem d_X12_goes_20 : decode J_X12_goes.2.1 20 = .ok (.iload_n 1, 1) := by decide +kernel
theorem d_X12_goes_21 : decode J_X12_goes.2.1 21 = .ok (.invokevirtual 275, 3) := by decide +kernel
theorem d_X12_goes_24 : decode J_X12_goes.2.1 24 = .ok (.aload_n 0, 1) := by decide +kernel
theorem d_X12_goes_25 : decode J_X12_goes.2.1 25 = .ok (.getfield 83, 3) := by decide +kernel
theorem d_X12_goes_28 : decode J_X12_goes.2.1 28 = .ok (.iload_n 2, 1) := by decide +kernel
theorem d_X12_goes_29 : decode J_X12_goes.2.1 29 = .ok (.iaload, 1) := by decide +kernel
theorem d_X12_goes_30 : decode J_X12_goes.2.1 30 = .ok (.iconst 1, 1) := by decide +kernel
theorem d_X12_goes_31 : decode J_X12_goes.2.1 31 = .ok (.if_icmp .ne 5, 3) := by decide +kernel
theorem d_X12_goes_34 : decode J_X12_goes.2.1 34 = .ok (.iconst 0, 1) := by decide +kernel
theorem d_X12_goes_35 : decode J_X12_goes.2.1 35 = .ok (.ireturn, 1) := by decide +kernel
theorem d_X12_goes_36 : decode J_X12_goes.2.1 36 = .ok (.aload_n 0, 1) := by decide +kernel
theorem d_X12_goes_37 : decode J_X12_goes.2.1 37 = .ok (.getfield 83, 3) := by decide +kernel
theorem d_X12_goes_40 : decode J_X12_goes.2.1 40 = .ok (.iload_n 2, 1) := by decide +kernel
theorem d_X12_goes_41 : decode J_X12_goes.2.1 41 = .ok (.iconst 1, 1) := by decide +kernel
theorem d_X12_goes_42 : decode J_X12_goes.2.1 42 = .ok (.iastore, 1) := by decide +kernel
theorem d_X12_goes_43 : decode J_X12_goes.2.1 43 = .ok (.aload_n 0, 1) := by decide +kernel
theorem d_X12_goes_44 : decode J_X12_goes.2.1 44 = .ok (.iload_n 3, 1) := by decide +kernel
theorem d_X12_goes_45 : decode J_X12_goes.2.1 45 = .ok (.invokevirtual 286, 3) := by decide +kernel
theorem d_X12_goes_48 : decode J_X12_goes.2.1 48 = .ok (.invokestatic 327, 3) := by decide +kernel
theorem d_X12_goes_51 : decode J_X12_goes.2.1 51 = .ok (.ireturn, 1) := by decide +kernel
def f_X12_goes (N : Nat) (K : oK) (p1 : Int32) (p2 : Int32) (p3 : Int32) (M : oM) : Option (Int32 × oM) :=
  oB2 (f_X12_isPart N K p1 p2 (1 : Int32) M) (fun v1 M2 => cond v1 (oB2 (f_X12_isNeed N K p3 M2) (fun v4 M5 => cond v4 (oB2 (f_X12_think N K p1 M5) (fun v7 M8 => oIx (p2) 25 ((if (M8.1 84 (p2 : Int32).toNatClampNeg) = 1 then some (0, M8) else oIx (p2) 25 (oB2 (f_X12_flowNow N K p3 (oUp M8 84 (p2 : Int32).toNatClampNeg (1 : Int32))) (fun v13 M14 => oB2 (f_X12_orNone N K v13 M14) (fun v16 M17 => some (v16, M17)))))))) (some ((-1), M5)))) (some ((-1), M2)))
set_option maxRecDepth 20000 in
theorem v_X12_goes {X : oX} {N : Nat} {K : oK} {p1 : Int32} {p2 : Int32} {p3 : Int32} {M : oM} {v : Int32} {M' : oM} (hK : oSR K)  (h : f_X12_goes N K p1 p2 p3 M = some (v, M')) : oMet X 6 J_X12_goes [(.ref 59), (.int p1), (.int p2), (.int p3)] K M (some (.int v)) K M' := by
  unfold f_X12_goes at h
  refine oMet_of (L := [some (.ref 59), some (.int p1), some (.int p2), some (.int p3)]) jJ_X12_goes.1 rfl (Nat.le_of_ble_eq_true rfl) rfl (Nat.le_refl _) (Nat.le_refl _) ?_
  have hd : 6 ≤ 6 := Nat.le_refl _
  refine oe_aload_n (pc := 0) d_X12_goes_0 rfl ?_
  refine oe_iload_n (pc := 1) d_X12_goes_1 rfl ?_
  refine oe_iload_n (pc := 2) d_X12_goes_2 rfl ?_
  refine oe_iconst (pc := 3) (v := 1) d_X12_goes_3 rfl ?_
  obtain ⟨v1, M2, q3, h⟩ := oB2_some h
  cases v1 with
  | true =>
    replace h := oCt h
    refine oe_callV (pc := 4) (ci := 12) d_X12_goes_4 (v_X12_isPart hK  q3) (by omega) ml_X12_323 jJ_X12_isPart rfl rfl (oLt hK (a := 59) (Nat.le_of_ble_eq_true rfl)) (oSho hK (a := 59) (Nat.le_of_ble_eq_true rfl) rfl) ock12 rfl (Nat.le_of_ble_eq_true rfl) ⟨Nat.le_refl _, Nat.le_refl _⟩ ⟨Nat.le_refl _, Nat.le_refl _⟩ ?_
    refine oe_if_eq (pc := 7) (tgt := 17) d_X12_goes_7 (by decide) (fun c => absurd c (by decide)) (fun _ => ?_)
    refine oe_iload_n (pc := 10) d_X12_goes_10 rfl ?_
    obtain ⟨v4, M5, q6, h⟩ := oB2_some h
    cases v4 with
    | true =>
      replace h := oCt h
      refine oe_callS (pc := 11) d_X12_goes_11 (v_X12_isNeed hK  q6) (by omega) ml_X12_283 jJ_X12_isNeed rfl rfl (Nat.le_of_ble_eq_true rfl) ⟨Nat.le_refl _, Nat.le_refl _⟩ ⟨Nat.le_refl _, Nat.le_refl _⟩ ?_
      refine oe_if_ne (pc := 14) (tgt := 19) d_X12_goes_14 (by decide) (fun _ => ?_) (fun c => absurd c (by decide))
      refine oe_aload_n (pc := 19) d_X12_goes_19 rfl ?_
      refine oe_iload_n (pc := 20) d_X12_goes_20 rfl ?_
      obtain ⟨v7, M8, q9, h⟩ := oB2_some h
      refine oe_callV (pc := 21) (ci := 12) d_X12_goes_21 (v_X12_think hK  q9) (by omega) ml_X12_275 jJ_X12_think rfl rfl (oLt hK (a := 59) (Nat.le_of_ble_eq_true rfl)) (oSho hK (a := 59) (Nat.le_of_ble_eq_true rfl) rfl) ock12 rfl (Nat.le_of_ble_eq_true rfl) ⟨Nat.le_refl _, Nat.le_refl _⟩ ⟨Nat.le_refl _, Nat.le_refl _⟩ ?_
      refine oe_aload_n (pc := 24) d_X12_goes_24 rfl ?_
      refine oe_getr (pc := 25) d_X12_goes_25 fl_X12_83 ock12 (k := 35) (b := 84) (Nat.le_of_ble_eq_true rfl) (by decide) (oLt hK (a := 59) (Nat.le_of_ble_eq_true rfl)) (oSho hK (a := 59) (Nat.le_of_ble_eq_true rfl) rfl) (oRfK hK rfl) ?_
      refine oe_iload_n (pc := 28) d_X12_goes_28 rfl ?_
      obtain ⟨i10, h⟩ := oIx_some h
      refine oe_iald (pc := 29) d_X12_goes_29 (oLt hK (a := 84) (Nat.le_of_ble_eq_true rfl)) (oSha hK (a := 84) (Nat.le_of_ble_eq_true rfl) rfl) i10 ?_
      refine oe_iconst (pc := 30) (v := 1) d_X12_goes_30 rfl ?_
      refine oe_icmp_ne (pc := 31) (tgt := 36) d_X12_goes_31 (by decide) (fun c11 => ?_) (fun c11 => ?_)
      · replace h := (if_neg c11).symm.trans h
        refine oe_aload_n (pc := 36) d_X12_goes_36 rfl ?_
        refine oe_getr (pc := 37) d_X12_goes_37 fl_X12_83 ock12 (k := 35) (b := 84) (Nat.le_of_ble_eq_true rfl) (by decide) (oLt hK (a := 59) (Nat.le_of_ble_eq_true rfl)) (oSho hK (a := 59) (Nat.le_of_ble_eq_true rfl) rfl) (oRfK hK rfl) ?_
        refine oe_iload_n (pc := 40) d_X12_goes_40 rfl ?_
        refine oe_iconst (pc := 41) (v := 1) d_X12_goes_41 rfl ?_
        obtain ⟨i12, h⟩ := oIx_some h
        refine oe_iast (pc := 42) d_X12_goes_42 (oLt hK (a := 84) (Nat.le_of_ble_eq_true rfl)) (oSha hK (a := 84) (Nat.le_of_ble_eq_true rfl) rfl) i12 ?_
        refine oe_aload_n (pc := 43) d_X12_goes_43 rfl ?_
        refine oe_iload_n (pc := 44) d_X12_goes_44 rfl ?_
        obtain ⟨v13, M14, q15, h⟩ := oB2_some h
        refine oe_callV (pc := 45) (ci := 12) d_X12_goes_45 (v_X12_flowNow hK  q15) (by omega) ml_X12_286 jJ_X12_flowNow rfl rfl (oLt hK (a := 59) (Nat.le_of_ble_eq_true rfl)) (oSho hK (a := 59) (Nat.le_of_ble_eq_true rfl) rfl) ock12 rfl (Nat.le_of_ble_eq_true rfl) ⟨Nat.le_refl _, Nat.le_refl _⟩ ⟨Nat.le_refl _, Nat.le_refl _⟩ ?_
        obtain ⟨v16, M17, q18, h⟩ := oB2_some h
        refine oe_callS (pc := 48) d_X12_goes_48 (v_X12_orNone hK  q18) (by omega) ml_X12_327 jJ_X12_orNone rfl rfl (Nat.le_of_ble_eq_true rfl) ⟨Nat.le_refl _, Nat.le_refl _⟩ ⟨Nat.le_refl _, Nat.le_refl _⟩ ?_
        obtain ⟨rfl, rfl⟩ := oRes h
        exact oe_iret (pc := 51) d_X12_goes_51 ⟨_, rfl, rfl⟩
      · replace h := (if_pos c11).symm.trans h
        refine oe_iconst (pc := 34) (v := 0) d_X12_goes_34 rfl ?_
        obtain ⟨rfl, rfl⟩ := oRes h
        exact oe_iret (pc := 35) d_X12_goes_35 ⟨_, rfl, rfl⟩
    | false =>
      replace h := oCf h
      refine oe_callS (pc := 11) d_X12_goes_11 (v_X12_isNeed hK  q6) (by omega) ml_X12_283 jJ_X12_isNeed rfl rfl (Nat.le_of_ble_eq_true rfl) ⟨Nat.le_refl _, Nat.le_refl _⟩ ⟨Nat.le_refl _, Nat.le_refl _⟩ ?_
      refine oe_if_ne (pc := 14) (tgt := 19) d_X12_goes_14 (by decide) (fun c => absurd (by decide) c) (fun _ => ?_)
      refine oe_iconst (pc := 17) (v := (-1)) d_X12_goes_17 rfl ?_
      obtain ⟨rfl, rfl⟩ := oRes h
      exact oe_iret (pc := 18) d_X12_goes_18 ⟨_, rfl, rfl⟩
  | false =>
    replace h := oCf h
    refine oe_callV (pc := 4) (ci := 12) d_X12_goes_4 (v_X12_isPart hK  q3) (by omega) ml_X12_323 jJ_X12_isPart rfl rfl (oLt hK (a := 59) (Nat.le_of_ble_eq_true rfl)) (oSho hK (a := 59) (Nat.le_of_ble_eq_true rfl) rfl) ock12 rfl (Nat.le_of_ble_eq_true rfl) ⟨Nat.le_refl _, Nat.le_refl _⟩ ⟨Nat.le_refl _, Nat.le_refl _⟩ ?_
    refine oe_if_eq (pc := 7) (tgt := 17) d_X12_goes_7 (by decide) (fun _ => ?_) (fun c => absurd (by decide) c)
    refine oe_iconst (pc := 17) (v := (-1)) d_X12_goes_17 rfl ?_
    obtain ⟨rfl, rfl⟩ := oRes h
    exact oe_iret (pc := 18) d_X12_goes_18 ⟨_, rfl, rfl⟩
theorem d_X12_changed_0 : decode J_X12_changed.2.1 0 = .ok (.aload_n 0, 1) := by decide +kernel
theorem d_X12_changed_1 : decode J_X12_changed.2.1 1 = .ok (.iload_n 1, 1) := by decide +kernel
theorem d_X12_changed_2 : decode J_X12_changed.2.1 2 = .ok (.iload_n 2, 1) := by decide +kernel
theorem d_X12_changed_3 : decode J_X12_changed.2.1 3 = .ok (.iconst 1, 1) := by decide +kernel
theorem d_X12_changed_4 : decode J_X12_changed.2.1 4 = .ok (.invokevirtual 323, 3) := by decide +kernel
theorem d_X12_changed_7 : decode J_X12_changed.2.1 7 = .ok (.ifCond .ne 5, 3) := by decide +kernel
theorem d_X12_changed_10 : decode J_X12_changed.2.1 10 = .ok (.iconst (-1), 1) := by decide +kernel
theorem d_X12_changed_11 : decode J_X12_changed.2.1 11 = .ok (.ireturn, 1) := by decide +kernel
theorem d_X12_changed_12 : decode J_X12_changed.2.1 12 = .ok (.aload_n 0, 1) := by decide +kernel
theorem d_X12_changed_13 : decode J_X12_changed.2.1 13 = .ok (.iload_n 1, 1) := by decide +kernel
theorem d_X12_changed_14 : decode J_X12_changed.2.1 14 = .ok (.invokevirtual 275, 3) := by decide +kernel
theorem d_X12_changed_17 : decode J_X12_changed.2.1 17 = .ok (.aload_n 0, 1) := by decide +kernel
theorem d_X12_changed_18 : decode J_X12_changed.2.1 18 = .ok (.getfield 83, 3) := by decide +kernel
theorem d_X12_changed_21 : decode J_X12_changed.2.1 21 = .ok (.iload_n 2, 1) := by decide +kernel
theorem d_X12_changed_22 : decode J_X12_changed.2.1 22 = .ok (.iaload, 1) := by decide +kernel
theorem d_X12_changed_23 : decode J_X12_changed.2.1 23 = .ok (.iconst 2, 1) := by decide +kernel
theorem d_X12_changed_24 : decode J_X12_changed.2.1 24 = .ok (.if_icmp .ne 7, 3) := by decide +kernel
theorem d_X12_changed_27 : decode J_X12_changed.2.1 27 = .ok (.iconst 0, 1) := by decide +kernel
theorem d_X12_changed_28 : decode J_X12_changed.2.1 28 = .ok (.goto 20, 3) := by decide +kernel
theorem d_X12_changed_31 : decode J_X12_changed.2.1 31 = .ok (.aload_n 0, 1) := by decide +kernel
theorem d_X12_changed_32 : decode J_X12_changed.2.1 32 = .ok (.getfield 28, 3) := by decide +kernel
theorem d_X12_changed_35 : decode J_X12_changed.2.1 35 = .ok (.aload_n 0, 1) := by decide +kernel
theorem d_X12_changed_36 : decode J_X12_changed.2.1 36 = .ok (.getfield 77, 3) := by decide +kernel
theorem d_X12_changed_39 : decode J_X12_changed.2.1 39 = .ok (.iload_n 2, 1) := by decide +kernel
theorem d_X12_changed_40 : decode J_X12_changed.2.1 40 = .ok (.iaload, 1) := by decide +kernel
theorem d_X12_changed_41 : decode J_X12_changed.2.1 41 = .ok (.iaload, 1) := by decide +kernel
theorem d_X12_changed_42 : decode J_X12_changed.2.1 42 = .ok (.iconst 4, 1) := by decide +kernel
theorem d_X12_changed_43 : decode J_X12_changed.2.1 43 = .ok (.iadd, 1) := by decide +kernel
theorem d_X12_changed_44 : decode J_X12_changed.2.1 44 = .ok (.iconst 5, 1) := by decide +kernel
theorem d_X12_changed_45 : decode J_X12_changed.2.1 45 = .ok (.idiv, 1) := by decide +kernel
theorem d_X12_changed_46 : decode J_X12_changed.2.1 46 = .ok (.iconst 1, 1) := by decide +kernel
theorem d_X12_changed_47 : decode J_X12_changed.2.1 47 = .ok (.iadd, 1) := by decide +kernel
theorem d_X12_changed_48 : decode J_X12_changed.2.1 48 = .ok (.ireturn, 1) := by decide +kernel
def f_X12_changed (N : Nat) (K : oK) (p1 : Int32) (p2 : Int32) (M : oM) : Option (Int32 × oM) :=
  oB2 (f_X12_isPart N K p1 p2 (1 : Int32) M) (fun v1 M2 => cond v1 (oB2 (f_X12_think N K p1 M2) (fun v4 M5 => oIx (p2) 25 ((if (M5.1 84 (p2 : Int32).toNatClampNeg) = 2 then some (0, M5) else oIx (p2) 25 (oIx ((M5.1 82 (p2 : Int32).toNatClampNeg)) 20 (some (((((M5.1 66 ((M5.1 82 (p2 : Int32).toNatClampNeg) : Int32).toNatClampNeg) + 4) / 5) + 1), M5))))))) (some ((-1), M2)))
set_option maxRecDepth 20000 in
theorem v_X12_changed {X : oX} {N : Nat} {K : oK} {p1 : Int32} {p2 : Int32} {M : oM} {v : Int32} {M' : oM} (hK : oSR K)  (h : f_X12_changed N K p1 p2 M = some (v, M')) : oMet X 4 J_X12_changed [(.ref 59), (.int p1), (.int p2)] K M (some (.int v)) K M' := by
  unfold f_X12_changed at h
  refine oMet_of (L := [some (.ref 59), some (.int p1), some (.int p2)]) jJ_X12_changed.1 rfl (Nat.le_of_ble_eq_true rfl) rfl (Nat.le_refl _) (Nat.le_refl _) ?_
  have hd : 4 ≤ 4 := Nat.le_refl _
  refine oe_aload_n (pc := 0) d_X12_changed_0 rfl ?_
  refine oe_iload_n (pc := 1) d_X12_changed_1 rfl ?_
  refine oe_iload_n (pc := 2) d_X12_changed_2 rfl ?_
  refine oe_iconst (pc := 3) (v := 1) d_X12_changed_3 rfl ?_
  obtain ⟨v1, M2, q3, h⟩ := oB2_some h
  cases v1 with
  | true =>
    replace h := oCt h
    refine oe_callV (pc := 4) (ci := 12) d_X12_changed_4 (v_X12_isPart hK  q3) (by omega) ml_X12_323 jJ_X12_isPart rfl rfl (oLt hK (a := 59) (Nat.le_of_ble_eq_true rfl)) (oSho hK (a := 59) (Nat.le_of_ble_eq_true rfl) rfl) ock12 rfl (Nat.le_of_ble_eq_true rfl) ⟨Nat.le_refl _, Nat.le_refl _⟩ ⟨Nat.le_refl _, Nat.le_refl _⟩ ?_
    refine oe_if_ne (pc := 7) (tgt := 12) d_X12_changed_7 (by decide) (fun _ => ?_) (fun c => absurd c (by decide))
    refine oe_aload_n (pc := 12) d_X12_changed_12 rfl ?_
    refine oe_iload_n (pc := 13) d_X12_changed_13 rfl ?_
    obtain ⟨v4, M5, q6, h⟩ := oB2_some h
    refine oe_callV (pc := 14) (ci := 12) d_X12_changed_14 (v_X12_think hK  q6) (by omega) ml_X12_275 jJ_X12_think rfl rfl (oLt hK (a := 59) (Nat.le_of_ble_eq_true rfl)) (oSho hK (a := 59) (Nat.le_of_ble_eq_true rfl) rfl) ock12 rfl (Nat.le_of_ble_eq_true rfl) ⟨Nat.le_refl _, Nat.le_refl _⟩ ⟨Nat.le_refl _, Nat.le_refl _⟩ ?_
    refine oe_aload_n (pc := 17) d_X12_changed_17 rfl ?_
    refine oe_getr (pc := 18) d_X12_changed_18 fl_X12_83 ock12 (k := 35) (b := 84) (Nat.le_of_ble_eq_true rfl) (by decide) (oLt hK (a := 59) (Nat.le_of_ble_eq_true rfl)) (oSho hK (a := 59) (Nat.le_of_ble_eq_true rfl) rfl) (oRfK hK rfl) ?_
    refine oe_iload_n (pc := 21) d_X12_changed_21 rfl ?_
    obtain ⟨i7, h⟩ := oIx_some h
    refine oe_iald (pc := 22) d_X12_changed_22 (oLt hK (a := 84) (Nat.le_of_ble_eq_true rfl)) (oSha hK (a := 84) (Nat.le_of_ble_eq_true rfl) rfl) i7 ?_
    refine oe_iconst (pc := 23) (v := 2) d_X12_changed_23 rfl ?_
    refine oe_icmp_ne (pc := 24) (tgt := 31) d_X12_changed_24 (by decide) (fun c8 => ?_) (fun c8 => ?_)
    · replace h := (if_neg c8).symm.trans h
      refine oe_aload_n (pc := 31) d_X12_changed_31 rfl ?_
      refine oe_getr (pc := 32) d_X12_changed_32 fl_X12_28 ock12 (k := 10) (b := 66) (Nat.le_of_ble_eq_true rfl) (by decide) (oLt hK (a := 59) (Nat.le_of_ble_eq_true rfl)) (oSho hK (a := 59) (Nat.le_of_ble_eq_true rfl) rfl) (oRfK hK rfl) ?_
      refine oe_aload_n (pc := 35) d_X12_changed_35 rfl ?_
      refine oe_getr (pc := 36) d_X12_changed_36 fl_X12_77 ock12 (k := 33) (b := 82) (Nat.le_of_ble_eq_true rfl) (by decide) (oLt hK (a := 59) (Nat.le_of_ble_eq_true rfl)) (oSho hK (a := 59) (Nat.le_of_ble_eq_true rfl) rfl) (oRfK hK rfl) ?_
      refine oe_iload_n (pc := 39) d_X12_changed_39 rfl ?_
      obtain ⟨i9, h⟩ := oIx_some h
      refine oe_iald (pc := 40) d_X12_changed_40 (oLt hK (a := 82) (Nat.le_of_ble_eq_true rfl)) (oSha hK (a := 82) (Nat.le_of_ble_eq_true rfl) rfl) i9 ?_
      obtain ⟨i10, h⟩ := oIx_some h
      refine oe_iald (pc := 41) d_X12_changed_41 (oLt hK (a := 66) (Nat.le_of_ble_eq_true rfl)) (oSha hK (a := 66) (Nat.le_of_ble_eq_true rfl) rfl) i10 ?_
      refine oe_iconst (pc := 42) (v := 4) d_X12_changed_42 rfl ?_
      refine oe_iadd (pc := 43) d_X12_changed_43 ?_
      refine oe_iconst (pc := 44) (v := 5) d_X12_changed_44 rfl ?_
      refine oe_idiv (pc := 45) d_X12_changed_45 (by decide) ?_
      refine oe_iconst (pc := 46) (v := 1) d_X12_changed_46 rfl ?_
      refine oe_iadd (pc := 47) d_X12_changed_47 ?_
      obtain ⟨rfl, rfl⟩ := oRes h
      exact oe_iret (pc := 48) d_X12_changed_48 ⟨_, rfl, rfl⟩
    · replace h := (if_pos c8).symm.trans h
      refine oe_iconst (pc := 27) (v := 0) d_X12_changed_27 rfl ?_
      refine oe_goto (pc := 28) (tgt := 48) d_X12_changed_28 (by decide) ?_
      obtain ⟨rfl, rfl⟩ := oRes h
      exact oe_iret (pc := 48) d_X12_changed_48 ⟨_, rfl, rfl⟩
  | false =>
    replace h := oCf h
    refine oe_callV (pc := 4) (ci := 12) d_X12_changed_4 (v_X12_isPart hK  q3) (by omega) ml_X12_323 jJ_X12_isPart rfl rfl (oLt hK (a := 59) (Nat.le_of_ble_eq_true rfl)) (oSho hK (a := 59) (Nat.le_of_ble_eq_true rfl) rfl) ock12 rfl (Nat.le_of_ble_eq_true rfl) ⟨Nat.le_refl _, Nat.le_refl _⟩ ⟨Nat.le_refl _, Nat.le_refl _⟩ ?_
    refine oe_if_ne (pc := 7) (tgt := 12) d_X12_changed_7 (by decide) (fun c => absurd (by decide) c) (fun _ => ?_)
    refine oe_iconst (pc := 10) (v := (-1)) d_X12_changed_10 rfl ?_
    obtain ⟨rfl, rfl⟩ := oRes h
    exact oe_iret (pc := 11) d_X12_changed_11 ⟨_, rfl, rfl⟩
theorem d_X12_load_0 : decode J_X12_load.2.1 0 = .ok (.iload_n 1, 1) := by decide +kernel
theorem d_X12_load_1 : decode J_X12_load.2.1 1 = .ok (.i2l, 1) := by decide +kernel
theorem d_X12_load_2 : decode J_X12_load.2.1 2 = .ok (.lconst 1, 1) := by decide +kernel
theorem d_X12_load_3 : decode J_X12_load.2.1 3 = .ok (.ldc2_w 174, 3) := by decide +kernel
theorem d_X12_load_6 : decode J_X12_load.2.1 6 = .ok (.invokestatic 145, 3) := by decide +kernel
theorem d_X12_load_9 : decode J_X12_load.2.1 9 = .ok (.ifCond .ne 5, 3) := by decide +kernel
theorem d_X12_load_12 : decode J_X12_load.2.1 12 = .ok (.iconst (-1), 1) := by decide +kernel
theorem d_X12_load_13 : decode J_X12_load.2.1 13 = .ok (.ireturn, 1) := by decide +kernel
theorem d_X12_load_14 : decode J_X12_load.2.1 14 = .ok (.aload_n 0, 1) := by decide +kernel
theorem d_X12_load_15 : decode J_X12_load.2.1 15 = .ok (.getfield 334, 3) := by decide +kernel
theorem d_X12_load_18 : decode J_X12_load.2.1 18 = .ok (.bipush 8, 2) := by decide +kernel
theorem d_X12_load_20 : decode J_X12_load.2.1 20 = .ok (.if_icmp .ne 6, 3) := by decide +kernel
theorem d_X12_load_23 : decode J_X12_load.2.1 23 = .ok (.bipush (-3), 2) := by decide +kernel
theorem d_X12_load_25 : decode J_X12_load.2.1 25 = .ok (.ireturn, 1) := by decide +kernel
theorem d_X12_load_26 : decode J_X12_load.2.1 26 = .ok (.aload_n 0, 1) := by decide +kernel
theorem d_X12_load_27 : decode J_X12_load.2.1 27 = .ok (.getfield 104, 3) := by decide +kernel
theorem d_X12_load_30 : decode J_X12_load.2.1 30 = .ok (.aload_n 0, 1) := by decide +kernel
theorem d_X12_load_31 : decode J_X12_load.2.1 31 = .ok (.getfield 334, 3) := by decide +kernel
theorem d_X12_load_34 : decode J_X12_load.2.1 34 = .ok (.iload_n 1, 1) := by decide +kernel
theorem d_X12_load_35 : decode J_X12_load.2.1 35 = .ok (.iastore, 1) := by decide +kernel
theorem d_X12_load_36 : decode J_X12_load.2.1 36 = .ok (.aload_n 0, 1) := by decide +kernel
theorem d_X12_load_37 : decode J_X12_load.2.1 37 = .ok (.dup, 1) := by decide +kernel
theorem d_X12_load_38 : decode J_X12_load.2.1 38 = .ok (.getfield 334, 3) := by decide +kernel
theorem d_X12_load_41 : decode J_X12_load.2.1 41 = .ok (.iconst 1, 1) := by decide +kernel
theorem d_X12_load_42 : decode J_X12_load.2.1 42 = .ok (.iadd, 1) := by decide +kernel
theorem d_X12_load_43 : decode J_X12_load.2.1 43 = .ok (.putfield 334, 3) := by decide +kernel
theorem d_X12_load_46 : decode J_X12_load.2.1 46 = .ok (.aload_n 0, 1) := by decide +kernel
theorem d_X12_load_47 : decode J_X12_load.2.1 47 = .ok (.getfield 334, 3) := by decide +kernel
theorem d_X12_load_50 : decode J_X12_load.2.1 50 = .ok (.ireturn, 1) := by decide +kernel
def f_X12_load (N : Nat) (K : oK) (p1 : Int32) (M : oM) : Option (Int32 × oM) :=
  oB2 (f_X12_within N K ((p1 : Int32).toInt64) 1 99 M) (fun v1 M2 => cond v1 ((if (M2.1 59 49) = 8 then some ((-3), M2) else oIx ((M2.1 59 49)) 8 (some (((oUp (oUp M2 91 ((M2.1 59 49) : Int32).toNatClampNeg p1) 59 49 (((oUp M2 91 ((M2.1 59 49) : Int32).toNatClampNeg p1).1 59 49) + 1)).1 59 49), (oUp (oUp M2 91 ((M2.1 59 49) : Int32).toNatClampNeg p1) 59 49 (((oUp M2 91 ((M2.1 59 49) : Int32).toNatClampNeg p1).1 59 49) + 1)))))) (some ((-1), M2)))
set_option maxRecDepth 20000 in
theorem v_X12_load {X : oX} {N : Nat} {K : oK} {p1 : Int32} {M : oM} {v : Int32} {M' : oM} (hK : oSR K)  (h : f_X12_load N K p1 M = some (v, M')) : oMet X 2 J_X12_load [(.ref 59), (.int p1)] K M (some (.int v)) K M' := by
  unfold f_X12_load at h
  refine oMet_of (L := [some (.ref 59), some (.int p1)]) jJ_X12_load.1 rfl (Nat.le_of_ble_eq_true rfl) rfl (Nat.le_refl _) (Nat.le_refl _) ?_
  have hd : 2 ≤ 2 := Nat.le_refl _
  refine oe_iload_n (pc := 0) d_X12_load_0 rfl ?_
  refine oe_i2l (pc := 1) d_X12_load_1 ?_
  refine oe_lconst (pc := 2) (v := 1) d_X12_load_2 rfl ?_
  refine oe_ldc2 (pc := 3) d_X12_load_3 co_X12_174 ?_
  obtain ⟨v1, M2, q3, h⟩ := oB2_some h
  cases v1 with
  | true =>
    replace h := oCt h
    refine oe_callS (pc := 6) d_X12_load_6 (v_X12_within hK  q3) (by omega) ml_X12_145 jJ_X12_within rfl rfl (Nat.le_of_ble_eq_true rfl) ⟨Nat.le_refl _, Nat.le_refl _⟩ ⟨Nat.le_refl _, Nat.le_refl _⟩ ?_
    refine oe_if_ne (pc := 9) (tgt := 14) d_X12_load_9 (by decide) (fun _ => ?_) (fun c => absurd c (by decide))
    refine oe_aload_n (pc := 14) d_X12_load_14 rfl ?_
    refine oe_getf (pc := 15) d_X12_load_15 fl_X12_334 ock12 (k := 49) (Nat.le_of_ble_eq_true rfl) rfl (oLt hK (a := 59) (Nat.le_of_ble_eq_true rfl)) (oSho hK (a := 59) (Nat.le_of_ble_eq_true rfl) rfl) ?_
    refine oe_bipush (pc := 18) (v := 8) d_X12_load_18 rfl ?_
    refine oe_icmp_ne (pc := 20) (tgt := 26) d_X12_load_20 (by decide) (fun c4 => ?_) (fun c4 => ?_)
    · replace h := (if_neg c4).symm.trans h
      refine oe_aload_n (pc := 26) d_X12_load_26 rfl ?_
      refine oe_getr (pc := 27) d_X12_load_27 fl_X12_104 ock12 (k := 50) (b := 91) (Nat.le_of_ble_eq_true rfl) (by decide) (oLt hK (a := 59) (Nat.le_of_ble_eq_true rfl)) (oSho hK (a := 59) (Nat.le_of_ble_eq_true rfl) rfl) (oRfK hK rfl) ?_
      refine oe_aload_n (pc := 30) d_X12_load_30 rfl ?_
      refine oe_getf (pc := 31) d_X12_load_31 fl_X12_334 ock12 (k := 49) (Nat.le_of_ble_eq_true rfl) rfl (oLt hK (a := 59) (Nat.le_of_ble_eq_true rfl)) (oSho hK (a := 59) (Nat.le_of_ble_eq_true rfl) rfl) ?_
      refine oe_iload_n (pc := 34) d_X12_load_34 rfl ?_
      obtain ⟨i5, h⟩ := oIx_some h
      refine oe_iast (pc := 35) d_X12_load_35 (oLt hK (a := 91) (Nat.le_of_ble_eq_true rfl)) (oSha hK (a := 91) (Nat.le_of_ble_eq_true rfl) rfl) i5 ?_
      refine oe_aload_n (pc := 36) d_X12_load_36 rfl ?_
      refine oe_dup (pc := 37) d_X12_load_37 rfl ?_
      refine oe_getf (pc := 38) d_X12_load_38 fl_X12_334 ock12 (k := 49) (Nat.le_of_ble_eq_true rfl) rfl (oLt hK (a := 59) (Nat.le_of_ble_eq_true rfl)) (oSho hK (a := 59) (Nat.le_of_ble_eq_true rfl) rfl) ?_
      refine oe_iconst (pc := 41) (v := 1) d_X12_load_41 rfl ?_
      refine oe_iadd (pc := 42) d_X12_load_42 ?_
      refine oe_putf (pc := 43) d_X12_load_43 fl_X12_334 ock12 (k := 49) (Nat.le_of_ble_eq_true rfl) rfl rfl (oLt hK (a := 59) (Nat.le_of_ble_eq_true rfl)) (oSho hK (a := 59) (Nat.le_of_ble_eq_true rfl) rfl) ?_
      refine oe_aload_n (pc := 46) d_X12_load_46 rfl ?_
      refine oe_getf (pc := 47) d_X12_load_47 fl_X12_334 ock12 (k := 49) (Nat.le_of_ble_eq_true rfl) rfl (oLt hK (a := 59) (Nat.le_of_ble_eq_true rfl)) (oSho hK (a := 59) (Nat.le_of_ble_eq_true rfl) rfl) ?_
      obtain ⟨rfl, rfl⟩ := oRes h
      exact oe_iret (pc := 50) d_X12_load_50 ⟨_, rfl, rfl⟩
    · replace h := (if_pos c4).symm.trans h
      refine oe_bipush (pc := 23) (v := (-3)) d_X12_load_23 rfl ?_
      obtain ⟨rfl, rfl⟩ := oRes h
      exact oe_iret (pc := 25) d_X12_load_25 ⟨_, rfl, rfl⟩
  | false =>
    replace h := oCf h
    refine oe_callS (pc := 6) d_X12_load_6 (v_X12_within hK  q3) (by omega) ml_X12_145 jJ_X12_within rfl rfl (Nat.le_of_ble_eq_true rfl) ⟨Nat.le_refl _, Nat.le_refl _⟩ ⟨Nat.le_refl _, Nat.le_refl _⟩ ?_
    refine oe_if_ne (pc := 9) (tgt := 14) d_X12_load_9 (by decide) (fun c => absurd (by decide) c) (fun _ => ?_)
    refine oe_iconst (pc := 12) (v := (-1)) d_X12_load_12 rfl ?_
    obtain ⟨rfl, rfl⟩ := oRes h
    exact oe_iret (pc := 13) d_X12_load_13 ⟨_, rfl, rfl⟩
theorem d_X12_unload_0 : decode J_X12_unload.2.1 0 = .ok (.aload_n 0, 1) := by decide +kernel
theorem d_X12_unload_1 : decode J_X12_unload.2.1 1 = .ok (.getfield 334, 3) := by decide +kernel
theorem d_X12_unload_4 : decode J_X12_unload.2.1 4 = .ok (.istore_n 1, 1) := by decide +kernel
theorem d_X12_unload_5 : decode J_X12_unload.2.1 5 = .ok (.aload_n 0, 1) := by decide +kernel
theorem d_X12_unload_6 : decode J_X12_unload.2.1 6 = .ok (.iconst 0, 1) := by decide +kernel
theorem d_X12_unload_7 : decode J_X12_unload.2.1 7 = .ok (.putfield 334, 3) := by decide +kernel
theorem d_X12_unload_10 : decode J_X12_unload.2.1 10 = .ok (.iload_n 1, 1) := by decide +kernel
theorem d_X12_unload_11 : decode J_X12_unload.2.1 11 = .ok (.ireturn, 1) := by decide +kernel
def f_X12_unload (N : Nat) (K : oK)  (M : oM) : Option (Int32 × oM) :=
  some ((M.1 59 49), (oUp M 59 49 (0 : Int32)))
set_option maxRecDepth 20000 in
theorem v_X12_unload {X : oX} {N : Nat} {K : oK}  {M : oM} {v : Int32} {M' : oM} (hK : oSR K)  (h : f_X12_unload N K  M = some (v, M')) : oMet X 1 J_X12_unload [(.ref 59)] K M (some (.int v)) K M' := by
  unfold f_X12_unload at h
  refine oMet_of (L := [some (.ref 59), none]) jJ_X12_unload.1 rfl (Nat.le_of_ble_eq_true rfl) rfl (Nat.le_refl _) (Nat.le_refl _) ?_
  have hd : 1 ≤ 1 := Nat.le_refl _
  refine oe_aload_n (pc := 0) d_X12_unload_0 rfl ?_
  refine oe_getf (pc := 1) d_X12_unload_1 fl_X12_334 ock12 (k := 49) (Nat.le_of_ble_eq_true rfl) rfl (oLt hK (a := 59) (Nat.le_of_ble_eq_true rfl)) (oSho hK (a := 59) (Nat.le_of_ble_eq_true rfl) rfl) ?_
  refine oe_istore_n (pc := 4) (L2 := [_, _]) d_X12_unload_4 rfl rfl (Nat.le_of_ble_eq_true rfl) rfl ?_
  refine oe_aload_n (pc := 5) d_X12_unload_5 rfl ?_
  refine oe_iconst (pc := 6) (v := 0) d_X12_unload_6 rfl ?_
  refine oe_putf (pc := 7) d_X12_unload_7 fl_X12_334 ock12 (k := 49) (Nat.le_of_ble_eq_true rfl) rfl rfl (oLt hK (a := 59) (Nat.le_of_ble_eq_true rfl)) (oSho hK (a := 59) (Nat.le_of_ble_eq_true rfl) rfl) ?_
  refine oe_iload_n (pc := 10) d_X12_unload_10 rfl ?_
  obtain ⟨rfl, rfl⟩ := oRes h
  exact oe_iret (pc := 11) d_X12_unload_11 ⟨_, rfl, rfl⟩
theorem d_X12_carry_0 : decode J_X12_carry.2.1 0 = .ok (.iload_n 1, 1) := by decide +kernel
theorem d_X12_carry_1 : decode J_X12_carry.2.1 1 = .ok (.aload_n 0, 1) := by decide +kernel
theorem d_X12_carry_2 : decode J_X12_carry.2.1 2 = .ok (.getfield 334, 3) := by decide +kernel
theorem d_X12_carry_5 : decode J_X12_carry.2.1 5 = .ok (.if_icmp .ne 68, 3) := by decide +kernel
theorem d_X12_carry_8 : decode J_X12_carry.2.1 8 = .ok (.iconst 0, 1) := by decide +kernel
theorem d_X12_carry_9 : decode J_X12_carry.2.1 9 = .ok (.istore 4, 2) := by decide +kernel
theorem d_X12_carry_11 : decode J_X12_carry.2.1 11 = .ok (.iconst 0, 1) := by decide +kernel
theorem d_X12_carry_12 : decode J_X12_carry.2.1 12 = .ok (.istore 5, 2) := by decide +kernel
theorem d_X12_carry_14 : decode J_X12_carry.2.1 14 = .ok (.iload 5, 2) := by decide +kernel
theorem d_X12_carry_16 : decode J_X12_carry.2.1 16 = .ok (.iload_n 2, 1) := by decide +kernel
theorem d_X12_carry_17 : decode J_X12_carry.2.1 17 = .ok (.if_icmp .ge 35, 3) := by decide +kernel
theorem d_X12_carry_20 : decode J_X12_carry.2.1 20 = .ok (.aload_n 0, 1) := by decide +kernel
theorem d_X12_carry_21 : decode J_X12_carry.2.1 21 = .ok (.getfield 107, 3) := by decide +kernel
theorem d_X12_carry_24 : decode J_X12_carry.2.1 24 = .ok (.iload 5, 2) := by decide +kernel
theorem d_X12_carry_26 : decode J_X12_carry.2.1 26 = .ok (.iaload, 1) := by decide +kernel
theorem d_X12_carry_27 : decode J_X12_carry.2.1 27 = .ok (.iload 4, 2) := by decide +kernel
theorem d_X12_carry_29 : decode J_X12_carry.2.1 29 = .ok (.if_icmp .le 13, 3) := by decide +kernel
theorem d_X12_carry_32 : decode J_X12_carry.2.1 32 = .ok (.aload_n 0, 1) := by decide +kernel
theorem d_X12_carry_33 : decode J_X12_carry.2.1 33 = .ok (.getfield 107, 3) := by decide +kernel
theorem d_X12_carry_36 : decode J_X12_carry.2.1 36 = .ok (.iload 5, 2) := by decide +kernel
theorem d_X12_carry_38 : decode J_X12_carry.2.1 38 = .ok (.iaload, 1) := by decide +kernel
theorem d_X12_carry_39 : decode J_X12_carry.2.1 39 = .ok (.goto 5, 3) := by decide +kernel
theorem d_X12_carry_42 : decode J_X12_carry.2.1 42 = .ok (.iload 4, 2) := by decide +kernel
theorem d_X12_carry_44 : decode J_X12_carry.2.1 44 = .ok (.istore 4, 2) := by decide +kernel
theorem d_X12_carry_46 : decode J_X12_carry.2.1 46 = .ok (.iinc 5 1, 3) := by decide +kernel
theorem d_X12_carry_49 : decode J_X12_carry.2.1 49 = .ok (.goto (-35), 3) := by decide +kernel
theorem d_X12_carry_52 : decode J_X12_carry.2.1 52 = .ok (.iload 4, 2) := by decide +kernel
theorem d_X12_carry_54 : decode J_X12_carry.2.1 54 = .ok (.aload_n 0, 1) := by decide +kernel
theorem d_X12_carry_55 : decode J_X12_carry.2.1 55 = .ok (.getfield 337, 3) := by decide +kernel
theorem d_X12_carry_58 : decode J_X12_carry.2.1 58 = .ok (.if_icmp .ge 14, 3) := by decide +kernel
theorem d_X12_carry_61 : decode J_X12_carry.2.1 61 = .ok (.aload_n 0, 1) := by decide +kernel
theorem d_X12_carry_62 : decode J_X12_carry.2.1 62 = .ok (.iload 4, 2) := by decide +kernel
theorem d_X12_carry_64 : decode J_X12_carry.2.1 64 = .ok (.putfield 337, 3) := by decide +kernel
theorem d_X12_carry_67 : decode J_X12_carry.2.1 67 = .ok (.aload_n 0, 1) := by decide +kernel
theorem d_X12_carry_68 : decode J_X12_carry.2.1 68 = .ok (.iload_n 3, 1) := by decide +kernel
theorem d_X12_carry_69 : decode J_X12_carry.2.1 69 = .ok (.putfield 340, 3) := by decide +kernel
theorem d_X12_carry_72 : decode J_X12_carry.2.1 72 = .ok (.return_, 1) := by decide +kernel
theorem d_X12_carry_73 : decode J_X12_carry.2.1 73 = .ok (.iconst 0, 1) := by decide +kernel
theorem d_X12_carry_74 : decode J_X12_carry.2.1 74 = .ok (.istore 4, 2) := by decide +kernel
theorem d_X12_carry_76 : decode J_X12_carry.2.1 76 = .ok (.iload 4, 2) := by decide +kernel
theorem d_X12_carry_78 : decode J_X12_carry.2.1 78 = .ok (.iload_n 2, 1) := by decide +kernel
theorem d_X12_carry_79 : decode J_X12_carry.2.1 79 = .ok (.if_icmp .ge 56, 3) := by decide +kernel
theorem d_X12_carry_82 : decode J_X12_carry.2.1 82 = .ok (.aload_n 0, 1) := by decide +kernel
theorem d_X12_carry_83 : decode J_X12_carry.2.1 83 = .ok (.getfield 107, 3) := by decide +kernel
theorem d_X12_carry_86 : decode J_X12_carry.2.1 86 = .ok (.iload 4, 2) := by decide +kernel
theorem d_X12_carry_88 : decode J_X12_carry.2.1 88 = .ok (.dup2, 1) := by decide +kernel
theorem d_X12_carry_89 : decode J_X12_carry.2.1 89 = .ok (.iaload, 1) := by decide +kernel
theorem d_X12_carry_90 : decode J_X12_carry.2.1 90 = .ok (.aload_n 0, 1) := by decide +kernel
theorem d_X12_carry_91 : decode J_X12_carry.2.1 91 = .ok (.getfield 104, 3) := by decide +kernel
theorem d_X12_carry_94 : decode J_X12_carry.2.1 94 = .ok (.iload_n 1, 1) := by decide +kernel
theorem d_X12_carry_95 : decode J_X12_carry.2.1 95 = .ok (.iaload, 1) := by decide +kernel
theorem d_X12_carry_96 : decode J_X12_carry.2.1 96 = .ok (.iadd, 1) := by decide +kernel
theorem d_X12_carry_97 : decode J_X12_carry.2.1 97 = .ok (.iastore, 1) := by decide +kernel
theorem d_X12_carry_98 : decode J_X12_carry.2.1 98 = .ok (.aload_n 0, 1) := by decide +kernel
theorem d_X12_carry_99 : decode J_X12_carry.2.1 99 = .ok (.iload_n 1, 1) := by decide +kernel
theorem d_X12_carry_100 : decode J_X12_carry.2.1 100 = .ok (.iconst 1, 1) := by decide +kernel
theorem d_X12_carry_101 : decode J_X12_carry.2.1 101 = .ok (.iadd, 1) := by decide +kernel
theorem d_X12_carry_102 : decode J_X12_carry.2.1 102 = .ok (.iload_n 2, 1) := by decide +kernel
theorem d_X12_carry_103 : decode J_X12_carry.2.1 103 = .ok (.bipush 10, 2) := by decide +kernel
theorem d_X12_carry_105 : decode J_X12_carry.2.1 105 = .ok (.iload_n 3, 1) := by decide +kernel
theorem d_X12_carry_106 : decode J_X12_carry.2.1 106 = .ok (.imul, 1) := by decide +kernel
theorem d_X12_carry_107 : decode J_X12_carry.2.1 107 = .ok (.iload 4, 2) := by decide +kernel
theorem d_X12_carry_109 : decode J_X12_carry.2.1 109 = .ok (.iadd, 1) := by decide +kernel
theorem d_X12_carry_110 : decode J_X12_carry.2.1 110 = .ok (.invokevirtual 343, 3) := by decide +kernel
theorem d_X12_carry_113 : decode J_X12_carry.2.1 113 = .ok (.aload_n 0, 1) := by decide +kernel
theorem d_X12_carry_114 : decode J_X12_carry.2.1 114 = .ok (.getfield 107, 3) := by decide +kernel
theorem d_X12_carry_117 : decode J_X12_carry.2.1 117 = .ok (.iload 4, 2) := by decide +kernel
theorem d_X12_carry_119 : decode J_X12_carry.2.1 119 = .ok (.dup2, 1) := by decide +kernel
theorem d_X12_carry_120 : decode J_X12_carry.2.1 120 = .ok (.iaload, 1) := by decide +kernel
theorem d_X12_carry_121 : decode J_X12_carry.2.1 121 = .ok (.aload_n 0, 1) := by decide +kernel
theorem d_X12_carry_122 : decode J_X12_carry.2.1 122 = .ok (.getfield 104, 3) := by decide +kernel
theorem d_X12_carry_125 : decode J_X12_carry.2.1 125 = .ok (.iload_n 1, 1) := by decide +kernel
theorem d_X12_carry_126 : decode J_X12_carry.2.1 126 = .ok (.iaload, 1) := by decide +kernel
theorem d_X12_carry_127 : decode J_X12_carry.2.1 127 = .ok (.isub, 1) := by decide +kernel
theorem d_X12_carry_128 : decode J_X12_carry.2.1 128 = .ok (.iastore, 1) := by decide +kernel
theorem d_X12_carry_129 : decode J_X12_carry.2.1 129 = .ok (.iinc 4 1, 3) := by decide +kernel
theorem d_X12_carry_132 : decode J_X12_carry.2.1 132 = .ok (.goto (-56), 3) := by decide +kernel
theorem d_X12_carry_135 : decode J_X12_carry.2.1 135 = .ok (.return_, 1) := by decide +kernel
def f_X12_carry_76 (N : Nat) (rS : (Int32 → Int32 → Int32 → oM → Option (Unit × oM))) (K : oK)  : Nat → Int32 → Int32 → Int32 → Int32 → oM → Option (Unit × oM)
  | 0, _, _, _, _, _ => none
  | n + 1, p1, p2, p3, p4, M => (fun r76 => (if p2 ≤ p4 then some ((), M) else oIx (p4) 4 (oIx (p1) 8 (oIx (p4) 4 (oB2 (rS (p1 + 1) p2 (((10 : Int32) * p3) + p4) (oUp M 92 (p4 : Int32).toNatClampNeg ((M.1 92 (p4 : Int32).toNatClampNeg) + (M.1 91 (p1 : Int32).toNatClampNeg)))) (fun v6 M7 => oIx (p4) 4 (oIx (p1) 8 (oIx (p4) 4 ((r76 p1 p2 p3 (p4 + 1) (oUp M7 92 (p4 : Int32).toNatClampNeg ((M7.1 92 (p4 : Int32).toNatClampNeg) - (M7.1 91 (p1 : Int32).toNatClampNeg))))))))))))) (f_X12_carry_76 N rS K  n)
set_option maxRecDepth 20000 in
theorem v_X12_carry_76_L {X : oX} {d N : Nat} {rS : (Int32 → Int32 → Int32 → oM → Option (Unit × oM))} {K : oK}  (hd : 1 ≤ d) (hK : oSR K) (hS : ∃ d', d' < d ∧ ∀ (p1 : Int32) (p2 : Int32) (p3 : Int32) (M : oM) (v : Unit) (M' : oM) , rS p1 p2 p3 M = some (v, M') → oMet X d' J_X12_carry [(.ref 59), (.int p1), (.int p2), (.int p3)] K M none K M')  : ∀ (n : Nat) (p1 : Int32) (p2 : Int32) (p3 : Int32) (p4 : Int32) (M : oM) (v : Unit) (M' : oM)  , f_X12_carry_76 N rS K  n p1 p2 p3 p4 M = some (v, M') → oEv X d J_X12_carry 76 [some (.ref 59), some (.int p1), some (.int p2), some (.int p3), some (.int p4), none] [] K M none K M' := by
  intro n
  induction n with
  | zero =>
    intro p1 p2 p3 p4 M v M'   h
    cases h
  | succ n hr76 =>
    intro p1 p2 p3 p4 M v M'   h
    refine oe_iload (pc := 76) d_X12_carry_76 rfl ?_
    refine oe_iload_n (pc := 78) d_X12_carry_78 rfl ?_
    refine oe_icmp_ge (pc := 79) (tgt := 135) d_X12_carry_79 (by decide) (fun c2 => ?_) (fun c2 => ?_)
    · replace h := (if_pos c2).symm.trans h
      obtain ⟨rfl, rfl⟩ := oRes h
      exact oe_vret (pc := 135) d_X12_carry_135 rfl
    · replace h := (if_neg c2).symm.trans h
      refine oe_aload_n (pc := 82) d_X12_carry_82 rfl ?_
      refine oe_getr (pc := 83) d_X12_carry_83 fl_X12_107 ock12 (k := 51) (b := 92) (Nat.le_of_ble_eq_true rfl) (by decide) (oLt hK (a := 59) (Nat.le_of_ble_eq_true rfl)) (oSho hK (a := 59) (Nat.le_of_ble_eq_true rfl) rfl) (oRfK hK rfl) ?_
      refine oe_iload (pc := 86) d_X12_carry_86 rfl ?_
      refine oe_dup2 (pc := 88) d_X12_carry_88 rfl rfl ?_
      obtain ⟨i3, h⟩ := oIx_some h
      refine oe_iald (pc := 89) d_X12_carry_89 (oLt hK (a := 92) (Nat.le_of_ble_eq_true rfl)) (oSha hK (a := 92) (Nat.le_of_ble_eq_true rfl) rfl) i3 ?_
      refine oe_aload_n (pc := 90) d_X12_carry_90 rfl ?_
      refine oe_getr (pc := 91) d_X12_carry_91 fl_X12_104 ock12 (k := 50) (b := 91) (Nat.le_of_ble_eq_true rfl) (by decide) (oLt hK (a := 59) (Nat.le_of_ble_eq_true rfl)) (oSho hK (a := 59) (Nat.le_of_ble_eq_true rfl) rfl) (oRfK hK rfl) ?_
      refine oe_iload_n (pc := 94) d_X12_carry_94 rfl ?_
      obtain ⟨i4, h⟩ := oIx_some h
      refine oe_iald (pc := 95) d_X12_carry_95 (oLt hK (a := 91) (Nat.le_of_ble_eq_true rfl)) (oSha hK (a := 91) (Nat.le_of_ble_eq_true rfl) rfl) i4 ?_
      refine oe_iadd (pc := 96) d_X12_carry_96 ?_
      obtain ⟨i5, h⟩ := oIx_some h
      refine oe_iast (pc := 97) d_X12_carry_97 (oLt hK (a := 92) (Nat.le_of_ble_eq_true rfl)) (oSha hK (a := 92) (Nat.le_of_ble_eq_true rfl) rfl) i5 ?_
      refine oe_aload_n (pc := 98) d_X12_carry_98 rfl ?_
      refine oe_iload_n (pc := 99) d_X12_carry_99 rfl ?_
      refine oe_iconst (pc := 100) (v := 1) d_X12_carry_100 rfl ?_
      refine oe_iadd (pc := 101) d_X12_carry_101 ?_
      refine oe_iload_n (pc := 102) d_X12_carry_102 rfl ?_
      refine oe_bipush (pc := 103) (v := 10) d_X12_carry_103 rfl ?_
      refine oe_iload_n (pc := 105) d_X12_carry_105 rfl ?_
      refine oe_imul (pc := 106) d_X12_carry_106 ?_
      refine oe_iload (pc := 107) d_X12_carry_107 rfl ?_
      refine oe_iadd (pc := 109) d_X12_carry_109 ?_
      obtain ⟨v6, M7, q8, h⟩ := oB2_some h
      obtain ⟨d', hdl, hS9⟩ := id hS
      refine oe_callV (pc := 110) (ci := 12) d_X12_carry_110 (hS9 _ _ _ _ _ _  q8) hdl ml_X12_343 jJ_X12_carry rfl rfl (oLt hK (a := 59) (Nat.le_of_ble_eq_true rfl)) (oSho hK (a := 59) (Nat.le_of_ble_eq_true rfl) rfl) ock12 rfl (Nat.le_of_ble_eq_true rfl) ⟨Nat.le_refl _, Nat.le_refl _⟩ ⟨Nat.le_refl _, Nat.le_refl _⟩ ?_
      refine oe_aload_n (pc := 113) d_X12_carry_113 rfl ?_
      refine oe_getr (pc := 114) d_X12_carry_114 fl_X12_107 ock12 (k := 51) (b := 92) (Nat.le_of_ble_eq_true rfl) (by decide) (oLt hK (a := 59) (Nat.le_of_ble_eq_true rfl)) (oSho hK (a := 59) (Nat.le_of_ble_eq_true rfl) rfl) (oRfK hK rfl) ?_
      refine oe_iload (pc := 117) d_X12_carry_117 rfl ?_
      refine oe_dup2 (pc := 119) d_X12_carry_119 rfl rfl ?_
      obtain ⟨i9, h⟩ := oIx_some h
      refine oe_iald (pc := 120) d_X12_carry_120 (oLt hK (a := 92) (Nat.le_of_ble_eq_true rfl)) (oSha hK (a := 92) (Nat.le_of_ble_eq_true rfl) rfl) i9 ?_
      refine oe_aload_n (pc := 121) d_X12_carry_121 rfl ?_
      refine oe_getr (pc := 122) d_X12_carry_122 fl_X12_104 ock12 (k := 50) (b := 91) (Nat.le_of_ble_eq_true rfl) (by decide) (oLt hK (a := 59) (Nat.le_of_ble_eq_true rfl)) (oSho hK (a := 59) (Nat.le_of_ble_eq_true rfl) rfl) (oRfK hK rfl) ?_
      refine oe_iload_n (pc := 125) d_X12_carry_125 rfl ?_
      obtain ⟨i10, h⟩ := oIx_some h
      refine oe_iald (pc := 126) d_X12_carry_126 (oLt hK (a := 91) (Nat.le_of_ble_eq_true rfl)) (oSha hK (a := 91) (Nat.le_of_ble_eq_true rfl) rfl) i10 ?_
      refine oe_isub (pc := 127) d_X12_carry_127 ?_
      obtain ⟨i11, h⟩ := oIx_some h
      refine oe_iast (pc := 128) d_X12_carry_128 (oLt hK (a := 92) (Nat.le_of_ble_eq_true rfl)) (oSha hK (a := 92) (Nat.le_of_ble_eq_true rfl) rfl) i11 ?_
      refine oe_iinc (pc := 129) (v := (p4 + 1)) (L2 := [_, _, _, _, _, _]) d_X12_carry_129 rfl rfl rfl (Nat.le_of_ble_eq_true rfl) rfl ?_
      refine oe_goto (pc := 132) (tgt := 76) d_X12_carry_132 (by decide) ?_
      exact hr76 _ _ _ _ _ _ _ h
theorem v_X12_carry_76 {X : oX} {d N : Nat} {rS : (Int32 → Int32 → Int32 → oM → Option (Unit × oM))} {K : oK}  {p1 : Int32} {p2 : Int32} {p3 : Int32} {p4 : Int32} {M : oM} {v : Unit} {M' : oM}  (hd : 1 ≤ d) (hK : oSR K) (hS : ∃ d', d' < d ∧ ∀ (p1 : Int32) (p2 : Int32) (p3 : Int32) (M : oM) (v : Unit) (M' : oM) , rS p1 p2 p3 M = some (v, M') → oMet X d' J_X12_carry [(.ref 59), (.int p1), (.int p2), (.int p3)] K M none K M')   (h : f_X12_carry_76 N rS K  N p1 p2 p3 p4 M = some (v, M')) : oEv X d J_X12_carry 76 [some (.ref 59), some (.int p1), some (.int p2), some (.int p3), some (.int p4), none] [] K M none K M' := v_X12_carry_76_L hd hK hS  N p1 p2 p3 p4 M v M'   h
def f_X12_carry_44 (N : Nat) (rS : (Int32 → Int32 → Int32 → oM → Option (Unit × oM))) (K : oK) (r14 : (Int32 → Int32 → Int32 → Int32 → oM → Option (Unit × oM))) (p2 : Int32) (p3 : Int32) (p5 : Int32) (s0 : Int32) (M : oM) : Option (Unit × oM) :=
  (r14 p2 p3 s0 (p5 + 1) M)
set_option maxRecDepth 20000 in
theorem v_X12_carry_44 {X : oX} {d N : Nat} {rS : (Int32 → Int32 → Int32 → oM → Option (Unit × oM))} {K : oK} {r14 : (Int32 → Int32 → Int32 → Int32 → oM → Option (Unit × oM))} {p2 : Int32} {p3 : Int32} {p5 : Int32} {s0 : Int32} {M : oM} {v : Unit} {M' : oM}  (hd : 1 ≤ d) (hK : oSR K) (hS : ∃ d', d' < d ∧ ∀ (p1 : Int32) (p2 : Int32) (p3 : Int32) (M : oM) (v : Unit) (M' : oM) , rS p1 p2 p3 M = some (v, M') → oMet X d' J_X12_carry [(.ref 59), (.int p1), (.int p2), (.int p3)] K M none K M')  (hr14 : ∀ (p2 : Int32) (p3 : Int32) (p4 : Int32) (p5 : Int32) (M : oM) (v : Unit) (M' : oM) , r14 p2 p3 p4 p5 M = some (v, M') → oEv X d J_X12_carry 14 [some (.ref 59), none, some (.int p2), some (.int p3), some (.int p4), some (.int p5)] [] K M none K M') (h : f_X12_carry_44 N rS K r14 p2 p3 p5 s0 M = some (v, M')) : oEv X d J_X12_carry 44 [some (.ref 59), none, some (.int p2), some (.int p3), none, some (.int p5)] [(.int s0)] K M none K M' := by
  unfold f_X12_carry_44 at h
  refine oe_istore (pc := 44) (L2 := [_, _, _, _, _, _]) d_X12_carry_44 rfl (Nat.le_of_ble_eq_true rfl) rfl ?_
  refine oe_iinc (pc := 46) (v := (p5 + 1)) (L2 := [_, _, _, _, _, _]) d_X12_carry_46 rfl rfl rfl (Nat.le_of_ble_eq_true rfl) rfl ?_
  refine oe_goto (pc := 49) (tgt := 14) d_X12_carry_49 (by decide) ?_
  exact hr14 _ _ _ _ _ _ _ h
def f_X12_carry_14 (N : Nat) (rS : (Int32 → Int32 → Int32 → oM → Option (Unit × oM))) (K : oK)  : Nat → Int32 → Int32 → Int32 → Int32 → oM → Option (Unit × oM)
  | 0, _, _, _, _, _ => none
  | n + 1, p2, p3, p4, p5, M => (fun r14 => (if p2 ≤ p5 then (if (M.1 59 52) ≤ p4 then some ((), M) else some ((), (oUp (oUp M 59 52 p4) 59 53 p3))) else oIx (p5) 4 ((if (M.1 92 (p5 : Int32).toNatClampNeg) ≤ p4 then (f_X12_carry_44 N rS K r14 p2 p3 p5 p4 M) else oIx (p5) 4 ((f_X12_carry_44 N rS K r14 p2 p3 p5 (M.1 92 (p5 : Int32).toNatClampNeg) M)))))) (f_X12_carry_14 N rS K  n)
set_option maxRecDepth 20000 in
theorem v_X12_carry_14_L {X : oX} {d N : Nat} {rS : (Int32 → Int32 → Int32 → oM → Option (Unit × oM))} {K : oK}  (hd : 1 ≤ d) (hK : oSR K) (hS : ∃ d', d' < d ∧ ∀ (p1 : Int32) (p2 : Int32) (p3 : Int32) (M : oM) (v : Unit) (M' : oM) , rS p1 p2 p3 M = some (v, M') → oMet X d' J_X12_carry [(.ref 59), (.int p1), (.int p2), (.int p3)] K M none K M')  : ∀ (n : Nat) (p2 : Int32) (p3 : Int32) (p4 : Int32) (p5 : Int32) (M : oM) (v : Unit) (M' : oM)  , f_X12_carry_14 N rS K  n p2 p3 p4 p5 M = some (v, M') → oEv X d J_X12_carry 14 [some (.ref 59), none, some (.int p2), some (.int p3), some (.int p4), some (.int p5)] [] K M none K M' := by
  intro n
  induction n with
  | zero =>
    intro p2 p3 p4 p5 M v M'   h
    cases h
  | succ n hr14 =>
    intro p2 p3 p4 p5 M v M'   h
    refine oe_iload (pc := 14) d_X12_carry_14 rfl ?_
    refine oe_iload_n (pc := 16) d_X12_carry_16 rfl ?_
    refine oe_icmp_ge (pc := 17) (tgt := 52) d_X12_carry_17 (by decide) (fun c12 => ?_) (fun c12 => ?_)
    · replace h := (if_pos c12).symm.trans h
      refine oe_iload (pc := 52) d_X12_carry_52 rfl ?_
      refine oe_aload_n (pc := 54) d_X12_carry_54 rfl ?_
      refine oe_getf (pc := 55) d_X12_carry_55 fl_X12_337 ock12 (k := 52) (Nat.le_of_ble_eq_true rfl) rfl (oLt hK (a := 59) (Nat.le_of_ble_eq_true rfl)) (oSho hK (a := 59) (Nat.le_of_ble_eq_true rfl) rfl) ?_
      refine oe_icmp_ge (pc := 58) (tgt := 72) d_X12_carry_58 (by decide) (fun c13 => ?_) (fun c13 => ?_)
      · replace h := (if_pos c13).symm.trans h
        obtain ⟨rfl, rfl⟩ := oRes h
        exact oe_vret (pc := 72) d_X12_carry_72 rfl
      · replace h := (if_neg c13).symm.trans h
        refine oe_aload_n (pc := 61) d_X12_carry_61 rfl ?_
        refine oe_iload (pc := 62) d_X12_carry_62 rfl ?_
        refine oe_putf (pc := 64) d_X12_carry_64 fl_X12_337 ock12 (k := 52) (Nat.le_of_ble_eq_true rfl) rfl rfl (oLt hK (a := 59) (Nat.le_of_ble_eq_true rfl)) (oSho hK (a := 59) (Nat.le_of_ble_eq_true rfl) rfl) ?_
        refine oe_aload_n (pc := 67) d_X12_carry_67 rfl ?_
        refine oe_iload_n (pc := 68) d_X12_carry_68 rfl ?_
        refine oe_putf (pc := 69) d_X12_carry_69 fl_X12_340 ock12 (k := 53) (Nat.le_of_ble_eq_true rfl) rfl rfl (oLt hK (a := 59) (Nat.le_of_ble_eq_true rfl)) (oSho hK (a := 59) (Nat.le_of_ble_eq_true rfl) rfl) ?_
        obtain ⟨rfl, rfl⟩ := oRes h
        exact oe_vret (pc := 72) d_X12_carry_72 rfl
    · replace h := (if_neg c12).symm.trans h
      refine oe_aload_n (pc := 20) d_X12_carry_20 rfl ?_
      refine oe_getr (pc := 21) d_X12_carry_21 fl_X12_107 ock12 (k := 51) (b := 92) (Nat.le_of_ble_eq_true rfl) (by decide) (oLt hK (a := 59) (Nat.le_of_ble_eq_true rfl)) (oSho hK (a := 59) (Nat.le_of_ble_eq_true rfl) rfl) (oRfK hK rfl) ?_
      refine oe_iload (pc := 24) d_X12_carry_24 rfl ?_
      obtain ⟨i14, h⟩ := oIx_some h
      refine oe_iald (pc := 26) d_X12_carry_26 (oLt hK (a := 92) (Nat.le_of_ble_eq_true rfl)) (oSha hK (a := 92) (Nat.le_of_ble_eq_true rfl) rfl) i14 ?_
      refine oe_iload (pc := 27) d_X12_carry_27 rfl ?_
      refine oe_icmp_le (pc := 29) (tgt := 42) d_X12_carry_29 (by decide) (fun c15 => ?_) (fun c15 => ?_)
      · replace h := (if_pos c15).symm.trans h
        refine oe_iload (pc := 42) d_X12_carry_42 rfl ?_
        refine oEv.fg [true, false, true, true, false, true] ?_
        exact v_X12_carry_44 hd hK hS  hr14 h
      · replace h := (if_neg c15).symm.trans h
        refine oe_aload_n (pc := 32) d_X12_carry_32 rfl ?_
        refine oe_getr (pc := 33) d_X12_carry_33 fl_X12_107 ock12 (k := 51) (b := 92) (Nat.le_of_ble_eq_true rfl) (by decide) (oLt hK (a := 59) (Nat.le_of_ble_eq_true rfl)) (oSho hK (a := 59) (Nat.le_of_ble_eq_true rfl) rfl) (oRfK hK rfl) ?_
        refine oe_iload (pc := 36) d_X12_carry_36 rfl ?_
        obtain ⟨i16, h⟩ := oIx_some h
        refine oe_iald (pc := 38) d_X12_carry_38 (oLt hK (a := 92) (Nat.le_of_ble_eq_true rfl)) (oSha hK (a := 92) (Nat.le_of_ble_eq_true rfl) rfl) i16 ?_
        refine oe_goto (pc := 39) (tgt := 44) d_X12_carry_39 (by decide) ?_
        refine oEv.fg [true, false, true, true, false, true] ?_
        exact v_X12_carry_44 hd hK hS  hr14 h
theorem v_X12_carry_14 {X : oX} {d N : Nat} {rS : (Int32 → Int32 → Int32 → oM → Option (Unit × oM))} {K : oK}  {p2 : Int32} {p3 : Int32} {p4 : Int32} {p5 : Int32} {M : oM} {v : Unit} {M' : oM}  (hd : 1 ≤ d) (hK : oSR K) (hS : ∃ d', d' < d ∧ ∀ (p1 : Int32) (p2 : Int32) (p3 : Int32) (M : oM) (v : Unit) (M' : oM) , rS p1 p2 p3 M = some (v, M') → oMet X d' J_X12_carry [(.ref 59), (.int p1), (.int p2), (.int p3)] K M none K M')   (h : f_X12_carry_14 N rS K  N p2 p3 p4 p5 M = some (v, M')) : oEv X d J_X12_carry 14 [some (.ref 59), none, some (.int p2), some (.int p3), some (.int p4), some (.int p5)] [] K M none K M' := v_X12_carry_14_L hd hK hS  N p2 p3 p4 p5 M v M'   h
def f_X12_carry (N : Nat) (K : oK) : Nat → Int32 → Int32 → Int32 → oM → Option (Unit × oM)
  | 0, _, _, _, _ => none
  | n + 1, p1, p2, p3, M => (fun rS => (if p1 = (M.1 59 49) then (f_X12_carry_14 N rS K  N p2 p3 0 0 M) else (f_X12_carry_76 N rS K  N p1 p2 p3 0 M))) (f_X12_carry N K n)
set_option maxRecDepth 20000 in
theorem v_X12_carry_R {X : oX} {N : Nat} {K : oK} (hK : oSR K) : ∀ (n : Nat) (p1 : Int32) (p2 : Int32) (p3 : Int32) (M : oM) (v : Unit) (M' : oM) , f_X12_carry N K n p1 p2 p3 M = some (v, M') → oMet X (1 + n) J_X12_carry [(.ref 59), (.int p1), (.int p2), (.int p3)] K M none K M' := by
  intro n
  induction n with
  | zero =>
    intro p1 p2 p3 M v M'  h
    cases h
  | succ n hS0 =>
    intro p1 p2 p3 M v M'  h
    refine oMet_of (L := [some (.ref 59), some (.int p1), some (.int p2), some (.int p3), none, none]) jJ_X12_carry.1 rfl (Nat.le_of_ble_eq_true rfl) rfl (Nat.le_refl _) (Nat.le_refl _) ?_
    have hd : 1 ≤ 1 + (n + 1) := Nat.le_add_right _ _
    generalize hde : 1 + (n + 1) = d at hd ⊢
    have hS : ∃ d', d' < d ∧ ∀ (p1 : Int32) (p2 : Int32) (p3 : Int32) (M : oM) (v : Unit) (M' : oM) , f_X12_carry N K n p1 p2 p3 M = some (v, M') → oMet X d' J_X12_carry [(.ref 59), (.int p1), (.int p2), (.int p3)] K M none K M' := ⟨1 + n, by omega, hS0⟩
    refine oe_iload_n (pc := 0) d_X12_carry_0 rfl ?_
    refine oe_aload_n (pc := 1) d_X12_carry_1 rfl ?_
    refine oe_getf (pc := 2) d_X12_carry_2 fl_X12_334 ock12 (k := 49) (Nat.le_of_ble_eq_true rfl) rfl (oLt hK (a := 59) (Nat.le_of_ble_eq_true rfl)) (oSho hK (a := 59) (Nat.le_of_ble_eq_true rfl) rfl) ?_
    refine oe_icmp_ne (pc := 5) (tgt := 73) d_X12_carry_5 (by decide) (fun c1 => ?_) (fun c1 => ?_)
    · replace h := (if_neg c1).symm.trans h
      refine oe_iconst (pc := 73) (v := 0) d_X12_carry_73 rfl ?_
      refine oe_istore (pc := 74) (L2 := [_, _, _, _, _, _]) d_X12_carry_74 rfl (Nat.le_of_ble_eq_true rfl) rfl ?_
      exact v_X12_carry_76 hd hK hS   h
    · replace h := (if_pos c1).symm.trans h
      refine oe_iconst (pc := 8) (v := 0) d_X12_carry_8 rfl ?_
      refine oe_istore (pc := 9) (L2 := [_, _, _, _, _, _]) d_X12_carry_9 rfl (Nat.le_of_ble_eq_true rfl) rfl ?_
      refine oe_iconst (pc := 11) (v := 0) d_X12_carry_11 rfl ?_
      refine oe_istore (pc := 12) (L2 := [_, _, _, _, _, _]) d_X12_carry_12 rfl (Nat.le_of_ble_eq_true rfl) rfl ?_
      refine oEv.fg [true, false, true, true, true, true] ?_
      exact v_X12_carry_14 hd hK hS   h
theorem d_X12_minutes_0 : decode J_X12_minutes.2.1 0 = .ok (.iload_n 1, 1) := by decide +kernel
theorem d_X12_minutes_1 : decode J_X12_minutes.2.1 1 = .ok (.i2l, 1) := by decide +kernel
theorem d_X12_minutes_2 : decode J_X12_minutes.2.1 2 = .ok (.lconst 1, 1) := by decide +kernel
theorem d_X12_minutes_3 : decode J_X12_minutes.2.1 3 = .ok (.ldc2_w 178, 3) := by decide +kernel
theorem d_X12_minutes_6 : decode J_X12_minutes.2.1 6 = .ok (.invokestatic 145, 3) := by decide +kernel
theorem d_X12_minutes_9 : decode J_X12_minutes.2.1 9 = .ok (.ifCond .eq 13, 3) := by decide +kernel
theorem d_X12_minutes_12 : decode J_X12_minutes.2.1 12 = .ok (.iload_n 2, 1) := by decide +kernel
theorem d_X12_minutes_13 : decode J_X12_minutes.2.1 13 = .ok (.i2l, 1) := by decide +kernel
theorem d_X12_minutes_14 : decode J_X12_minutes.2.1 14 = .ok (.lconst 0, 1) := by decide +kernel
theorem d_X12_minutes_15 : decode J_X12_minutes.2.1 15 = .ok (.lconst 1, 1) := by decide +kernel
theorem d_X12_minutes_16 : decode J_X12_minutes.2.1 16 = .ok (.invokestatic 145, 3) := by decide +kernel
theorem d_X12_minutes_19 : decode J_X12_minutes.2.1 19 = .ok (.ifCond .ne 5, 3) := by decide +kernel
theorem d_X12_minutes_22 : decode J_X12_minutes.2.1 22 = .ok (.iconst (-1), 1) := by decide +kernel
theorem d_X12_minutes_23 : decode J_X12_minutes.2.1 23 = .ok (.ireturn, 1) := by decide +kernel
theorem d_X12_minutes_24 : decode J_X12_minutes.2.1 24 = .ok (.aload_n 0, 1) := by decide +kernel
theorem d_X12_minutes_25 : decode J_X12_minutes.2.1 25 = .ok (.getfield 334, 3) := by decide +kernel
theorem d_X12_minutes_28 : decode J_X12_minutes.2.1 28 = .ok (.ifCond .ne 6, 3) := by decide +kernel
theorem d_X12_minutes_31 : decode J_X12_minutes.2.1 31 = .ok (.bipush (-5), 2) := by decide +kernel
theorem d_X12_minutes_33 : decode J_X12_minutes.2.1 33 = .ok (.ireturn, 1) := by decide +kernel
theorem d_X12_minutes_34 : decode J_X12_minutes.2.1 34 = .ok (.aload_n 0, 1) := by decide +kernel
theorem d_X12_minutes_35 : decode J_X12_minutes.2.1 35 = .ok (.ldc_w 346, 3) := by decide +kernel
theorem d_X12_minutes_38 : decode J_X12_minutes.2.1 38 = .ok (.putfield 337, 3) := by decide +kernel
theorem d_X12_minutes_41 : decode J_X12_minutes.2.1 41 = .ok (.iconst 0, 1) := by decide +kernel
theorem d_X12_minutes_42 : decode J_X12_minutes.2.1 42 = .ok (.istore_n 3, 1) := by decide +kernel
theorem d_X12_minutes_43 : decode J_X12_minutes.2.1 43 = .ok (.iload_n 3, 1) := by decide +kernel
theorem d_X12_minutes_44 : decode J_X12_minutes.2.1 44 = .ok (.iconst 4, 1) := by decide +kernel
theorem d_X12_minutes_45 : decode J_X12_minutes.2.1 45 = .ok (.if_icmp .ge 16, 3) := by decide +kernel
theorem d_X12_minutes_48 : decode J_X12_minutes.2.1 48 = .ok (.aload_n 0, 1) := by decide +kernel
theorem d_X12_minutes_49 : decode J_X12_minutes.2.1 49 = .ok (.getfield 107, 3) := by decide +kernel
theorem d_X12_minutes_52 : decode J_X12_minutes.2.1 52 = .ok (.iload_n 3, 1) := by decide +kernel
theorem d_X12_minutes_53 : decode J_X12_minutes.2.1 53 = .ok (.iconst 0, 1) := by decide +kernel
theorem d_X12_minutes_54 : decode J_X12_minutes.2.1 54 = .ok (.iastore, 1) := by decide +kernel
theorem d_X12_minutes_55 : decode J_X12_minutes.2.1 55 = .ok (.iinc 3 1, 3) := by decide +kernel
theorem d_X12_minutes_58 : decode J_X12_minutes.2.1 58 = .ok (.goto (-15), 3) := by decide +kernel
theorem d_X12_minutes_61 : decode J_X12_minutes.2.1 61 = .ok (.aload_n 0, 1) := by decide +kernel
theorem d_X12_minutes_62 : decode J_X12_minutes.2.1 62 = .ok (.iconst 0, 1) := by decide +kernel
theorem d_X12_minutes_63 : decode J_X12_minutes.2.1 63 = .ok (.iload_n 1, 1) := by decide +kernel
theorem d_X12_minutes_64 : decode J_X12_minutes.2.1 64 = .ok (.iconst 0, 1) := by decide +kernel
theorem d_X12_minutes_65 : decode J_X12_minutes.2.1 65 = .ok (.invokevirtual 343, 3) := by decide +kernel
theorem d_X12_minutes_68 : decode J_X12_minutes.2.1 68 = .ok (.iload_n 2, 1) := by decide +kernel
theorem d_X12_minutes_69 : decode J_X12_minutes.2.1 69 = .ok (.ifCond .ne 10, 3) := by decide +kernel
theorem d_X12_minutes_72 : decode J_X12_minutes.2.1 72 = .ok (.aload_n 0, 1) := by decide +kernel
theorem d_X12_minutes_73 : decode J_X12_minutes.2.1 73 = .ok (.getfield 337, 3) := by decide +kernel
theorem d_X12_minutes_76 : decode J_X12_minutes.2.1 76 = .ok (.goto 7, 3) := by decide +kernel
theorem d_X12_minutes_79 : decode J_X12_minutes.2.1 79 = .ok (.aload_n 0, 1) := by decide +kernel
theorem d_X12_minutes_80 : decode J_X12_minutes.2.1 80 = .ok (.getfield 340, 3) := by decide +kernel
theorem d_X12_minutes_83 : decode J_X12_minutes.2.1 83 = .ok (.ireturn, 1) := by decide +kernel
def f_X12_minutes_43 (N : Nat) (K : oK)  : Nat → Int32 → Int32 → Int32 → oM → Option (Int32 × oM)
  | 0, _, _, _, _ => none
  | n + 1, p1, p2, p3, M => (fun r43 => (if 4 ≤ p3 then oB2 (f_X12_carry N K 10 (0 : Int32) p1 (0 : Int32) M) (fun v9 M10 => (if p2 = 0 then some ((M10.1 59 52), M10) else some ((M10.1 59 53), M10))) else oIx (p3) 4 ((r43 p1 p2 (p3 + 1) (oUp M 92 (p3 : Int32).toNatClampNeg (0 : Int32)))))) (f_X12_minutes_43 N K  n)
set_option maxRecDepth 20000 in
theorem v_X12_minutes_43_L {X : oX} {d N : Nat} {K : oK}  (hd : 12 ≤ d) (hK : oSR K)  : ∀ (n : Nat) (p1 : Int32) (p2 : Int32) (p3 : Int32) (M : oM) (v : Int32) (M' : oM)  , f_X12_minutes_43 N K  n p1 p2 p3 M = some (v, M') → oEv X d J_X12_minutes 43 [some (.ref 59), some (.int p1), some (.int p2), some (.int p3)] [] K M (some (.int v)) K M' := by
  intro n
  induction n with
  | zero =>
    intro p1 p2 p3 M v M'   h
    cases h
  | succ n hr43 =>
    intro p1 p2 p3 M v M'   h
    refine oe_iload_n (pc := 43) d_X12_minutes_43 rfl ?_
    refine oe_iconst (pc := 44) (v := 4) d_X12_minutes_44 rfl ?_
    refine oe_icmp_ge (pc := 45) (tgt := 61) d_X12_minutes_45 (by decide) (fun c8 => ?_) (fun c8 => ?_)
    · replace h := (if_pos c8).symm.trans h
      refine oe_aload_n (pc := 61) d_X12_minutes_61 rfl ?_
      refine oe_iconst (pc := 62) (v := 0) d_X12_minutes_62 rfl ?_
      refine oe_iload_n (pc := 63) d_X12_minutes_63 rfl ?_
      refine oe_iconst (pc := 64) (v := 0) d_X12_minutes_64 rfl ?_
      obtain ⟨v9, M10, q11, h⟩ := oB2_some h
      refine oe_callV (pc := 65) (ci := 12) d_X12_minutes_65 (v_X12_carry_R hK 10 _ _ _ _ _ _  q11) (by omega) ml_X12_343 jJ_X12_carry rfl rfl (oLt hK (a := 59) (Nat.le_of_ble_eq_true rfl)) (oSho hK (a := 59) (Nat.le_of_ble_eq_true rfl) rfl) ock12 rfl (Nat.le_of_ble_eq_true rfl) ⟨Nat.le_refl _, Nat.le_refl _⟩ ⟨Nat.le_refl _, Nat.le_refl _⟩ ?_
      refine oe_iload_n (pc := 68) d_X12_minutes_68 rfl ?_
      refine oe_if_ne (pc := 69) (tgt := 79) d_X12_minutes_69 (by decide) (fun c12 => ?_) (fun c12 => ?_)
      · replace h := (if_neg c12).symm.trans h
        refine oe_aload_n (pc := 79) d_X12_minutes_79 rfl ?_
        refine oe_getf (pc := 80) d_X12_minutes_80 fl_X12_340 ock12 (k := 53) (Nat.le_of_ble_eq_true rfl) rfl (oLt hK (a := 59) (Nat.le_of_ble_eq_true rfl)) (oSho hK (a := 59) (Nat.le_of_ble_eq_true rfl) rfl) ?_
        obtain ⟨rfl, rfl⟩ := oRes h
        exact oe_iret (pc := 83) d_X12_minutes_83 ⟨_, rfl, rfl⟩
      · replace h := (if_pos c12).symm.trans h
        refine oe_aload_n (pc := 72) d_X12_minutes_72 rfl ?_
        refine oe_getf (pc := 73) d_X12_minutes_73 fl_X12_337 ock12 (k := 52) (Nat.le_of_ble_eq_true rfl) rfl (oLt hK (a := 59) (Nat.le_of_ble_eq_true rfl)) (oSho hK (a := 59) (Nat.le_of_ble_eq_true rfl) rfl) ?_
        refine oe_goto (pc := 76) (tgt := 83) d_X12_minutes_76 (by decide) ?_
        obtain ⟨rfl, rfl⟩ := oRes h
        exact oe_iret (pc := 83) d_X12_minutes_83 ⟨_, rfl, rfl⟩
    · replace h := (if_neg c8).symm.trans h
      refine oe_aload_n (pc := 48) d_X12_minutes_48 rfl ?_
      refine oe_getr (pc := 49) d_X12_minutes_49 fl_X12_107 ock12 (k := 51) (b := 92) (Nat.le_of_ble_eq_true rfl) (by decide) (oLt hK (a := 59) (Nat.le_of_ble_eq_true rfl)) (oSho hK (a := 59) (Nat.le_of_ble_eq_true rfl) rfl) (oRfK hK rfl) ?_
      refine oe_iload_n (pc := 52) d_X12_minutes_52 rfl ?_
      refine oe_iconst (pc := 53) (v := 0) d_X12_minutes_53 rfl ?_
      obtain ⟨i13, h⟩ := oIx_some h
      refine oe_iast (pc := 54) d_X12_minutes_54 (oLt hK (a := 92) (Nat.le_of_ble_eq_true rfl)) (oSha hK (a := 92) (Nat.le_of_ble_eq_true rfl) rfl) i13 ?_
      refine oe_iinc (pc := 55) (v := (p3 + 1)) (L2 := [_, _, _, _]) d_X12_minutes_55 rfl rfl rfl (Nat.le_of_ble_eq_true rfl) rfl ?_
      refine oe_goto (pc := 58) (tgt := 43) d_X12_minutes_58 (by decide) ?_
      exact hr43 _ _ _ _ _ _ h
theorem v_X12_minutes_43 {X : oX} {d N : Nat} {K : oK}  {p1 : Int32} {p2 : Int32} {p3 : Int32} {M : oM} {v : Int32} {M' : oM}  (hd : 12 ≤ d) (hK : oSR K)   (h : f_X12_minutes_43 N K  N p1 p2 p3 M = some (v, M')) : oEv X d J_X12_minutes 43 [some (.ref 59), some (.int p1), some (.int p2), some (.int p3)] [] K M (some (.int v)) K M' := v_X12_minutes_43_L hd hK  N p1 p2 p3 M v M'   h
def f_X12_minutes (N : Nat) (K : oK) (p1 : Int32) (p2 : Int32) (M : oM) : Option (Int32 × oM) :=
  oB2 (f_X12_within N K ((p1 : Int32).toInt64) 1 4 M) (fun v1 M2 => cond v1 (oB2 (f_X12_within N K ((p2 : Int32).toInt64) 0 1 M2) (fun v4 M5 => cond v4 ((if (M5.1 59 49) = 0 then some ((-5), M5) else (f_X12_minutes_43 N K  N p1 p2 0 (oUp M5 59 52 (1000000 : Int32))))) (some ((-1), M5)))) (some ((-1), M2)))
set_option maxRecDepth 20000 in
theorem v_X12_minutes {X : oX} {N : Nat} {K : oK} {p1 : Int32} {p2 : Int32} {M : oM} {v : Int32} {M' : oM} (hK : oSR K)  (h : f_X12_minutes N K p1 p2 M = some (v, M')) : oMet X 12 J_X12_minutes [(.ref 59), (.int p1), (.int p2)] K M (some (.int v)) K M' := by
  unfold f_X12_minutes at h
  refine oMet_of (L := [some (.ref 59), some (.int p1), some (.int p2), none]) jJ_X12_minutes.1 rfl (Nat.le_of_ble_eq_true rfl) rfl (Nat.le_refl _) (Nat.le_refl _) ?_
  have hd : 12 ≤ 12 := Nat.le_refl _
  refine oe_iload_n (pc := 0) d_X12_minutes_0 rfl ?_
  refine oe_i2l (pc := 1) d_X12_minutes_1 ?_
  refine oe_lconst (pc := 2) (v := 1) d_X12_minutes_2 rfl ?_
  refine oe_ldc2 (pc := 3) d_X12_minutes_3 co_X12_178 ?_
  obtain ⟨v1, M2, q3, h⟩ := oB2_some h
  cases v1 with
  | true =>
    replace h := oCt h
    refine oe_callS (pc := 6) d_X12_minutes_6 (v_X12_within hK  q3) (by omega) ml_X12_145 jJ_X12_within rfl rfl (Nat.le_of_ble_eq_true rfl) ⟨Nat.le_refl _, Nat.le_refl _⟩ ⟨Nat.le_refl _, Nat.le_refl _⟩ ?_
    refine oe_if_eq (pc := 9) (tgt := 22) d_X12_minutes_9 (by decide) (fun c => absurd c (by decide)) (fun _ => ?_)
    refine oe_iload_n (pc := 12) d_X12_minutes_12 rfl ?_
    refine oe_i2l (pc := 13) d_X12_minutes_13 ?_
    refine oe_lconst (pc := 14) (v := 0) d_X12_minutes_14 rfl ?_
    refine oe_lconst (pc := 15) (v := 1) d_X12_minutes_15 rfl ?_
    obtain ⟨v4, M5, q6, h⟩ := oB2_some h
    cases v4 with
    | true =>
      replace h := oCt h
      refine oe_callS (pc := 16) d_X12_minutes_16 (v_X12_within hK  q6) (by omega) ml_X12_145 jJ_X12_within rfl rfl (Nat.le_of_ble_eq_true rfl) ⟨Nat.le_refl _, Nat.le_refl _⟩ ⟨Nat.le_refl _, Nat.le_refl _⟩ ?_
      refine oe_if_ne (pc := 19) (tgt := 24) d_X12_minutes_19 (by decide) (fun _ => ?_) (fun c => absurd c (by decide))
      refine oe_aload_n (pc := 24) d_X12_minutes_24 rfl ?_
      refine oe_getf (pc := 25) d_X12_minutes_25 fl_X12_334 ock12 (k := 49) (Nat.le_of_ble_eq_true rfl) rfl (oLt hK (a := 59) (Nat.le_of_ble_eq_true rfl)) (oSho hK (a := 59) (Nat.le_of_ble_eq_true rfl) rfl) ?_
      refine oe_if_ne (pc := 28) (tgt := 34) d_X12_minutes_28 (by decide) (fun c7 => ?_) (fun c7 => ?_)
      · replace h := (if_neg c7).symm.trans h
        refine oe_aload_n (pc := 34) d_X12_minutes_34 rfl ?_
        refine oe_ldcw (pc := 35) d_X12_minutes_35 co_X12_346 ?_
        refine oe_putf (pc := 38) d_X12_minutes_38 fl_X12_337 ock12 (k := 52) (Nat.le_of_ble_eq_true rfl) rfl rfl (oLt hK (a := 59) (Nat.le_of_ble_eq_true rfl)) (oSho hK (a := 59) (Nat.le_of_ble_eq_true rfl) rfl) ?_
        refine oe_iconst (pc := 41) (v := 0) d_X12_minutes_41 rfl ?_
        refine oe_istore_n (pc := 42) (L2 := [_, _, _, _]) d_X12_minutes_42 rfl rfl (Nat.le_of_ble_eq_true rfl) rfl ?_
        exact v_X12_minutes_43 hd hK   h
      · replace h := (if_pos c7).symm.trans h
        refine oe_bipush (pc := 31) (v := (-5)) d_X12_minutes_31 rfl ?_
        obtain ⟨rfl, rfl⟩ := oRes h
        exact oe_iret (pc := 33) d_X12_minutes_33 ⟨_, rfl, rfl⟩
    | false =>
      replace h := oCf h
      refine oe_callS (pc := 16) d_X12_minutes_16 (v_X12_within hK  q6) (by omega) ml_X12_145 jJ_X12_within rfl rfl (Nat.le_of_ble_eq_true rfl) ⟨Nat.le_refl _, Nat.le_refl _⟩ ⟨Nat.le_refl _, Nat.le_refl _⟩ ?_
      refine oe_if_ne (pc := 19) (tgt := 24) d_X12_minutes_19 (by decide) (fun c => absurd (by decide) c) (fun _ => ?_)
      refine oe_iconst (pc := 22) (v := (-1)) d_X12_minutes_22 rfl ?_
      obtain ⟨rfl, rfl⟩ := oRes h
      exact oe_iret (pc := 23) d_X12_minutes_23 ⟨_, rfl, rfl⟩
  | false =>
    replace h := oCf h
    refine oe_callS (pc := 6) d_X12_minutes_6 (v_X12_within hK  q3) (by omega) ml_X12_145 jJ_X12_within rfl rfl (Nat.le_of_ble_eq_true rfl) ⟨Nat.le_refl _, Nat.le_refl _⟩ ⟨Nat.le_refl _, Nat.le_refl _⟩ ?_
    refine oe_if_eq (pc := 9) (tgt := 22) d_X12_minutes_9 (by decide) (fun _ => ?_) (fun c => absurd (by decide) c)
    refine oe_iconst (pc := 22) (v := (-1)) d_X12_minutes_22 rfl ?_
    obtain ⟨rfl, rfl⟩ := oRes h
    exact oe_iret (pc := 23) d_X12_minutes_23 ⟨_, rfl, rfl⟩
