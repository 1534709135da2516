/-! walked by program: X11_way, X11_isBore, X11_bore, X11_engine, X11_feed, X11_table, X11_isFlow, X11_loses, X11_lifts, X11_layingAt, X11_addPart, X11_part, X11_shelfAt, X11_addParts -/
theorem d_X11_way_0 : decode J_X11_way.2.1 0 = .ok (.aload_n 0, 1) := by decide +kernel
theorem d_X11_way_1 : decode J_X11_way.2.1 1 = .ok (.getfield 21, 3) := by decide +kernel
theorem d_X11_way_4 : decode J_X11_way.2.1 4 = .ok (.iload_n 1, 1) := by decide +kernel
theorem d_X11_way_5 : decode J_X11_way.2.1 5 = .ok (.invokevirtual 97, 3) := by decide +kernel
theorem d_X11_way_8 : decode J_X11_way.2.1 8 = .ok (.ifCond .eq 29, 3) := by decide +kernel
theorem d_X11_way_11 : decode J_X11_way.2.1 11 = .ok (.aload_n 0, 1) := by decide +kernel
theorem d_X11_way_12 : decode J_X11_way.2.1 12 = .ok (.getfield 21, 3) := by decide +kernel
theorem d_X11_way_15 : decode J_X11_way.2.1 15 = .ok (.iload_n 2, 1) := by decide +kernel
theorem d_X11_way_16 : decode J_X11_way.2.1 16 = .ok (.invokevirtual 97, 3) := by decide +kernel
theorem d_X11_way_19 : decode J_X11_way.2.1 19 = .ok (.ifCond .eq 18, 3) := by decide +kernel
theorem d_X11_way_22 : decode J_X11_way.2.1 22 = .ok (.iload_n 1, 1) := by decide +kernel
theorem d_X11_way_23 : decode J_X11_way.2.1 23 = .ok (.iload_n 2, 1) := by decide +kernel
theorem d_X11_way_24 : decode J_X11_way.2.1 24 = .ok (.if_icmp .eq 13, 3) := by decide +kernel
theorem d_X11_way_27 : decode J_X11_way.2.1 27 = .ok (.iload_n 3, 1) := by decide +kernel
theorem d_X11_way_28 : decode J_X11_way.2.1 28 = .ok (.iconst 1, 1) := by decide +kernel
theorem d_X11_way_29 : decode J_X11_way.2.1 29 = .ok (.bipush 30, 2) := by decide +kernel
theorem d_X11_way_31 : decode J_X11_way.2.1 31 = .ok (.invokestatic 89, 3) := by decide +kernel
theorem d_X11_way_34 : decode J_X11_way.2.1 34 = .ok (.ifCond .ne 5, 3) := by decide +kernel
theorem d_X11_way_37 : decode J_X11_way.2.1 37 = .ok (.iconst (-1), 1) := by decide +kernel
theorem d_X11_way_38 : decode J_X11_way.2.1 38 = .ok (.ireturn, 1) := by decide +kernel
theorem d_X11_way_39 : decode J_X11_way.2.1 39 = .ok (.aload_n 0, 1) := by decide +kernel
theorem d_X11_way_40 : decode J_X11_way.2.1 40 = .ok (.getfield 21, 3) := by decide +kernel
theorem d_X11_way_43 : decode J_X11_way.2.1 43 = .ok (.iload_n 1, 1) := by decide +kernel
theorem d_X11_way_44 : decode J_X11_way.2.1 44 = .ok (.iload_n 2, 1) := by decide +kernel
theorem d_X11_way_45 : decode J_X11_way.2.1 45 = .ok (.iload_n 3, 1) := by decide +kernel
theorem d_X11_way_46 : decode J_X11_way.2.1 46 = .ok (.invokevirtual 105, 3) := by decide +kernel
theorem d_X11_way_49 : decode J_X11_way.2.1 49 = .ok (.ireturn, 1) := by decide +kernel
def f_X11_way (N : Nat) (K : oK) (p1 : Int32) (p2 : Int32) (p3 : Int32) (M : oM) : Option (Int32 × oM) :=
  oB2 (f_X4_isPoint N K p1 M) (fun v1 M2 => cond v1 (oB2 (f_X4_isPoint N K p2 M2) (fun v4 M5 => cond v4 ((if p1 = p2 then some ((-1), M5) else oB2 (f_X11_within N K p3 (1 : Int32) (30 : Int32) M5) (fun v8 M9 => cond v8 (oB2 (f_X4_addWay N K p1 p2 p3 M9) (fun v11 M12 => some (v11, M12))) (some ((-1), M9))))) (some ((-1), M5)))) (some ((-1), M2)))
set_option maxRecDepth 20000 in
theorem v_X11_way {X : oX} {N : Nat} {K : oK} {p1 : Int32} {p2 : Int32} {p3 : Int32} {M : oM} {v : Int32} {M' : oM} (hK : oSR K)  (h : f_X11_way N K p1 p2 p3 M = some (v, M')) : oMet X 2 J_X11_way [(.ref 0), (.int p1), (.int p2), (.int p3)] K M (some (.int v)) K M' := by
  unfold f_X11_way at h
  refine oMet_of (L := [some (.ref 0), some (.int p1), some (.int p2), some (.int p3)]) jJ_X11_way.1 rfl (Nat.le_of_ble_eq_true rfl) rfl (Nat.le_refl _) (Nat.le_refl _) ?_
  have hd : 2 ≤ 2 := Nat.le_refl _
  refine oe_aload_n (pc := 0) d_X11_way_0 rfl ?_
  refine oe_getr (pc := 1) d_X11_way_1 fl_X11_21 ock11 (k := 1) (b := 6) (Nat.le_of_ble_eq_true rfl) (by decide) (oLt hK (a := 0) (Nat.le_of_ble_eq_true rfl)) (oSho hK (a := 0) (Nat.le_of_ble_eq_true rfl) rfl) (oRfK hK rfl) ?_
  refine oe_iload_n (pc := 4) d_X11_way_4 rfl ?_
  obtain ⟨v1, M2, q3, h⟩ := oB2_some h
  cases v1 with
  | true =>
    replace h := oCt h
    refine oe_callV (pc := 5) (ci := 4) d_X11_way_5 (v_X4_isPoint hK  q3) (by omega) ml_X11_97 jJ_X4_isPoint rfl rfl (oLt hK (a := 6) (Nat.le_of_ble_eq_true rfl)) (oSho hK (a := 6) (Nat.le_of_ble_eq_true rfl) rfl) ock4 rfl (Nat.le_of_ble_eq_true rfl) ⟨Nat.le_refl _, Nat.le_refl _⟩ ⟨Nat.le_refl _, Nat.le_refl _⟩ ?_
    refine oe_if_eq (pc := 8) (tgt := 37) d_X11_way_8 (by decide) (fun c => absurd c (by decide)) (fun _ => ?_)
    refine oe_aload_n (pc := 11) d_X11_way_11 rfl ?_
    refine oe_getr (pc := 12) d_X11_way_12 fl_X11_21 ock11 (k := 1) (b := 6) (Nat.le_of_ble_eq_true rfl) (by decide) (oLt hK (a := 0) (Nat.le_of_ble_eq_true rfl)) (oSho hK (a := 0) (Nat.le_of_ble_eq_true rfl) rfl) (oRfK hK rfl) ?_
    refine oe_iload_n (pc := 15) d_X11_way_15 rfl ?_
    obtain ⟨v4, M5, q6, h⟩ := oB2_some h
    cases v4 with
    | true =>
      replace h := oCt h
      refine oe_callV (pc := 16) (ci := 4) d_X11_way_16 (v_X4_isPoint hK  q6) (by omega) ml_X11_97 jJ_X4_isPoint rfl rfl (oLt hK (a := 6) (Nat.le_of_ble_eq_true rfl)) (oSho hK (a := 6) (Nat.le_of_ble_eq_true rfl) rfl) ock4 rfl (Nat.le_of_ble_eq_true rfl) ⟨Nat.le_refl _, Nat.le_refl _⟩ ⟨Nat.le_refl _, Nat.le_refl _⟩ ?_
      refine oe_if_eq (pc := 19) (tgt := 37) d_X11_way_19 (by decide) (fun c => absurd c (by decide)) (fun _ => ?_)
      refine oe_iload_n (pc := 22) d_X11_way_22 rfl ?_
      refine oe_iload_n (pc := 23) d_X11_way_23 rfl ?_
      refine oe_icmp_eq (pc := 24) (tgt := 37) d_X11_way_24 (by decide) (fun c7 => ?_) (fun c7 => ?_)
      · replace h := (if_pos c7).symm.trans h
        refine oe_iconst (pc := 37) (v := (-1)) d_X11_way_37 rfl ?_
        obtain ⟨rfl, rfl⟩ := oRes h
        exact oe_iret (pc := 38) d_X11_way_38 ⟨_, rfl, rfl⟩
      · replace h := (if_neg c7).symm.trans h
        refine oe_iload_n (pc := 27) d_X11_way_27 rfl ?_
        refine oe_iconst (pc := 28) (v := 1) d_X11_way_28 rfl ?_
        refine oe_bipush (pc := 29) (v := 30) d_X11_way_29 rfl ?_
        obtain ⟨v8, M9, q10, h⟩ := oB2_some h
        cases v8 with
        | true =>
          replace h := oCt h
          refine oe_callS (pc := 31) d_X11_way_31 (v_X11_within hK  q10) (by omega) ml_X11_89 jJ_X11_within rfl rfl (Nat.le_of_ble_eq_true rfl) ⟨Nat.le_refl _, Nat.le_refl _⟩ ⟨Nat.le_refl _, Nat.le_refl _⟩ ?_
          refine oe_if_ne (pc := 34) (tgt := 39) d_X11_way_34 (by decide) (fun _ => ?_) (fun c => absurd c (by decide))
          refine oe_aload_n (pc := 39) d_X11_way_39 rfl ?_
          refine oe_getr (pc := 40) d_X11_way_40 fl_X11_21 ock11 (k := 1) (b := 6) (Nat.le_of_ble_eq_true rfl) (by decide) (oLt hK (a := 0) (Nat.le_of_ble_eq_true rfl)) (oSho hK (a := 0) (Nat.le_of_ble_eq_true rfl) rfl) (oRfK hK rfl) ?_
          refine oe_iload_n (pc := 43) d_X11_way_43 rfl ?_
          refine oe_iload_n (pc := 44) d_X11_way_44 rfl ?_
          refine oe_iload_n (pc := 45) d_X11_way_45 rfl ?_
          obtain ⟨v11, M12, q13, h⟩ := oB2_some h
          refine oe_callV (pc := 46) (ci := 4) d_X11_way_46 (v_X4_addWay hK  q13) (by omega) ml_X11_105 jJ_X4_addWay rfl rfl (oLt hK (a := 6) (Nat.le_of_ble_eq_true rfl)) (oSho hK (a := 6) (Nat.le_of_ble_eq_true rfl) rfl) ock4 rfl (Nat.le_of_ble_eq_true rfl) ⟨Nat.le_refl _, Nat.le_refl _⟩ ⟨Nat.le_refl _, Nat.le_refl _⟩ ?_
          obtain ⟨rfl, rfl⟩ := oRes h
          exact oe_iret (pc := 49) d_X11_way_49 ⟨_, rfl, rfl⟩
        | false =>
          replace h := oCf h
          refine oe_callS (pc := 31) d_X11_way_31 (v_X11_within hK  q10) (by omega) ml_X11_89 jJ_X11_within rfl rfl (Nat.le_of_ble_eq_true rfl) ⟨Nat.le_refl _, Nat.le_refl _⟩ ⟨Nat.le_refl _, Nat.le_refl _⟩ ?_
          refine oe_if_ne (pc := 34) (tgt := 39) d_X11_way_34 (by decide) (fun c => absurd (by decide) c) (fun _ => ?_)
          refine oe_iconst (pc := 37) (v := (-1)) d_X11_way_37 rfl ?_
          obtain ⟨rfl, rfl⟩ := oRes h
          exact oe_iret (pc := 38) d_X11_way_38 ⟨_, rfl, rfl⟩
    | false =>
      replace h := oCf h
      refine oe_callV (pc := 16) (ci := 4) d_X11_way_16 (v_X4_isPoint hK  q6) (by omega) ml_X11_97 jJ_X4_isPoint rfl rfl (oLt hK (a := 6) (Nat.le_of_ble_eq_true rfl)) (oSho hK (a := 6) (Nat.le_of_ble_eq_true rfl) rfl) ock4 rfl (Nat.le_of_ble_eq_true rfl) ⟨Nat.le_refl _, Nat.le_refl _⟩ ⟨Nat.le_refl _, Nat.le_refl _⟩ ?_
      refine oe_if_eq (pc := 19) (tgt := 37) d_X11_way_19 (by decide) (fun _ => ?_) (fun c => absurd (by decide) c)
      refine oe_iconst (pc := 37) (v := (-1)) d_X11_way_37 rfl ?_
      obtain ⟨rfl, rfl⟩ := oRes h
      exact oe_iret (pc := 38) d_X11_way_38 ⟨_, rfl, rfl⟩
  | false =>
    replace h := oCf h
    refine oe_callV (pc := 5) (ci := 4) d_X11_way_5 (v_X4_isPoint hK  q3) (by omega) ml_X11_97 jJ_X4_isPoint rfl rfl (oLt hK (a := 6) (Nat.le_of_ble_eq_true rfl)) (oSho hK (a := 6) (Nat.le_of_ble_eq_true rfl) rfl) ock4 rfl (Nat.le_of_ble_eq_true rfl) ⟨Nat.le_refl _, Nat.le_refl _⟩ ⟨Nat.le_refl _, Nat.le_refl _⟩ ?_
    refine oe_if_eq (pc := 8) (tgt := 37) d_X11_way_8 (by decide) (fun _ => ?_) (fun c => absurd (by decide) c)
    refine oe_iconst (pc := 37) (v := (-1)) d_X11_way_37 rfl ?_
    obtain ⟨rfl, rfl⟩ := oRes h
    exact oe_iret (pc := 38) d_X11_way_38 ⟨_, rfl, rfl⟩
theorem d_X11_isBore_0 : decode J_X11_isBore.2.1 0 = .ok (.iload_n 0, 1) := by decide +kernel
theorem d_X11_isBore_1 : decode J_X11_isBore.2.1 1 = .ok (.iconst 0, 1) := by decide +kernel
theorem d_X11_isBore_2 : decode J_X11_isBore.2.1 2 = .ok (.iconst 2, 1) := by decide +kernel
theorem d_X11_isBore_3 : decode J_X11_isBore.2.1 3 = .ok (.invokestatic 89, 3) := by decide +kernel
theorem d_X11_isBore_6 : decode J_X11_isBore.2.1 6 = .ok (.ireturn, 1) := by decide +kernel
def f_X11_isBore (N : Nat) (K : oK) (p0 : Int32) (M : oM) : Option (Bool × oM) :=
  oB2 (f_X11_within N K p0 (0 : Int32) (2 : Int32) M) (fun v1 M2 => cond v1 (some (true, M2)) (some (false, M2)))
set_option maxRecDepth 20000 in
theorem v_X11_isBore {X : oX} {N : Nat} {K : oK} {p0 : Int32} {M : oM} {v : Bool} {M' : oM} (hK : oSR K)  (h : f_X11_isBore N K p0 M = some (v, M')) : oMet X 2 J_X11_isBore [(.int p0)] K M (some (.int (oBi v))) K M' := by
  unfold f_X11_isBore at h
  refine oMet_of (L := [some (.int p0)]) jJ_X11_isBore.1 rfl (Nat.le_of_ble_eq_true rfl) rfl (Nat.le_refl _) (Nat.le_refl _) ?_
  have hd : 2 ≤ 2 := Nat.le_refl _
  refine oe_iload_n (pc := 0) d_X11_isBore_0 rfl ?_
  refine oe_iconst (pc := 1) (v := 0) d_X11_isBore_1 rfl ?_
  refine oe_iconst (pc := 2) (v := 2) d_X11_isBore_2 rfl ?_
  obtain ⟨v1, M2, q3, h⟩ := oB2_some h
  cases v1 with
  | true =>
    replace h := oCt h
    refine oe_callS (pc := 3) d_X11_isBore_3 (v_X11_within hK  q3) (by omega) ml_X11_89 jJ_X11_within rfl rfl (Nat.le_of_ble_eq_true rfl) ⟨Nat.le_refl _, Nat.le_refl _⟩ ⟨Nat.le_refl _, Nat.le_refl _⟩ ?_
    obtain ⟨rfl, rfl⟩ := oRes h
    exact oe_iret (pc := 6) d_X11_isBore_6 ⟨_, rfl, rfl⟩
  | false =>
    replace h := oCf h
    refine oe_callS (pc := 3) d_X11_isBore_3 (v_X11_within hK  q3) (by omega) ml_X11_89 jJ_X11_within rfl rfl (Nat.le_of_ble_eq_true rfl) ⟨Nat.le_refl _, Nat.le_refl _⟩ ⟨Nat.le_refl _, Nat.le_refl _⟩ ?_
    obtain ⟨rfl, rfl⟩ := oRes h
    exact oe_iret (pc := 6) d_X11_isBore_6 ⟨_, rfl, rfl⟩
theorem d_X11_bore_0 : decode J_X11_bore.2.1 0 = .ok (.iload_n 1, 1) := by decide +kernel
theorem d_X11_bore_1 : decode J_X11_bore.2.1 1 = .ok (.invokestatic 109, 3) := by decide +kernel
theorem d_X11_bore_4 : decode J_X11_bore.2.1 4 = .ok (.ifCond .eq 25, 3) := by decide +kernel
theorem d_X11_bore_7 : decode J_X11_bore.2.1 7 = .ok (.iload_n 2, 1) := by decide +kernel
theorem d_X11_bore_8 : decode J_X11_bore.2.1 8 = .ok (.iconst 0, 1) := by decide +kernel
theorem d_X11_bore_9 : decode J_X11_bore.2.1 9 = .ok (.iconst 2, 1) := by decide +kernel
theorem d_X11_bore_10 : decode J_X11_bore.2.1 10 = .ok (.invokestatic 89, 3) := by decide +kernel
theorem d_X11_bore_13 : decode J_X11_bore.2.1 13 = .ok (.ifCond .eq 16, 3) := by decide +kernel
theorem d_X11_bore_16 : decode J_X11_bore.2.1 16 = .ok (.iload_n 3, 1) := by decide +kernel
theorem d_X11_bore_17 : decode J_X11_bore.2.1 17 = .ok (.iconst 0, 1) := by decide +kernel
theorem d_X11_bore_18 : decode J_X11_bore.2.1 18 = .ok (.getstatic 112, 3) := by decide +kernel
theorem d_X11_bore_21 : decode J_X11_bore.2.1 21 = .ok (.iload_n 2, 1) := by decide +kernel
theorem d_X11_bore_22 : decode J_X11_bore.2.1 22 = .ok (.iaload, 1) := by decide +kernel
theorem d_X11_bore_23 : decode J_X11_bore.2.1 23 = .ok (.invokestatic 89, 3) := by decide +kernel
theorem d_X11_bore_26 : decode J_X11_bore.2.1 26 = .ok (.ifCond .ne 5, 3) := by decide +kernel
theorem d_X11_bore_29 : decode J_X11_bore.2.1 29 = .ok (.iconst (-1), 1) := by decide +kernel
theorem d_X11_bore_30 : decode J_X11_bore.2.1 30 = .ok (.ireturn, 1) := by decide +kernel
theorem d_X11_bore_31 : decode J_X11_bore.2.1 31 = .ok (.aload_n 0, 1) := by decide +kernel
theorem d_X11_bore_32 : decode J_X11_bore.2.1 32 = .ok (.getfield 10, 3) := by decide +kernel
theorem d_X11_bore_35 : decode J_X11_bore.2.1 35 = .ok (.iload_n 2, 1) := by decide +kernel
theorem d_X11_bore_36 : decode J_X11_bore.2.1 36 = .ok (.iconst 3, 1) := by decide +kernel
theorem d_X11_bore_37 : decode J_X11_bore.2.1 37 = .ok (.imul, 1) := by decide +kernel
theorem d_X11_bore_38 : decode J_X11_bore.2.1 38 = .ok (.iload_n 1, 1) := by decide +kernel
theorem d_X11_bore_39 : decode J_X11_bore.2.1 39 = .ok (.iadd, 1) := by decide +kernel
theorem d_X11_bore_40 : decode J_X11_bore.2.1 40 = .ok (.iload_n 3, 1) := by decide +kernel
theorem d_X11_bore_41 : decode J_X11_bore.2.1 41 = .ok (.invokevirtual 101, 3) := by decide +kernel
theorem d_X11_bore_44 : decode J_X11_bore.2.1 44 = .ok (.ireturn, 1) := by decide +kernel
def f_X11_bore (N : Nat) (K : oK) (p1 : Int32) (p2 : Int32) (p3 : Int32) (M : oM) : Option (Int32 × oM) :=
  oB2 (f_X11_isBore N K p1 M) (fun v1 M2 => cond v1 (oB2 (f_X11_within N K p2 (0 : Int32) (2 : Int32) M2) (fun v4 M5 => cond v4 (oIx (p2) 3 (oB2 (f_X11_within N K p3 (0 : Int32) (oTb 1 (p2 : Int32).toNatClampNeg) M5) (fun v8 M9 => cond v8 (oB2 (f_X8_become N K ((p2 * 3) + p1) p3 M9) (fun v11 M12 => some (v11, M12))) (some ((-1), M9))))) (some ((-1), M5)))) (some ((-1), M2)))
set_option maxRecDepth 20000 in
theorem v_X11_bore {X : oX} {N : Nat} {K : oK} {p1 : Int32} {p2 : Int32} {p3 : Int32} {M : oM} {v : Int32} {M' : oM} (hK : oSR K)  (h : f_X11_bore N K p1 p2 p3 M = some (v, M')) : oMet X 4 J_X11_bore [(.ref 0), (.int p1), (.int p2), (.int p3)] K M (some (.int v)) K M' := by
  unfold f_X11_bore at h
  refine oMet_of (L := [some (.ref 0), some (.int p1), some (.int p2), some (.int p3)]) jJ_X11_bore.1 rfl (Nat.le_of_ble_eq_true rfl) rfl (Nat.le_refl _) (Nat.le_refl _) ?_
  have hd : 4 ≤ 4 := Nat.le_refl _
  refine oe_iload_n (pc := 0) d_X11_bore_0 rfl ?_
  obtain ⟨v1, M2, q3, h⟩ := oB2_some h
  cases v1 with
  | true =>
    replace h := oCt h
    refine oe_callS (pc := 1) d_X11_bore_1 (v_X11_isBore hK  q3) (by omega) ml_X11_109 jJ_X11_isBore rfl rfl (Nat.le_of_ble_eq_true rfl) ⟨Nat.le_refl _, Nat.le_refl _⟩ ⟨Nat.le_refl _, Nat.le_refl _⟩ ?_
    refine oe_if_eq (pc := 4) (tgt := 29) d_X11_bore_4 (by decide) (fun c => absurd c (by decide)) (fun _ => ?_)
    refine oe_iload_n (pc := 7) d_X11_bore_7 rfl ?_
    refine oe_iconst (pc := 8) (v := 0) d_X11_bore_8 rfl ?_
    refine oe_iconst (pc := 9) (v := 2) d_X11_bore_9 rfl ?_
    obtain ⟨v4, M5, q6, h⟩ := oB2_some h
    cases v4 with
    | true =>
      replace h := oCt h
      refine oe_callS (pc := 10) d_X11_bore_10 (v_X11_within hK  q6) (by omega) ml_X11_89 jJ_X11_within rfl rfl (Nat.le_of_ble_eq_true rfl) ⟨Nat.le_refl _, Nat.le_refl _⟩ ⟨Nat.le_refl _, Nat.le_refl _⟩ ?_
      refine oe_if_eq (pc := 13) (tgt := 29) d_X11_bore_13 (by decide) (fun c => absurd c (by decide)) (fun _ => ?_)
      refine oe_iload_n (pc := 16) d_X11_bore_16 rfl ?_
      refine oe_iconst (pc := 17) (v := 0) d_X11_bore_17 rfl ?_
      refine oe_gets (pc := 18) (t := 1) d_X11_bore_18 (by decide) (by decide) fs_X11_112 ?_
      refine oe_iload_n (pc := 21) d_X11_bore_21 rfl ?_
      obtain ⟨i7, h⟩ := oIx_some h
      refine oe_tald (pc := 22) (t := 1) d_X11_bore_22 (by decide) (by decide) i7 ?_
      obtain ⟨v8, M9, q10, h⟩ := oB2_some h
      cases v8 with
      | true =>
        replace h := oCt h
        refine oe_callS (pc := 23) d_X11_bore_23 (v_X11_within hK  q10) (by omega) ml_X11_89 jJ_X11_within rfl rfl (Nat.le_of_ble_eq_true rfl) ⟨Nat.le_refl _, Nat.le_refl _⟩ ⟨Nat.le_refl _, Nat.le_refl _⟩ ?_
        refine oe_if_ne (pc := 26) (tgt := 31) d_X11_bore_26 (by decide) (fun _ => ?_) (fun c => absurd c (by decide))
        refine oe_aload_n (pc := 31) d_X11_bore_31 rfl ?_
        refine oe_getr (pc := 32) d_X11_bore_32 fl_X11_10 ock11 (k := 0) (b := 1) (Nat.le_of_ble_eq_true rfl) (by decide) (oLt hK (a := 0) (Nat.le_of_ble_eq_true rfl)) (oSho hK (a := 0) (Nat.le_of_ble_eq_true rfl) rfl) (oRfK hK rfl) ?_
        refine oe_iload_n (pc := 35) d_X11_bore_35 rfl ?_
        refine oe_iconst (pc := 36) (v := 3) d_X11_bore_36 rfl ?_
        refine oe_imul (pc := 37) d_X11_bore_37 ?_
        refine oe_iload_n (pc := 38) d_X11_bore_38 rfl ?_
        refine oe_iadd (pc := 39) d_X11_bore_39 ?_
        refine oe_iload_n (pc := 40) d_X11_bore_40 rfl ?_
        obtain ⟨v11, M12, q13, h⟩ := oB2_some h
        refine oe_callV (pc := 41) (ci := 8) d_X11_bore_41 (v_X8_become hK  q13) (by omega) ml_X11_101 jJ_X8_become rfl rfl (oLt hK (a := 1) (Nat.le_of_ble_eq_true rfl)) (oSho hK (a := 1) (Nat.le_of_ble_eq_true rfl) rfl) ock8 rfl (Nat.le_of_ble_eq_true rfl) ⟨Nat.le_refl _, Nat.le_refl _⟩ ⟨Nat.le_refl _, Nat.le_refl _⟩ ?_
        obtain ⟨rfl, rfl⟩ := oRes h
        exact oe_iret (pc := 44) d_X11_bore_44 ⟨_, rfl, rfl⟩
      | false =>
        replace h := oCf h
        refine oe_callS (pc := 23) d_X11_bore_23 (v_X11_within hK  q10) (by omega) ml_X11_89 jJ_X11_within rfl rfl (Nat.le_of_ble_eq_true rfl) ⟨Nat.le_refl _, Nat.le_refl _⟩ ⟨Nat.le_refl _, Nat.le_refl _⟩ ?_
        refine oe_if_ne (pc := 26) (tgt := 31) d_X11_bore_26 (by decide) (fun c => absurd (by decide) c) (fun _ => ?_)
        refine oe_iconst (pc := 29) (v := (-1)) d_X11_bore_29 rfl ?_
        obtain ⟨rfl, rfl⟩ := oRes h
        exact oe_iret (pc := 30) d_X11_bore_30 ⟨_, rfl, rfl⟩
    | false =>
      replace h := oCf h
      refine oe_callS (pc := 10) d_X11_bore_10 (v_X11_within hK  q6) (by omega) ml_X11_89 jJ_X11_within rfl rfl (Nat.le_of_ble_eq_true rfl) ⟨Nat.le_refl _, Nat.le_refl _⟩ ⟨Nat.le_refl _, Nat.le_refl _⟩ ?_
      refine oe_if_eq (pc := 13) (tgt := 29) d_X11_bore_13 (by decide) (fun _ => ?_) (fun c => absurd (by decide) c)
      refine oe_iconst (pc := 29) (v := (-1)) d_X11_bore_29 rfl ?_
      obtain ⟨rfl, rfl⟩ := oRes h
      exact oe_iret (pc := 30) d_X11_bore_30 ⟨_, rfl, rfl⟩
  | false =>
    replace h := oCf h
    refine oe_callS (pc := 1) d_X11_bore_1 (v_X11_isBore hK  q3) (by omega) ml_X11_109 jJ_X11_isBore rfl rfl (Nat.le_of_ble_eq_true rfl) ⟨Nat.le_refl _, Nat.le_refl _⟩ ⟨Nat.le_refl _, Nat.le_refl _⟩ ?_
    refine oe_if_eq (pc := 4) (tgt := 29) d_X11_bore_4 (by decide) (fun _ => ?_) (fun c => absurd (by decide) c)
    refine oe_iconst (pc := 29) (v := (-1)) d_X11_bore_29 rfl ?_
    obtain ⟨rfl, rfl⟩ := oRes h
    exact oe_iret (pc := 30) d_X11_bore_30 ⟨_, rfl, rfl⟩
theorem d_X11_engine_0 : decode J_X11_engine.2.1 0 = .ok (.iload_n 1, 1) := by decide +kernel
theorem d_X11_engine_1 : decode J_X11_engine.2.1 1 = .ok (.iconst 0, 1) := by decide +kernel
theorem d_X11_engine_2 : decode J_X11_engine.2.1 2 = .ok (.sipush 999, 3) := by decide +kernel
theorem d_X11_engine_5 : decode J_X11_engine.2.1 5 = .ok (.invokestatic 89, 3) := by decide +kernel
theorem d_X11_engine_8 : decode J_X11_engine.2.1 8 = .ok (.ifCond .eq 25, 3) := by decide +kernel
theorem d_X11_engine_11 : decode J_X11_engine.2.1 11 = .ok (.iload_n 2, 1) := by decide +kernel
theorem d_X11_engine_12 : decode J_X11_engine.2.1 12 = .ok (.iconst 1, 1) := by decide +kernel
theorem d_X11_engine_13 : decode J_X11_engine.2.1 13 = .ok (.bipush 9, 2) := by decide +kernel
theorem d_X11_engine_15 : decode J_X11_engine.2.1 15 = .ok (.invokestatic 89, 3) := by decide +kernel
theorem d_X11_engine_18 : decode J_X11_engine.2.1 18 = .ok (.ifCond .eq 15, 3) := by decide +kernel
theorem d_X11_engine_21 : decode J_X11_engine.2.1 21 = .ok (.aload_n 0, 1) := by decide +kernel
theorem d_X11_engine_22 : decode J_X11_engine.2.1 22 = .ok (.getfield 28, 3) := by decide +kernel
theorem d_X11_engine_25 : decode J_X11_engine.2.1 25 = .ok (.iload_n 1, 1) := by decide +kernel
theorem d_X11_engine_26 : decode J_X11_engine.2.1 26 = .ok (.iload_n 2, 1) := by decide +kernel
theorem d_X11_engine_27 : decode J_X11_engine.2.1 27 = .ok (.invokevirtual 116, 3) := by decide +kernel
theorem d_X11_engine_30 : decode J_X11_engine.2.1 30 = .ok (.goto 4, 3) := by decide +kernel
theorem d_X11_engine_33 : decode J_X11_engine.2.1 33 = .ok (.iconst (-1), 1) := by decide +kernel
theorem d_X11_engine_34 : decode J_X11_engine.2.1 34 = .ok (.ireturn, 1) := by decide +kernel
def f_X11_engine (N : Nat) (K : oK) (p1 : Int32) (p2 : Int32) (M : oM) : Option (Int32 × oM) :=
  oB2 (f_X11_within N K p1 (0 : Int32) (999 : Int32) M) (fun v1 M2 => cond v1 (oB2 (f_X11_within N K p2 (1 : Int32) (9 : Int32) M2) (fun v4 M5 => cond v4 (oB2 (f_X3_addEngine N K p1 p2 M5) (fun v7 M8 => some (v7, M8))) (some ((-1), M5)))) (some ((-1), M2)))
set_option maxRecDepth 20000 in
theorem v_X11_engine {X : oX} {N : Nat} {K : oK} {p1 : Int32} {p2 : Int32} {M : oM} {v : Int32} {M' : oM} (hK : oSR K)  (h : f_X11_engine N K p1 p2 M = some (v, M')) : oMet X 2 J_X11_engine [(.ref 0), (.int p1), (.int p2)] K M (some (.int v)) K M' := by
  unfold f_X11_engine at h
  refine oMet_of (L := [some (.ref 0), some (.int p1), some (.int p2)]) jJ_X11_engine.1 rfl (Nat.le_of_ble_eq_true rfl) rfl (Nat.le_refl _) (Nat.le_refl _) ?_
  have hd : 2 ≤ 2 := Nat.le_refl _
  refine oe_iload_n (pc := 0) d_X11_engine_0 rfl ?_
  refine oe_iconst (pc := 1) (v := 0) d_X11_engine_1 rfl ?_
  refine oe_sipush (pc := 2) (v := 999) d_X11_engine_2 rfl ?_
  obtain ⟨v1, M2, q3, h⟩ := oB2_some h
  cases v1 with
  | true =>
    replace h := oCt h
    refine oe_callS (pc := 5) d_X11_engine_5 (v_X11_within hK  q3) (by omega) ml_X11_89 jJ_X11_within rfl rfl (Nat.le_of_ble_eq_true rfl) ⟨Nat.le_refl _, Nat.le_refl _⟩ ⟨Nat.le_refl _, Nat.le_refl _⟩ ?_
    refine oe_if_eq (pc := 8) (tgt := 33) d_X11_engine_8 (by decide) (fun c => absurd c (by decide)) (fun _ => ?_)
    refine oe_iload_n (pc := 11) d_X11_engine_11 rfl ?_
    refine oe_iconst (pc := 12) (v := 1) d_X11_engine_12 rfl ?_
    refine oe_bipush (pc := 13) (v := 9) d_X11_engine_13 rfl ?_
    obtain ⟨v4, M5, q6, h⟩ := oB2_some h
    cases v4 with
    | true =>
      replace h := oCt h
      refine oe_callS (pc := 15) d_X11_engine_15 (v_X11_within hK  q6) (by omega) ml_X11_89 jJ_X11_within rfl rfl (Nat.le_of_ble_eq_true rfl) ⟨Nat.le_refl _, Nat.le_refl _⟩ ⟨Nat.le_refl _, Nat.le_refl _⟩ ?_
      refine oe_if_eq (pc := 18) (tgt := 33) d_X11_engine_18 (by decide) (fun c => absurd c (by decide)) (fun _ => ?_)
      refine oe_aload_n (pc := 21) d_X11_engine_21 rfl ?_
      refine oe_getr (pc := 22) d_X11_engine_22 fl_X11_28 ock11 (k := 2) (b := 11) (Nat.le_of_ble_eq_true rfl) (by decide) (oLt hK (a := 0) (Nat.le_of_ble_eq_true rfl)) (oSho hK (a := 0) (Nat.le_of_ble_eq_true rfl) rfl) (oRfK hK rfl) ?_
      refine oe_iload_n (pc := 25) d_X11_engine_25 rfl ?_
      refine oe_iload_n (pc := 26) d_X11_engine_26 rfl ?_
      obtain ⟨v7, M8, q9, h⟩ := oB2_some h
      refine oe_callV (pc := 27) (ci := 3) d_X11_engine_27 (v_X3_addEngine hK  q9) (by omega) ml_X11_116 jJ_X3_addEngine rfl rfl (oLt hK (a := 11) (Nat.le_of_ble_eq_true rfl)) (oSho hK (a := 11) (Nat.le_of_ble_eq_true rfl) rfl) ock3 rfl (Nat.le_of_ble_eq_true rfl) ⟨Nat.le_refl _, Nat.le_refl _⟩ ⟨Nat.le_refl _, Nat.le_refl _⟩ ?_
      refine oe_goto (pc := 30) (tgt := 34) d_X11_engine_30 (by decide) ?_
      obtain ⟨rfl, rfl⟩ := oRes h
      exact oe_iret (pc := 34) d_X11_engine_34 ⟨_, rfl, rfl⟩
    | false =>
      replace h := oCf h
      refine oe_callS (pc := 15) d_X11_engine_15 (v_X11_within hK  q6) (by omega) ml_X11_89 jJ_X11_within rfl rfl (Nat.le_of_ble_eq_true rfl) ⟨Nat.le_refl _, Nat.le_refl _⟩ ⟨Nat.le_refl _, Nat.le_refl _⟩ ?_
      refine oe_if_eq (pc := 18) (tgt := 33) d_X11_engine_18 (by decide) (fun _ => ?_) (fun c => absurd (by decide) c)
      refine oe_iconst (pc := 33) (v := (-1)) d_X11_engine_33 rfl ?_
      obtain ⟨rfl, rfl⟩ := oRes h
      exact oe_iret (pc := 34) d_X11_engine_34 ⟨_, rfl, rfl⟩
  | false =>
    replace h := oCf h
    refine oe_callS (pc := 5) d_X11_engine_5 (v_X11_within hK  q3) (by omega) ml_X11_89 jJ_X11_within rfl rfl (Nat.le_of_ble_eq_true rfl) ⟨Nat.le_refl _, Nat.le_refl _⟩ ⟨Nat.le_refl _, Nat.le_refl _⟩ ?_
    refine oe_if_eq (pc := 8) (tgt := 33) d_X11_engine_8 (by decide) (fun _ => ?_) (fun c => absurd (by decide) c)
    refine oe_iconst (pc := 33) (v := (-1)) d_X11_engine_33 rfl ?_
    obtain ⟨rfl, rfl⟩ := oRes h
    exact oe_iret (pc := 34) d_X11_engine_34 ⟨_, rfl, rfl⟩
theorem d_X11_feed_0 : decode J_X11_feed.2.1 0 = .ok (.iload_n 1, 1) := by decide +kernel
theorem d_X11_feed_1 : decode J_X11_feed.2.1 1 = .ok (.iconst 1, 1) := by decide +kernel
theorem d_X11_feed_2 : decode J_X11_feed.2.1 2 = .ok (.iconst 4, 1) := by decide +kernel
theorem d_X11_feed_3 : decode J_X11_feed.2.1 3 = .ok (.invokestatic 89, 3) := by decide +kernel
theorem d_X11_feed_6 : decode J_X11_feed.2.1 6 = .ok (.ifCond .eq 15, 3) := by decide +kernel
theorem d_X11_feed_9 : decode J_X11_feed.2.1 9 = .ok (.aload_n 0, 1) := by decide +kernel
theorem d_X11_feed_10 : decode J_X11_feed.2.1 10 = .ok (.getfield 35, 3) := by decide +kernel
theorem d_X11_feed_13 : decode J_X11_feed.2.1 13 = .ok (.iload_n 1, 1) := by decide +kernel
theorem d_X11_feed_14 : decode J_X11_feed.2.1 14 = .ok (.iload_n 2, 1) := by decide +kernel
theorem d_X11_feed_15 : decode J_X11_feed.2.1 15 = .ok (.invokevirtual 119, 3) := by decide +kernel
theorem d_X11_feed_18 : decode J_X11_feed.2.1 18 = .ok (.goto 4, 3) := by decide +kernel
theorem d_X11_feed_21 : decode J_X11_feed.2.1 21 = .ok (.iconst (-1), 1) := by decide +kernel
theorem d_X11_feed_22 : decode J_X11_feed.2.1 22 = .ok (.ireturn, 1) := by decide +kernel
def f_X11_feed (N : Nat) (K : oK) (p1 : Int32) (p2 : Int32) (M : oM) : Option (Int32 × oM) :=
  oB2 (f_X11_within N K p1 (1 : Int32) (4 : Int32) M) (fun v1 M2 => cond v1 (oB2 (f_X10_take N K p1 p2 M2) (fun v4 M5 => some (v4, M5))) (some ((-1), M2)))
set_option maxRecDepth 20000 in
theorem v_X11_feed {X : oX} {N : Nat} {K : oK} {p1 : Int32} {p2 : Int32} {M : oM} {v : Int32} {M' : oM} (hK : oSR K)  (h : f_X11_feed N K p1 p2 M = some (v, M')) : oMet X 2 J_X11_feed [(.ref 0), (.int p1), (.int p2)] K M (some (.int v)) K M' := by
  unfold f_X11_feed at h
  refine oMet_of (L := [some (.ref 0), some (.int p1), some (.int p2)]) jJ_X11_feed.1 rfl (Nat.le_of_ble_eq_true rfl) rfl (Nat.le_refl _) (Nat.le_refl _) ?_
  have hd : 2 ≤ 2 := Nat.le_refl _
  refine oe_iload_n (pc := 0) d_X11_feed_0 rfl ?_
  refine oe_iconst (pc := 1) (v := 1) d_X11_feed_1 rfl ?_
  refine oe_iconst (pc := 2) (v := 4) d_X11_feed_2 rfl ?_
  obtain ⟨v1, M2, q3, h⟩ := oB2_some h
  cases v1 with
  | true =>
    replace h := oCt h
    refine oe_callS (pc := 3) d_X11_feed_3 (v_X11_within hK  q3) (by omega) ml_X11_89 jJ_X11_within rfl rfl (Nat.le_of_ble_eq_true rfl) ⟨Nat.le_refl _, Nat.le_refl _⟩ ⟨Nat.le_refl _, Nat.le_refl _⟩ ?_
    refine oe_if_eq (pc := 6) (tgt := 21) d_X11_feed_6 (by decide) (fun c => absurd c (by decide)) (fun _ => ?_)
    refine oe_aload_n (pc := 9) d_X11_feed_9 rfl ?_
    refine oe_getr (pc := 10) d_X11_feed_10 fl_X11_35 ock11 (k := 3) (b := 17) (Nat.le_of_ble_eq_true rfl) (by decide) (oLt hK (a := 0) (Nat.le_of_ble_eq_true rfl)) (oSho hK (a := 0) (Nat.le_of_ble_eq_true rfl) rfl) (oRfK hK rfl) ?_
    refine oe_iload_n (pc := 13) d_X11_feed_13 rfl ?_
    refine oe_iload_n (pc := 14) d_X11_feed_14 rfl ?_
    obtain ⟨v4, M5, q6, h⟩ := oB2_some h
    refine oe_callV (pc := 15) (ci := 10) d_X11_feed_15 (v_X10_take hK  q6) (by omega) ml_X11_119 jJ_X10_take rfl rfl (oLt hK (a := 17) (Nat.le_of_ble_eq_true rfl)) (oSho hK (a := 17) (Nat.le_of_ble_eq_true rfl) rfl) ock10 rfl (Nat.le_of_ble_eq_true rfl) ⟨Nat.le_refl _, Nat.le_refl _⟩ ⟨Nat.le_refl _, Nat.le_refl _⟩ ?_
    refine oe_goto (pc := 18) (tgt := 22) d_X11_feed_18 (by decide) ?_
    obtain ⟨rfl, rfl⟩ := oRes h
    exact oe_iret (pc := 22) d_X11_feed_22 ⟨_, rfl, rfl⟩
  | false =>
    replace h := oCf h
    refine oe_callS (pc := 3) d_X11_feed_3 (v_X11_within hK  q3) (by omega) ml_X11_89 jJ_X11_within rfl rfl (Nat.le_of_ble_eq_true rfl) ⟨Nat.le_refl _, Nat.le_refl _⟩ ⟨Nat.le_refl _, Nat.le_refl _⟩ ?_
    refine oe_if_eq (pc := 6) (tgt := 21) d_X11_feed_6 (by decide) (fun _ => ?_) (fun c => absurd (by decide) c)
    refine oe_iconst (pc := 21) (v := (-1)) d_X11_feed_21 rfl ?_
    obtain ⟨rfl, rfl⟩ := oRes h
    exact oe_iret (pc := 22) d_X11_feed_22 ⟨_, rfl, rfl⟩
theorem d_X11_table_0 : decode J_X11_table.2.1 0 = .ok (.aload_n 0, 1) := by decide +kernel
theorem d_X11_table_1 : decode J_X11_table.2.1 1 = .ok (.getfield 35, 3) := by decide +kernel
theorem d_X11_table_4 : decode J_X11_table.2.1 4 = .ok (.aload_n 0, 1) := by decide +kernel
theorem d_X11_table_5 : decode J_X11_table.2.1 5 = .ok (.getfield 28, 3) := by decide +kernel
theorem d_X11_table_8 : decode J_X11_table.2.1 8 = .ok (.invokevirtual 122, 3) := by decide +kernel
theorem d_X11_table_11 : decode J_X11_table.2.1 11 = .ok (.ireturn, 1) := by decide +kernel
def f_X11_table (N : Nat) (K : oK)  (M : oM) : Option (Int32 × oM) :=
  oB2 (f_X10_readInto N K  M) (fun v1 M2 => some (v1, M2))
set_option maxRecDepth 20000 in
theorem v_X11_table {X : oX} {N : Nat} {K : oK}  {M : oM} {v : Int32} {M' : oM} (hK : oSR K)  (h : f_X11_table N K  M = some (v, M')) : oMet X 5 J_X11_table [(.ref 0)] K M (some (.int v)) K M' := by
  unfold f_X11_table at h
  refine oMet_of (L := [some (.ref 0)]) jJ_X11_table.1 rfl (Nat.le_of_ble_eq_true rfl) rfl (Nat.le_refl _) (Nat.le_refl _) ?_
  have hd : 5 ≤ 5 := Nat.le_refl _
  refine oe_aload_n (pc := 0) d_X11_table_0 rfl ?_
  refine oe_getr (pc := 1) d_X11_table_1 fl_X11_35 ock11 (k := 3) (b := 17) (Nat.le_of_ble_eq_true rfl) (by decide) (oLt hK (a := 0) (Nat.le_of_ble_eq_true rfl)) (oSho hK (a := 0) (Nat.le_of_ble_eq_true rfl) rfl) (oRfK hK rfl) ?_
  refine oe_aload_n (pc := 4) d_X11_table_4 rfl ?_
  refine oe_getr (pc := 5) d_X11_table_5 fl_X11_28 ock11 (k := 2) (b := 11) (Nat.le_of_ble_eq_true rfl) (by decide) (oLt hK (a := 0) (Nat.le_of_ble_eq_true rfl)) (oSho hK (a := 0) (Nat.le_of_ble_eq_true rfl) rfl) (oRfK hK rfl) ?_
  obtain ⟨v1, M2, q3, h⟩ := oB2_some h
  refine oe_callV (pc := 8) (ci := 10) d_X11_table_8 (v_X10_readInto hK  q3) (by omega) ml_X11_122 jJ_X10_readInto rfl rfl (oLt hK (a := 17) (Nat.le_of_ble_eq_true rfl)) (oSho hK (a := 17) (Nat.le_of_ble_eq_true rfl) rfl) ock10 rfl (Nat.le_of_ble_eq_true rfl) ⟨Nat.le_refl _, Nat.le_refl _⟩ ⟨Nat.le_refl _, Nat.le_refl _⟩ ?_
  obtain ⟨rfl, rfl⟩ := oRes h
  exact oe_iret (pc := 11) d_X11_table_11 ⟨_, rfl, rfl⟩
theorem d_X11_isFlow_0 : decode J_X11_isFlow.2.1 0 = .ok (.iload_n 0, 1) := by decide +kernel
theorem d_X11_isFlow_1 : decode J_X11_isFlow.2.1 1 = .ok (.iconst 0, 1) := by decide +kernel
theorem d_X11_isFlow_2 : decode J_X11_isFlow.2.1 2 = .ok (.sipush 600, 3) := by decide +kernel
theorem d_X11_isFlow_5 : decode J_X11_isFlow.2.1 5 = .ok (.invokestatic 89, 3) := by decide +kernel
theorem d_X11_isFlow_8 : decode J_X11_isFlow.2.1 8 = .ok (.ireturn, 1) := by decide +kernel
def f_X11_isFlow (N : Nat) (K : oK) (p0 : Int32) (M : oM) : Option (Bool × oM) :=
  oB2 (f_X11_within N K p0 (0 : Int32) (600 : Int32) M) (fun v1 M2 => cond v1 (some (true, M2)) (some (false, M2)))
set_option maxRecDepth 20000 in
theorem v_X11_isFlow {X : oX} {N : Nat} {K : oK} {p0 : Int32} {M : oM} {v : Bool} {M' : oM} (hK : oSR K)  (h : f_X11_isFlow N K p0 M = some (v, M')) : oMet X 2 J_X11_isFlow [(.int p0)] K M (some (.int (oBi v))) K M' := by
  unfold f_X11_isFlow at h
  refine oMet_of (L := [some (.int p0)]) jJ_X11_isFlow.1 rfl (Nat.le_of_ble_eq_true rfl) rfl (Nat.le_refl _) (Nat.le_refl _) ?_
  have hd : 2 ≤ 2 := Nat.le_refl _
  refine oe_iload_n (pc := 0) d_X11_isFlow_0 rfl ?_
  refine oe_iconst (pc := 1) (v := 0) d_X11_isFlow_1 rfl ?_
  refine oe_sipush (pc := 2) (v := 600) d_X11_isFlow_2 rfl ?_
  obtain ⟨v1, M2, q3, h⟩ := oB2_some h
  cases v1 with
  | true =>
    replace h := oCt h
    refine oe_callS (pc := 5) d_X11_isFlow_5 (v_X11_within hK  q3) (by omega) ml_X11_89 jJ_X11_within rfl rfl (Nat.le_of_ble_eq_true rfl) ⟨Nat.le_refl _, Nat.le_refl _⟩ ⟨Nat.le_refl _, Nat.le_refl _⟩ ?_
    obtain ⟨rfl, rfl⟩ := oRes h
    exact oe_iret (pc := 8) d_X11_isFlow_8 ⟨_, rfl, rfl⟩
  | false =>
    replace h := oCf h
    refine oe_callS (pc := 5) d_X11_isFlow_5 (v_X11_within hK  q3) (by omega) ml_X11_89 jJ_X11_within rfl rfl (Nat.le_of_ble_eq_true rfl) ⟨Nat.le_refl _, Nat.le_refl _⟩ ⟨Nat.le_refl _, Nat.le_refl _⟩ ?_
    obtain ⟨rfl, rfl⟩ := oRes h
    exact oe_iret (pc := 8) d_X11_isFlow_8 ⟨_, rfl, rfl⟩
theorem d_X11_loses_0 : decode J_X11_loses.2.1 0 = .ok (.iload_n 1, 1) := by decide +kernel
theorem d_X11_loses_1 : decode J_X11_loses.2.1 1 = .ok (.invokestatic 109, 3) := by decide +kernel
theorem d_X11_loses_4 : decode J_X11_loses.2.1 4 = .ok (.ifCond .eq 22, 3) := by decide +kernel
theorem d_X11_loses_7 : decode J_X11_loses.2.1 7 = .ok (.iload_n 2, 1) := by decide +kernel
theorem d_X11_loses_8 : decode J_X11_loses.2.1 8 = .ok (.invokestatic 126, 3) := by decide +kernel
theorem d_X11_loses_11 : decode J_X11_loses.2.1 11 = .ok (.ifCond .eq 15, 3) := by decide +kernel
theorem d_X11_loses_14 : decode J_X11_loses.2.1 14 = .ok (.aload_n 0, 1) := by decide +kernel
theorem d_X11_loses_15 : decode J_X11_loses.2.1 15 = .ok (.getfield 28, 3) := by decide +kernel
theorem d_X11_loses_18 : decode J_X11_loses.2.1 18 = .ok (.iload_n 1, 1) := by decide +kernel
theorem d_X11_loses_19 : decode J_X11_loses.2.1 19 = .ok (.iload_n 2, 1) := by decide +kernel
theorem d_X11_loses_20 : decode J_X11_loses.2.1 20 = .ok (.invokevirtual 129, 3) := by decide +kernel
theorem d_X11_loses_23 : decode J_X11_loses.2.1 23 = .ok (.goto 4, 3) := by decide +kernel
theorem d_X11_loses_26 : decode J_X11_loses.2.1 26 = .ok (.iconst (-1), 1) := by decide +kernel
theorem d_X11_loses_27 : decode J_X11_loses.2.1 27 = .ok (.ireturn, 1) := by decide +kernel
def f_X11_loses (N : Nat) (K : oK) (p1 : Int32) (p2 : Int32) (M : oM) : Option (Int32 × oM) :=
  oB2 (f_X11_isBore N K p1 M) (fun v1 M2 => cond v1 (oB2 (f_X11_isFlow N K p2 M2) (fun v4 M5 => cond v4 (oB2 (f_X3_lost N K p1 p2 M5) (fun v7 M8 => some (v7, M8))) (some ((-1), M5)))) (some ((-1), M2)))
set_option maxRecDepth 20000 in
theorem v_X11_loses {X : oX} {N : Nat} {K : oK} {p1 : Int32} {p2 : Int32} {M : oM} {v : Int32} {M' : oM} (hK : oSR K)  (h : f_X11_loses N K p1 p2 M = some (v, M')) : oMet X 3 J_X11_loses [(.ref 0), (.int p1), (.int p2)] K M (some (.int v)) K M' := by
  unfold f_X11_loses at h
  refine oMet_of (L := [some (.ref 0), some (.int p1), some (.int p2)]) jJ_X11_loses.1 rfl (Nat.le_of_ble_eq_true rfl) rfl (Nat.le_refl _) (Nat.le_refl _) ?_
  have hd : 3 ≤ 3 := Nat.le_refl _
  refine oe_iload_n (pc := 0) d_X11_loses_0 rfl ?_
  obtain ⟨v1, M2, q3, h⟩ := oB2_some h
  cases v1 with
  | true =>
    replace h := oCt h
    refine oe_callS (pc := 1) d_X11_loses_1 (v_X11_isBore hK  q3) (by omega) ml_X11_109 jJ_X11_isBore rfl rfl (Nat.le_of_ble_eq_true rfl) ⟨Nat.le_refl _, Nat.le_refl _⟩ ⟨Nat.le_refl _, Nat.le_refl _⟩ ?_
    refine oe_if_eq (pc := 4) (tgt := 26) d_X11_loses_4 (by decide) (fun c => absurd c (by decide)) (fun _ => ?_)
    refine oe_iload_n (pc := 7) d_X11_loses_7 rfl ?_
    obtain ⟨v4, M5, q6, h⟩ := oB2_some h
    cases v4 with
    | true =>
      replace h := oCt h
      refine oe_callS (pc := 8) d_X11_loses_8 (v_X11_isFlow hK  q6) (by omega) ml_X11_126 jJ_X11_isFlow rfl rfl (Nat.le_of_ble_eq_true rfl) ⟨Nat.le_refl _, Nat.le_refl _⟩ ⟨Nat.le_refl _, Nat.le_refl _⟩ ?_
      refine oe_if_eq (pc := 11) (tgt := 26) d_X11_loses_11 (by decide) (fun c => absurd c (by decide)) (fun _ => ?_)
      refine oe_aload_n (pc := 14) d_X11_loses_14 rfl ?_
      refine oe_getr (pc := 15) d_X11_loses_15 fl_X11_28 ock11 (k := 2) (b := 11) (Nat.le_of_ble_eq_true rfl) (by decide) (oLt hK (a := 0) (Nat.le_of_ble_eq_true rfl)) (oSho hK (a := 0) (Nat.le_of_ble_eq_true rfl) rfl) (oRfK hK rfl) ?_
      refine oe_iload_n (pc := 18) d_X11_loses_18 rfl ?_
      refine oe_iload_n (pc := 19) d_X11_loses_19 rfl ?_
      obtain ⟨v7, M8, q9, h⟩ := oB2_some h
      refine oe_callV (pc := 20) (ci := 3) d_X11_loses_20 (v_X3_lost hK  q9) (by omega) ml_X11_129 jJ_X3_lost rfl rfl (oLt hK (a := 11) (Nat.le_of_ble_eq_true rfl)) (oSho hK (a := 11) (Nat.le_of_ble_eq_true rfl) rfl) ock3 rfl (Nat.le_of_ble_eq_true rfl) ⟨Nat.le_refl _, Nat.le_refl _⟩ ⟨Nat.le_refl _, Nat.le_refl _⟩ ?_
      refine oe_goto (pc := 23) (tgt := 27) d_X11_loses_23 (by decide) ?_
      obtain ⟨rfl, rfl⟩ := oRes h
      exact oe_iret (pc := 27) d_X11_loses_27 ⟨_, rfl, rfl⟩
    | false =>
      replace h := oCf h
      refine oe_callS (pc := 8) d_X11_loses_8 (v_X11_isFlow hK  q6) (by omega) ml_X11_126 jJ_X11_isFlow rfl rfl (Nat.le_of_ble_eq_true rfl) ⟨Nat.le_refl _, Nat.le_refl _⟩ ⟨Nat.le_refl _, Nat.le_refl _⟩ ?_
      refine oe_if_eq (pc := 11) (tgt := 26) d_X11_loses_11 (by decide) (fun _ => ?_) (fun c => absurd (by decide) c)
      refine oe_iconst (pc := 26) (v := (-1)) d_X11_loses_26 rfl ?_
      obtain ⟨rfl, rfl⟩ := oRes h
      exact oe_iret (pc := 27) d_X11_loses_27 ⟨_, rfl, rfl⟩
  | false =>
    replace h := oCf h
    refine oe_callS (pc := 1) d_X11_loses_1 (v_X11_isBore hK  q3) (by omega) ml_X11_109 jJ_X11_isBore rfl rfl (Nat.le_of_ble_eq_true rfl) ⟨Nat.le_refl _, Nat.le_refl _⟩ ⟨Nat.le_refl _, Nat.le_refl _⟩ ?_
    refine oe_if_eq (pc := 4) (tgt := 26) d_X11_loses_4 (by decide) (fun _ => ?_) (fun c => absurd (by decide) c)
    refine oe_iconst (pc := 26) (v := (-1)) d_X11_loses_26 rfl ?_
    obtain ⟨rfl, rfl⟩ := oRes h
    exact oe_iret (pc := 27) d_X11_loses_27 ⟨_, rfl, rfl⟩
theorem d_X11_lifts_0 : decode J_X11_lifts.2.1 0 = .ok (.aload_n 0, 1) := by decide +kernel
theorem d_X11_lifts_1 : decode J_X11_lifts.2.1 1 = .ok (.getfield 28, 3) := by decide +kernel
theorem d_X11_lifts_4 : decode J_X11_lifts.2.1 4 = .ok (.iload_n 1, 1) := by decide +kernel
theorem d_X11_lifts_5 : decode J_X11_lifts.2.1 5 = .ok (.invokevirtual 132, 3) := by decide +kernel
theorem d_X11_lifts_8 : decode J_X11_lifts.2.1 8 = .ok (.ifCond .eq 22, 3) := by decide +kernel
theorem d_X11_lifts_11 : decode J_X11_lifts.2.1 11 = .ok (.iload_n 2, 1) := by decide +kernel
theorem d_X11_lifts_12 : decode J_X11_lifts.2.1 12 = .ok (.invokestatic 126, 3) := by decide +kernel
theorem d_X11_lifts_15 : decode J_X11_lifts.2.1 15 = .ok (.ifCond .eq 15, 3) := by decide +kernel
theorem d_X11_lifts_18 : decode J_X11_lifts.2.1 18 = .ok (.aload_n 0, 1) := by decide +kernel
theorem d_X11_lifts_19 : decode J_X11_lifts.2.1 19 = .ok (.getfield 28, 3) := by decide +kernel
theorem d_X11_lifts_22 : decode J_X11_lifts.2.1 22 = .ok (.iload_n 1, 1) := by decide +kernel
theorem d_X11_lifts_23 : decode J_X11_lifts.2.1 23 = .ok (.iload_n 2, 1) := by decide +kernel
theorem d_X11_lifts_24 : decode J_X11_lifts.2.1 24 = .ok (.invokevirtual 135, 3) := by decide +kernel
theorem d_X11_lifts_27 : decode J_X11_lifts.2.1 27 = .ok (.goto 4, 3) := by decide +kernel
theorem d_X11_lifts_30 : decode J_X11_lifts.2.1 30 = .ok (.iconst (-1), 1) := by decide +kernel
theorem d_X11_lifts_31 : decode J_X11_lifts.2.1 31 = .ok (.ireturn, 1) := by decide +kernel
def f_X11_lifts (N : Nat) (K : oK) (p1 : Int32) (p2 : Int32) (M : oM) : Option (Int32 × oM) :=
  oB2 (f_X3_isEngine N K p1 M) (fun v1 M2 => cond v1 (oB2 (f_X11_isFlow N K p2 M2) (fun v4 M5 => cond v4 (oB2 (f_X3_lifted N K p1 p2 M5) (fun v7 M8 => some (v7, M8))) (some ((-1), M5)))) (some ((-1), M2)))
set_option maxRecDepth 20000 in
theorem v_X11_lifts {X : oX} {N : Nat} {K : oK} {p1 : Int32} {p2 : Int32} {M : oM} {v : Int32} {M' : oM} (hK : oSR K)  (h : f_X11_lifts N K p1 p2 M = some (v, M')) : oMet X 3 J_X11_lifts [(.ref 0), (.int p1), (.int p2)] K M (some (.int v)) K M' := by
  unfold f_X11_lifts at h
  refine oMet_of (L := [some (.ref 0), some (.int p1), some (.int p2)]) jJ_X11_lifts.1 rfl (Nat.le_of_ble_eq_true rfl) rfl (Nat.le_refl _) (Nat.le_refl _) ?_
  have hd : 3 ≤ 3 := Nat.le_refl _
  refine oe_aload_n (pc := 0) d_X11_lifts_0 rfl ?_
  refine oe_getr (pc := 1) d_X11_lifts_1 fl_X11_28 ock11 (k := 2) (b := 11) (Nat.le_of_ble_eq_true rfl) (by decide) (oLt hK (a := 0) (Nat.le_of_ble_eq_true rfl)) (oSho hK (a := 0) (Nat.le_of_ble_eq_true rfl) rfl) (oRfK hK rfl) ?_
  refine oe_iload_n (pc := 4) d_X11_lifts_4 rfl ?_
  obtain ⟨v1, M2, q3, h⟩ := oB2_some h
  cases v1 with
  | true =>
    replace h := oCt h
    refine oe_callV (pc := 5) (ci := 3) d_X11_lifts_5 (v_X3_isEngine hK  q3) (by omega) ml_X11_132 jJ_X3_isEngine rfl rfl (oLt hK (a := 11) (Nat.le_of_ble_eq_true rfl)) (oSho hK (a := 11) (Nat.le_of_ble_eq_true rfl) rfl) ock3 rfl (Nat.le_of_ble_eq_true rfl) ⟨Nat.le_refl _, Nat.le_refl _⟩ ⟨Nat.le_refl _, Nat.le_refl _⟩ ?_
    refine oe_if_eq (pc := 8) (tgt := 30) d_X11_lifts_8 (by decide) (fun c => absurd c (by decide)) (fun _ => ?_)
    refine oe_iload_n (pc := 11) d_X11_lifts_11 rfl ?_
    obtain ⟨v4, M5, q6, h⟩ := oB2_some h
    cases v4 with
    | true =>
      replace h := oCt h
      refine oe_callS (pc := 12) d_X11_lifts_12 (v_X11_isFlow hK  q6) (by omega) ml_X11_126 jJ_X11_isFlow rfl rfl (Nat.le_of_ble_eq_true rfl) ⟨Nat.le_refl _, Nat.le_refl _⟩ ⟨Nat.le_refl _, Nat.le_refl _⟩ ?_
      refine oe_if_eq (pc := 15) (tgt := 30) d_X11_lifts_15 (by decide) (fun c => absurd c (by decide)) (fun _ => ?_)
      refine oe_aload_n (pc := 18) d_X11_lifts_18 rfl ?_
      refine oe_getr (pc := 19) d_X11_lifts_19 fl_X11_28 ock11 (k := 2) (b := 11) (Nat.le_of_ble_eq_true rfl) (by decide) (oLt hK (a := 0) (Nat.le_of_ble_eq_true rfl)) (oSho hK (a := 0) (Nat.le_of_ble_eq_true rfl) rfl) (oRfK hK rfl) ?_
      refine oe_iload_n (pc := 22) d_X11_lifts_22 rfl ?_
      refine oe_iload_n (pc := 23) d_X11_lifts_23 rfl ?_
      obtain ⟨v7, M8, q9, h⟩ := oB2_some h
      refine oe_callV (pc := 24) (ci := 3) d_X11_lifts_24 (v_X3_lifted hK  q9) (by omega) ml_X11_135 jJ_X3_lifted rfl rfl (oLt hK (a := 11) (Nat.le_of_ble_eq_true rfl)) (oSho hK (a := 11) (Nat.le_of_ble_eq_true rfl) rfl) ock3 rfl (Nat.le_of_ble_eq_true rfl) ⟨Nat.le_refl _, Nat.le_refl _⟩ ⟨Nat.le_refl _, Nat.le_refl _⟩ ?_
      refine oe_goto (pc := 27) (tgt := 31) d_X11_lifts_27 (by decide) ?_
      obtain ⟨rfl, rfl⟩ := oRes h
      exact oe_iret (pc := 31) d_X11_lifts_31 ⟨_, rfl, rfl⟩
    | false =>
      replace h := oCf h
      refine oe_callS (pc := 12) d_X11_lifts_12 (v_X11_isFlow hK  q6) (by omega) ml_X11_126 jJ_X11_isFlow rfl rfl (Nat.le_of_ble_eq_true rfl) ⟨Nat.le_refl _, Nat.le_refl _⟩ ⟨Nat.le_refl _, Nat.le_refl _⟩ ?_
      refine oe_if_eq (pc := 15) (tgt := 30) d_X11_lifts_15 (by decide) (fun _ => ?_) (fun c => absurd (by decide) c)
      refine oe_iconst (pc := 30) (v := (-1)) d_X11_lifts_30 rfl ?_
      obtain ⟨rfl, rfl⟩ := oRes h
      exact oe_iret (pc := 31) d_X11_lifts_31 ⟨_, rfl, rfl⟩
  | false =>
    replace h := oCf h
    refine oe_callV (pc := 5) (ci := 3) d_X11_lifts_5 (v_X3_isEngine hK  q3) (by omega) ml_X11_132 jJ_X3_isEngine rfl rfl (oLt hK (a := 11) (Nat.le_of_ble_eq_true rfl)) (oSho hK (a := 11) (Nat.le_of_ble_eq_true rfl) rfl) ock3 rfl (Nat.le_of_ble_eq_true rfl) ⟨Nat.le_refl _, Nat.le_refl _⟩ ⟨Nat.le_refl _, Nat.le_refl _⟩ ?_
    refine oe_if_eq (pc := 8) (tgt := 30) d_X11_lifts_8 (by decide) (fun _ => ?_) (fun c => absurd (by decide) c)
    refine oe_iconst (pc := 30) (v := (-1)) d_X11_lifts_30 rfl ?_
    obtain ⟨rfl, rfl⟩ := oRes h
    exact oe_iret (pc := 31) d_X11_lifts_31 ⟨_, rfl, rfl⟩
theorem d_X11_layingAt_0 : decode J_X11_layingAt.2.1 0 = .ok (.iload_n 1, 1) := by decide +kernel
theorem d_X11_layingAt_1 : decode J_X11_layingAt.2.1 1 = .ok (.iconst 0, 1) := by decide +kernel
theorem d_X11_layingAt_2 : decode J_X11_layingAt.2.1 2 = .ok (.aload_n 0, 1) := by decide +kernel
theorem d_X11_layingAt_3 : decode J_X11_layingAt.2.1 3 = .ok (.getfield 141, 3) := by decide +kernel
theorem d_X11_layingAt_6 : decode J_X11_layingAt.2.1 6 = .ok (.iconst 1, 1) := by decide +kernel
theorem d_X11_layingAt_7 : decode J_X11_layingAt.2.1 7 = .ok (.isub, 1) := by decide +kernel
theorem d_X11_layingAt_8 : decode J_X11_layingAt.2.1 8 = .ok (.invokestatic 89, 3) := by decide +kernel
theorem d_X11_layingAt_11 : decode J_X11_layingAt.2.1 11 = .ok (.ifCond .eq 12, 3) := by decide +kernel
theorem d_X11_layingAt_14 : decode J_X11_layingAt.2.1 14 = .ok (.aload_n 0, 1) := by decide +kernel
theorem d_X11_layingAt_15 : decode J_X11_layingAt.2.1 15 = .ok (.getfield 41, 3) := by decide +kernel
theorem d_X11_layingAt_18 : decode J_X11_layingAt.2.1 18 = .ok (.iload_n 1, 1) := by decide +kernel
theorem d_X11_layingAt_19 : decode J_X11_layingAt.2.1 19 = .ok (.aaload, 1) := by decide +kernel
theorem d_X11_layingAt_20 : decode J_X11_layingAt.2.1 20 = .ok (.goto 4, 3) := by decide +kernel
theorem d_X11_layingAt_23 : decode J_X11_layingAt.2.1 23 = .ok (.aconst_null, 1) := by decide +kernel
theorem d_X11_layingAt_24 : decode J_X11_layingAt.2.1 24 = .ok (.areturn, 1) := by decide +kernel
def f_X11_layingAt (N : Nat) (K : oK) (p1 : Int32) (M : oM) : Option ((Option Nat) × oM) :=
  oB2 (f_X11_within N K p1 (0 : Int32) ((M.1 0 11) - 1) M) (fun v1 M2 => cond v1 (oIx (p1) 20 (oCs (K.2.2.2 20 (p1 : Int32).toNatClampNeg) (some (none, M2)) (fun h5 => some ((some h5), M2)))) (some (none, M2)))
set_option maxRecDepth 20000 in
theorem v_X11_layingAt {X : oX} {N : Nat} {K : oK} {p1 : Int32} {M : oM} {v : (Option Nat)} {M' : oM} (hK : oSR K)  (h : f_X11_layingAt N K p1 M = some (v, M')) : oMet X 2 J_X11_layingAt [(.ref 0), (.int p1)] K M (some (va_rf v)) K M' := by
  unfold f_X11_layingAt at h
  refine oMet_of (L := [some (.ref 0), some (.int p1)]) jJ_X11_layingAt.1 rfl (Nat.le_of_ble_eq_true rfl) rfl (Nat.le_refl _) (Nat.le_refl _) ?_
  have hd : 2 ≤ 2 := Nat.le_refl _
  refine oe_iload_n (pc := 0) d_X11_layingAt_0 rfl ?_
  refine oe_iconst (pc := 1) (v := 0) d_X11_layingAt_1 rfl ?_
  refine oe_aload_n (pc := 2) d_X11_layingAt_2 rfl ?_
  refine oe_getf (pc := 3) d_X11_layingAt_3 fl_X11_141 ock11 (k := 11) (Nat.le_of_ble_eq_true rfl) rfl (oLt hK (a := 0) (Nat.le_of_ble_eq_true rfl)) (oSho hK (a := 0) (Nat.le_of_ble_eq_true rfl) rfl) ?_
  refine oe_iconst (pc := 6) (v := 1) d_X11_layingAt_6 rfl ?_
  refine oe_isub (pc := 7) d_X11_layingAt_7 ?_
  obtain ⟨v1, M2, q3, h⟩ := oB2_some h
  cases v1 with
  | true =>
    replace h := oCt h
    refine oe_callS (pc := 8) d_X11_layingAt_8 (v_X11_within hK  q3) (by omega) ml_X11_89 jJ_X11_within rfl rfl (Nat.le_of_ble_eq_true rfl) ⟨Nat.le_refl _, Nat.le_refl _⟩ ⟨Nat.le_refl _, Nat.le_refl _⟩ ?_
    refine oe_if_eq (pc := 11) (tgt := 23) d_X11_layingAt_11 (by decide) (fun c => absurd c (by decide)) (fun _ => ?_)
    refine oe_aload_n (pc := 14) d_X11_layingAt_14 rfl ?_
    refine oe_getr (pc := 15) d_X11_layingAt_15 fl_X11_41 ock11 (k := 4) (b := 20) (Nat.le_of_ble_eq_true rfl) (by decide) (oLt hK (a := 0) (Nat.le_of_ble_eq_true rfl)) (oSho hK (a := 0) (Nat.le_of_ble_eq_true rfl) rfl) (oRfK hK rfl) ?_
    refine oe_iload_n (pc := 18) d_X11_layingAt_18 rfl ?_
    obtain ⟨i4, h⟩ := oIx_some h
    cases e19 : K.2.2.2 20 (p1 : Int32).toNatClampNeg with
    | none =>
      rw [e19] at h
      replace h := oCsN h
      refine oe_aald4N (pc := 19) d_X11_layingAt_19 (oLt hK (a := 20) (Nat.le_of_ble_eq_true rfl)) (oSha hK (a := 20) (Nat.le_of_ble_eq_true rfl) rfl) i4 e19 ?_
      refine oe_goto (pc := 20) (tgt := 24) d_X11_layingAt_20 (by decide) ?_
      obtain ⟨rfl, rfl⟩ := oRes h
      exact oe_aretN (pc := 24) d_X11_layingAt_24 ⟨_, rfl⟩
    | some h5 =>
      rw [e19] at h
      replace h := oCsS h
      have hh_h5 : oLS K h5 := oLyR hK e19
      refine oe_aald4r (pc := 19) (b := h5) d_X11_layingAt_19 (oLt hK (a := 20) (Nat.le_of_ble_eq_true rfl)) (oSha hK (a := 20) (Nat.le_of_ble_eq_true rfl) rfl) i4 e19 ?_
      refine oe_goto (pc := 20) (tgt := 24) d_X11_layingAt_20 (by decide) ?_
      obtain ⟨rfl, rfl⟩ := oRes h
      exact oe_aret (pc := 24) d_X11_layingAt_24 ⟨_, rfl⟩
  | false =>
    replace h := oCf h
    refine oe_callS (pc := 8) d_X11_layingAt_8 (v_X11_within hK  q3) (by omega) ml_X11_89 jJ_X11_within rfl rfl (Nat.le_of_ble_eq_true rfl) ⟨Nat.le_refl _, Nat.le_refl _⟩ ⟨Nat.le_refl _, Nat.le_refl _⟩ ?_
    refine oe_if_eq (pc := 11) (tgt := 23) d_X11_layingAt_11 (by decide) (fun _ => ?_) (fun c => absurd (by decide) c)
    refine oe_null (pc := 23) d_X11_layingAt_23 ?_
    obtain ⟨rfl, rfl⟩ := oRes h
    exact oe_aretN (pc := 24) d_X11_layingAt_24 ⟨_, rfl⟩
theorem o_X11_layingAt_ok {K : oK} {N : Nat} {p1 : Int32} {M M' : oM} {q : Nat} (hK : oSR K) (h : f_X11_layingAt N K p1 M = some (some q, M')) : oLS K q := by
  unfold f_X11_layingAt at h
  obtain ⟨v, M1, q1, h⟩ := oB2_some h
  cases v with
  | false => cases h
  | true =>
    obtain ⟨i1, h⟩ := oIx_some h
    cases e : K.2.2.2 20 (p1 : Int32).toNatClampNeg with
    | none =>
      rw [e] at h
      cases h
    | some x =>
      rw [e] at h
      cases h
      exact oLyR hK e
theorem d_X11_addPart_0 : decode J_X11_addPart.2.1 0 = .ok (.aload_n 1, 1) := by decide +kernel
theorem d_X11_addPart_1 : decode J_X11_addPart.2.1 1 = .ok (.invokevirtual 180, 3) := by decide +kernel
theorem d_X11_addPart_4 : decode J_X11_addPart.2.1 4 = .ok (.istore 5, 2) := by decide +kernel
theorem d_X11_addPart_6 : decode J_X11_addPart.2.1 6 = .ok (.iload_n 2, 1) := by decide +kernel
theorem d_X11_addPart_7 : decode J_X11_addPart.2.1 7 = .ok (.iconst 1, 1) := by decide +kernel
theorem d_X11_addPart_8 : decode J_X11_addPart.2.1 8 = .ok (.if_icmp .ne 30, 3) := by decide +kernel
theorem d_X11_addPart_11 : decode J_X11_addPart.2.1 11 = .ok (.iload 4, 2) := by decide +kernel
theorem d_X11_addPart_13 : decode J_X11_addPart.2.1 13 = .ok (.invokestatic 109, 3) := by decide +kernel
theorem d_X11_addPart_16 : decode J_X11_addPart.2.1 16 = .ok (.ifCond .eq 16, 3) := by decide +kernel
theorem d_X11_addPart_19 : decode J_X11_addPart.2.1 19 = .ok (.aload_n 0, 1) := by decide +kernel
theorem d_X11_addPart_20 : decode J_X11_addPart.2.1 20 = .ok (.getfield 21, 3) := by decide +kernel
theorem d_X11_addPart_23 : decode J_X11_addPart.2.1 23 = .ok (.iload_n 3, 1) := by decide +kernel
theorem d_X11_addPart_24 : decode J_X11_addPart.2.1 24 = .ok (.iload 5, 2) := by decide +kernel
theorem d_X11_addPart_26 : decode J_X11_addPart.2.1 26 = .ok (.invokevirtual 358, 3) := by decide +kernel
theorem d_X11_addPart_29 : decode J_X11_addPart.2.1 29 = .ok (.goto 4, 3) := by decide +kernel
theorem d_X11_addPart_32 : decode J_X11_addPart.2.1 32 = .ok (.iconst (-1), 1) := by decide +kernel
theorem d_X11_addPart_33 : decode J_X11_addPart.2.1 33 = .ok (.istore 5, 2) := by decide +kernel
theorem d_X11_addPart_35 : decode J_X11_addPart.2.1 35 = .ok (.goto 45, 3) := by decide +kernel
theorem d_X11_addPart_38 : decode J_X11_addPart.2.1 38 = .ok (.iload_n 2, 1) := by decide +kernel
theorem d_X11_addPart_39 : decode J_X11_addPart.2.1 39 = .ok (.ifCond .ne 25, 3) := by decide +kernel
theorem d_X11_addPart_42 : decode J_X11_addPart.2.1 42 = .ok (.aload_n 0, 1) := by decide +kernel
theorem d_X11_addPart_43 : decode J_X11_addPart.2.1 43 = .ok (.getfield 28, 3) := by decide +kernel
theorem d_X11_addPart_46 : decode J_X11_addPart.2.1 46 = .ok (.iload_n 3, 1) := by decide +kernel
theorem d_X11_addPart_47 : decode J_X11_addPart.2.1 47 = .ok (.invokevirtual 132, 3) := by decide +kernel
theorem d_X11_addPart_50 : decode J_X11_addPart.2.1 50 = .ok (.ifCond .eq 8, 3) := by decide +kernel
theorem d_X11_addPart_53 : decode J_X11_addPart.2.1 53 = .ok (.iload 5, 2) := by decide +kernel
theorem d_X11_addPart_55 : decode J_X11_addPart.2.1 55 = .ok (.goto 4, 3) := by decide +kernel
theorem d_X11_addPart_58 : decode J_X11_addPart.2.1 58 = .ok (.iconst (-1), 1) := by decide +kernel
theorem d_X11_addPart_59 : decode J_X11_addPart.2.1 59 = .ok (.istore 5, 2) := by decide +kernel
theorem d_X11_addPart_61 : decode J_X11_addPart.2.1 61 = .ok (.goto 19, 3) := by decide +kernel
theorem d_X11_addPart_64 : decode J_X11_addPart.2.1 64 = .ok (.iload_n 2, 1) := by decide +kernel
theorem d_X11_addPart_65 : decode J_X11_addPart.2.1 65 = .ok (.iconst 2, 1) := by decide +kernel
theorem d_X11_addPart_66 : decode J_X11_addPart.2.1 66 = .ok (.if_icmp .ne 11, 3) := by decide +kernel
theorem d_X11_addPart_69 : decode J_X11_addPart.2.1 69 = .ok (.aload_n 1, 1) := by decide +kernel
theorem d_X11_addPart_70 : decode J_X11_addPart.2.1 70 = .ok (.getfield 174, 3) := by decide +kernel
theorem d_X11_addPart_73 : decode J_X11_addPart.2.1 73 = .ok (.iconst 3, 1) := by decide +kernel
theorem d_X11_addPart_74 : decode J_X11_addPart.2.1 74 = .ok (.if_icmp .eq 6, 3) := by decide +kernel
theorem d_X11_addPart_77 : decode J_X11_addPart.2.1 77 = .ok (.iconst (-1), 1) := by decide +kernel
theorem d_X11_addPart_78 : decode J_X11_addPart.2.1 78 = .ok (.istore 5, 2) := by decide +kernel
theorem d_X11_addPart_80 : decode J_X11_addPart.2.1 80 = .ok (.iload 5, 2) := by decide +kernel
theorem d_X11_addPart_82 : decode J_X11_addPart.2.1 82 = .ok (.ifCond .ge 5, 3) := by decide +kernel
theorem d_X11_addPart_85 : decode J_X11_addPart.2.1 85 = .ok (.iconst (-1), 1) := by decide +kernel
theorem d_X11_addPart_86 : decode J_X11_addPart.2.1 86 = .ok (.ireturn, 1) := by decide +kernel
theorem d_X11_addPart_87 : decode J_X11_addPart.2.1 87 = .ok (.iload_n 2, 1) := by decide +kernel
theorem d_X11_addPart_88 : decode J_X11_addPart.2.1 88 = .ok (.ifCond .ne 18, 3) := by decide +kernel
theorem d_X11_addPart_91 : decode J_X11_addPart.2.1 91 = .ok (.aload_n 0, 1) := by decide +kernel
theorem d_X11_addPart_92 : decode J_X11_addPart.2.1 92 = .ok (.getfield 28, 3) := by decide +kernel
theorem d_X11_addPart_95 : decode J_X11_addPart.2.1 95 = .ok (.getfield 361, 3) := by decide +kernel
theorem d_X11_addPart_98 : decode J_X11_addPart.2.1 98 = .ok (.iload_n 3, 1) := by decide +kernel
theorem d_X11_addPart_99 : decode J_X11_addPart.2.1 99 = .ok (.baload, 1) := by decide +kernel
theorem d_X11_addPart_100 : decode J_X11_addPart.2.1 100 = .ok (.ifCond .eq 6, 3) := by decide +kernel
theorem d_X11_addPart_103 : decode J_X11_addPart.2.1 103 = .ok (.bipush (-5), 2) := by decide +kernel
theorem d_X11_addPart_105 : decode J_X11_addPart.2.1 105 = .ok (.ireturn, 1) := by decide +kernel
theorem d_X11_addPart_106 : decode J_X11_addPart.2.1 106 = .ok (.aload_n 1, 1) := by decide +kernel
theorem d_X11_addPart_107 : decode J_X11_addPart.2.1 107 = .ok (.getfield 177, 3) := by decide +kernel
theorem d_X11_addPart_110 : decode J_X11_addPart.2.1 110 = .ok (.bipush 24, 2) := by decide +kernel
theorem d_X11_addPart_112 : decode J_X11_addPart.2.1 112 = .ok (.if_icmp .lt 6, 3) := by decide +kernel
theorem d_X11_addPart_115 : decode J_X11_addPart.2.1 115 = .ok (.bipush (-3), 2) := by decide +kernel
theorem d_X11_addPart_117 : decode J_X11_addPart.2.1 117 = .ok (.ireturn, 1) := by decide +kernel
theorem d_X11_addPart_118 : decode J_X11_addPart.2.1 118 = .ok (.iload_n 2, 1) := by decide +kernel
theorem d_X11_addPart_119 : decode J_X11_addPart.2.1 119 = .ok (.ifCond .ne 13, 3) := by decide +kernel
theorem d_X11_addPart_122 : decode J_X11_addPart.2.1 122 = .ok (.aload_n 0, 1) := by decide +kernel
theorem d_X11_addPart_123 : decode J_X11_addPart.2.1 123 = .ok (.getfield 28, 3) := by decide +kernel
theorem d_X11_addPart_126 : decode J_X11_addPart.2.1 126 = .ok (.getfield 361, 3) := by decide +kernel
theorem d_X11_addPart_129 : decode J_X11_addPart.2.1 129 = .ok (.iload_n 3, 1) := by decide +kernel
theorem d_X11_addPart_130 : decode J_X11_addPart.2.1 130 = .ok (.iconst 1, 1) := by decide +kernel
theorem d_X11_addPart_131 : decode J_X11_addPart.2.1 131 = .ok (.bastore, 1) := by decide +kernel
theorem d_X11_addPart_132 : decode J_X11_addPart.2.1 132 = .ok (.aload_n 1, 1) := by decide +kernel
theorem d_X11_addPart_133 : decode J_X11_addPart.2.1 133 = .ok (.iload_n 2, 1) := by decide +kernel
theorem d_X11_addPart_134 : decode J_X11_addPart.2.1 134 = .ok (.iload_n 2, 1) := by decide +kernel
theorem d_X11_addPart_135 : decode J_X11_addPart.2.1 135 = .ok (.iconst 2, 1) := by decide +kernel
theorem d_X11_addPart_136 : decode J_X11_addPart.2.1 136 = .ok (.if_icmp .ne 7, 3) := by decide +kernel
theorem d_X11_addPart_139 : decode J_X11_addPart.2.1 139 = .ok (.iconst (-1), 1) := by decide +kernel
theorem d_X11_addPart_140 : decode J_X11_addPart.2.1 140 = .ok (.goto 4, 3) := by decide +kernel
theorem d_X11_addPart_143 : decode J_X11_addPart.2.1 143 = .ok (.iload_n 3, 1) := by decide +kernel
theorem d_X11_addPart_144 : decode J_X11_addPart.2.1 144 = .ok (.iload_n 2, 1) := by decide +kernel
theorem d_X11_addPart_145 : decode J_X11_addPart.2.1 145 = .ok (.iconst 1, 1) := by decide +kernel
theorem d_X11_addPart_146 : decode J_X11_addPart.2.1 146 = .ok (.if_icmp .ne 8, 3) := by decide +kernel
theorem d_X11_addPart_149 : decode J_X11_addPart.2.1 149 = .ok (.iload 4, 2) := by decide +kernel
theorem d_X11_addPart_151 : decode J_X11_addPart.2.1 151 = .ok (.goto 4, 3) := by decide +kernel
theorem d_X11_addPart_154 : decode J_X11_addPart.2.1 154 = .ok (.iconst (-1), 1) := by decide +kernel
theorem d_X11_addPart_155 : decode J_X11_addPart.2.1 155 = .ok (.iload 5, 2) := by decide +kernel
theorem d_X11_addPart_157 : decode J_X11_addPart.2.1 157 = .ok (.invokevirtual 365, 3) := by decide +kernel
theorem d_X11_addPart_160 : decode J_X11_addPart.2.1 160 = .ok (.aload_n 1, 1) := by decide +kernel
theorem d_X11_addPart_161 : decode J_X11_addPart.2.1 161 = .ok (.getfield 177, 3) := by decide +kernel
theorem d_X11_addPart_164 : decode J_X11_addPart.2.1 164 = .ok (.ireturn, 1) := by decide +kernel
def f_X11_addPart_155 (N : Nat) (K : oK)  (p1 : Nat) (p5 : Int32) (s0 : Int32) (s1 : Int32) (s2 : Int32) (s3 : Nat) (M : oM) : Option (Int32 × oM) :=
  oB2 (f_X6_add N K s3 s2 s1 s0 p5 M) (fun v13 M14 => some ((M14.1 p1 7), M14))
set_option maxRecDepth 20000 in
theorem v_X11_addPart_155 {X : oX} {d N : Nat} {K : oK}  {p1 : Nat} {p5 : Int32} {s0 : Int32} {s1 : Int32} {s2 : Int32} {s3 : Nat} {M : oM} {v : Int32} {M' : oM}  (hd : 4 ≤ d) (hK : oSR K) (hh_p1 : oLS K p1) (hh_s3 : oLS K s3)  (h : f_X11_addPart_155 N K  p1 p5 s0 s1 s2 s3 M = some (v, M')) : oEv X d J_X11_addPart 155 [none, some (.ref p1), none, none, none, some (.int p5)] [(.int s0), (.int s1), (.int s2), (.ref s3)] K M (some (.int v)) K M' := by
  unfold f_X11_addPart_155 at h
  refine oe_iload (pc := 155) d_X11_addPart_155 rfl ?_
  obtain ⟨v13, M14, q15, h⟩ := oB2_some h
  refine oe_callV (pc := 157) (ci := 6) d_X11_addPart_157 (v_X6_add hK hh_s3 q15) (by omega) ml_X11_365 jJ_X6_add rfl rfl (oLSa hh_s3 (j := 0) (Nat.le_of_ble_eq_true rfl)) (oLSo hh_s3) ock6 rfl (Nat.le_of_ble_eq_true rfl) ⟨Nat.le_refl _, Nat.le_refl _⟩ ⟨Nat.le_refl _, Nat.le_refl _⟩ ?_
  refine oe_aload_n (pc := 160) d_X11_addPart_160 rfl ?_
  refine oe_getf (pc := 161) d_X11_addPart_161 fl_X11_177 ock6 (k := 7) (Nat.le_of_ble_eq_true rfl) rfl (oLSa hh_p1 (j := 0) (Nat.le_of_ble_eq_true rfl)) (oLSo hh_p1) ?_
  obtain ⟨rfl, rfl⟩ := oRes h
  exact oe_iret (pc := 164) d_X11_addPart_164 ⟨_, rfl, rfl⟩
def f_X11_addPart_144 (N : Nat) (K : oK)  (p1 : Nat) (p2 : Int32) (p4 : Int32) (p5 : Int32) (s0 : Int32) (s1 : Int32) (s2 : Nat) (M : oM) : Option (Int32 × oM) :=
  (if p2 = 1 then (f_X11_addPart_155 N K  p1 p5 p4 s0 s1 s2 M) else (f_X11_addPart_155 N K  p1 p5 (-1) s0 s1 s2 M))
set_option maxRecDepth 20000 in
theorem v_X11_addPart_144 {X : oX} {d N : Nat} {K : oK}  {p1 : Nat} {p2 : Int32} {p4 : Int32} {p5 : Int32} {s0 : Int32} {s1 : Int32} {s2 : Nat} {M : oM} {v : Int32} {M' : oM}  (hd : 4 ≤ d) (hK : oSR K) (hh_p1 : oLS K p1) (hh_s2 : oLS K s2)  (h : f_X11_addPart_144 N K  p1 p2 p4 p5 s0 s1 s2 M = some (v, M')) : oEv X d J_X11_addPart 144 [none, some (.ref p1), some (.int p2), none, some (.int p4), some (.int p5)] [(.int s0), (.int s1), (.ref s2)] K M (some (.int v)) K M' := by
  unfold f_X11_addPart_144 at h
  refine oe_iload_n (pc := 144) d_X11_addPart_144 rfl ?_
  refine oe_iconst (pc := 145) (v := 1) d_X11_addPart_145 rfl ?_
  refine oe_icmp_ne (pc := 146) (tgt := 154) d_X11_addPart_146 (by decide) (fun c12 => ?_) (fun c12 => ?_)
  · replace h := (if_neg c12).symm.trans h
    refine oe_iconst (pc := 154) (v := (-1)) d_X11_addPart_154 rfl ?_
    refine oEv.fg [false, true, false, false, false, true] ?_
    exact v_X11_addPart_155 hd hK hh_p1 hh_s2  h
  · replace h := (if_pos c12).symm.trans h
    refine oe_iload (pc := 149) d_X11_addPart_149 rfl ?_
    refine oe_goto (pc := 151) (tgt := 155) d_X11_addPart_151 (by decide) ?_
    refine oEv.fg [false, true, false, false, false, true] ?_
    exact v_X11_addPart_155 hd hK hh_p1 hh_s2  h
def f_X11_addPart_132 (N : Nat) (K : oK)  (p1 : Nat) (p2 : Int32) (p3 : Int32) (p4 : Int32) (p5 : Int32) (M : oM) : Option (Int32 × oM) :=
  (if p2 = 2 then (f_X11_addPart_144 N K  p1 p2 p4 p5 (-1) p2 p1 M) else (f_X11_addPart_144 N K  p1 p2 p4 p5 p3 p2 p1 M))
set_option maxRecDepth 20000 in
theorem v_X11_addPart_132 {X : oX} {d N : Nat} {K : oK}  {p1 : Nat} {p2 : Int32} {p3 : Int32} {p4 : Int32} {p5 : Int32} {M : oM} {v : Int32} {M' : oM}  (hd : 4 ≤ d) (hK : oSR K) (hh_p1 : oLS K p1)  (h : f_X11_addPart_132 N K  p1 p2 p3 p4 p5 M = some (v, M')) : oEv X d J_X11_addPart 132 [none, some (.ref p1), some (.int p2), some (.int p3), some (.int p4), some (.int p5)] [] K M (some (.int v)) K M' := by
  unfold f_X11_addPart_132 at h
  refine oe_aload_n (pc := 132) d_X11_addPart_132 rfl ?_
  refine oe_iload_n (pc := 133) d_X11_addPart_133 rfl ?_
  refine oe_iload_n (pc := 134) d_X11_addPart_134 rfl ?_
  refine oe_iconst (pc := 135) (v := 2) d_X11_addPart_135 rfl ?_
  refine oe_icmp_ne (pc := 136) (tgt := 143) d_X11_addPart_136 (by decide) (fun c11 => ?_) (fun c11 => ?_)
  · replace h := (if_neg c11).symm.trans h
    refine oe_iload_n (pc := 143) d_X11_addPart_143 rfl ?_
    refine oEv.fg [false, true, true, false, true, true] ?_
    exact v_X11_addPart_144 hd hK hh_p1 hh_p1  h
  · replace h := (if_pos c11).symm.trans h
    refine oe_iconst (pc := 139) (v := (-1)) d_X11_addPart_139 rfl ?_
    refine oe_goto (pc := 140) (tgt := 144) d_X11_addPart_140 (by decide) ?_
    refine oEv.fg [false, true, true, false, true, true] ?_
    exact v_X11_addPart_144 hd hK hh_p1 hh_p1  h
def f_X11_addPart_106 (N : Nat) (K : oK)  (p1 : Nat) (p2 : Int32) (p3 : Int32) (p4 : Int32) (p5 : Int32) (M : oM) : Option (Int32 × oM) :=
  (if (M.1 p1 7) < 24 then (if p2 = 0 then oIx (p3) 6 ((f_X11_addPart_132 N K  p1 p2 p3 p4 p5 (oUp M 14 (p3 : Int32).toNatClampNeg (vp_nar .boolean (1 : Int32))))) else (f_X11_addPart_132 N K  p1 p2 p3 p4 p5 M)) else some ((-3), M))
set_option maxRecDepth 20000 in
theorem v_X11_addPart_106 {X : oX} {d N : Nat} {K : oK}  {p1 : Nat} {p2 : Int32} {p3 : Int32} {p4 : Int32} {p5 : Int32} {M : oM} {v : Int32} {M' : oM}  (hd : 4 ≤ d) (hK : oSR K) (hh_p1 : oLS K p1)  (h : f_X11_addPart_106 N K  p1 p2 p3 p4 p5 M = some (v, M')) : oEv X d J_X11_addPart 106 [some (.ref 0), some (.ref p1), some (.int p2), some (.int p3), some (.int p4), some (.int p5)] [] K M (some (.int v)) K M' := by
  unfold f_X11_addPart_106 at h
  refine oe_aload_n (pc := 106) d_X11_addPart_106 rfl ?_
  refine oe_getf (pc := 107) d_X11_addPart_107 fl_X11_177 ock6 (k := 7) (Nat.le_of_ble_eq_true rfl) rfl (oLSa hh_p1 (j := 0) (Nat.le_of_ble_eq_true rfl)) (oLSo hh_p1) ?_
  refine oe_bipush (pc := 110) (v := 24) d_X11_addPart_110 rfl ?_
  refine oe_icmp_lt (pc := 112) (tgt := 118) d_X11_addPart_112 (by decide) (fun c9 => ?_) (fun c9 => ?_)
  · replace h := (if_pos c9).symm.trans h
    refine oe_iload_n (pc := 118) d_X11_addPart_118 rfl ?_
    refine oe_if_ne (pc := 119) (tgt := 132) d_X11_addPart_119 (by decide) (fun c10 => ?_) (fun c10 => ?_)
    · replace h := (if_neg c10).symm.trans h
      refine oEv.fg [false, true, true, true, true, true] ?_
      exact v_X11_addPart_132 hd hK hh_p1  h
    · replace h := (if_pos c10).symm.trans h
      refine oe_aload_n (pc := 122) d_X11_addPart_122 rfl ?_
      refine oe_getr (pc := 123) d_X11_addPart_123 fl_X11_28 ock11 (k := 2) (b := 11) (Nat.le_of_ble_eq_true rfl) (by decide) (oLt hK (a := 0) (Nat.le_of_ble_eq_true rfl)) (oSho hK (a := 0) (Nat.le_of_ble_eq_true rfl) rfl) (oRfK hK rfl) ?_
      refine oe_getr (pc := 126) d_X11_addPart_126 fl_X11_361 ock3 (k := 3) (b := 14) (Nat.le_of_ble_eq_true rfl) (by decide) (oLt hK (a := 11) (Nat.le_of_ble_eq_true rfl)) (oSho hK (a := 11) (Nat.le_of_ble_eq_true rfl) rfl) (oRfK hK rfl) ?_
      refine oe_iload_n (pc := 129) d_X11_addPart_129 rfl ?_
      refine oe_iconst (pc := 130) (v := 1) d_X11_addPart_130 rfl ?_
      obtain ⟨i16, h⟩ := oIx_some h
      refine oe_zast (pc := 131) d_X11_addPart_131 (oLt hK (a := 14) (Nat.le_of_ble_eq_true rfl)) (oSha hK (a := 14) (Nat.le_of_ble_eq_true rfl) rfl) i16 ?_
      refine oEv.fg [false, true, true, true, true, true] ?_
      exact v_X11_addPart_132 hd hK hh_p1  h
  · replace h := (if_neg c9).symm.trans h
    refine oe_bipush (pc := 115) (v := (-3)) d_X11_addPart_115 rfl ?_
    obtain ⟨rfl, rfl⟩ := oRes h
    exact oe_iret (pc := 117) d_X11_addPart_117 ⟨_, rfl, rfl⟩
def f_X11_addPart_80 (N : Nat) (K : oK)  (p1 : Nat) (p2 : Int32) (p3 : Int32) (p4 : Int32) (p5 : Int32) (M : oM) : Option (Int32 × oM) :=
  (if 0 ≤ p5 then (if p2 = 0 then oIx (p3) 6 ((if (M.1 14 (p3 : Int32).toNatClampNeg) = 0 then (f_X11_addPart_106 N K  p1 p2 p3 p4 p5 M) else some ((-5), M))) else (f_X11_addPart_106 N K  p1 p2 p3 p4 p5 M)) else some ((-1), M))
set_option maxRecDepth 20000 in
theorem v_X11_addPart_80 {X : oX} {d N : Nat} {K : oK}  {p1 : Nat} {p2 : Int32} {p3 : Int32} {p4 : Int32} {p5 : Int32} {M : oM} {v : Int32} {M' : oM}  (hd : 4 ≤ d) (hK : oSR K) (hh_p1 : oLS K p1)  (h : f_X11_addPart_80 N K  p1 p2 p3 p4 p5 M = some (v, M')) : oEv X d J_X11_addPart 80 [some (.ref 0), some (.ref p1), some (.int p2), some (.int p3), some (.int p4), some (.int p5)] [] K M (some (.int v)) K M' := by
  unfold f_X11_addPart_80 at h
  refine oe_iload (pc := 80) d_X11_addPart_80 rfl ?_
  refine oe_if_ge (pc := 82) (tgt := 87) d_X11_addPart_82 (by decide) (fun c7 => ?_) (fun c7 => ?_)
  · replace h := (if_pos c7).symm.trans h
    refine oe_iload_n (pc := 87) d_X11_addPart_87 rfl ?_
    refine oe_if_ne (pc := 88) (tgt := 106) d_X11_addPart_88 (by decide) (fun c8 => ?_) (fun c8 => ?_)
    · replace h := (if_neg c8).symm.trans h
      exact v_X11_addPart_106 hd hK hh_p1  h
    · replace h := (if_pos c8).symm.trans h
      refine oe_aload_n (pc := 91) d_X11_addPart_91 rfl ?_
      refine oe_getr (pc := 92) d_X11_addPart_92 fl_X11_28 ock11 (k := 2) (b := 11) (Nat.le_of_ble_eq_true rfl) (by decide) (oLt hK (a := 0) (Nat.le_of_ble_eq_true rfl)) (oSho hK (a := 0) (Nat.le_of_ble_eq_true rfl) rfl) (oRfK hK rfl) ?_
      refine oe_getr (pc := 95) d_X11_addPart_95 fl_X11_361 ock3 (k := 3) (b := 14) (Nat.le_of_ble_eq_true rfl) (by decide) (oLt hK (a := 11) (Nat.le_of_ble_eq_true rfl)) (oSho hK (a := 11) (Nat.le_of_ble_eq_true rfl) rfl) (oRfK hK rfl) ?_
      refine oe_iload_n (pc := 98) d_X11_addPart_98 rfl ?_
      obtain ⟨i17, h⟩ := oIx_some h
      refine oe_zald (pc := 99) d_X11_addPart_99 (oLt hK (a := 14) (Nat.le_of_ble_eq_true rfl)) (oSha hK (a := 14) (Nat.le_of_ble_eq_true rfl) rfl) i17 ?_
      refine oe_if_eq (pc := 100) (tgt := 106) d_X11_addPart_100 (by decide) (fun c18 => ?_) (fun c18 => ?_)
      · replace h := (if_pos c18).symm.trans h
        exact v_X11_addPart_106 hd hK hh_p1  h
      · replace h := (if_neg c18).symm.trans h
        refine oe_bipush (pc := 103) (v := (-5)) d_X11_addPart_103 rfl ?_
        obtain ⟨rfl, rfl⟩ := oRes h
        exact oe_iret (pc := 105) d_X11_addPart_105 ⟨_, rfl, rfl⟩
  · replace h := (if_neg c7).symm.trans h
    refine oe_iconst (pc := 85) (v := (-1)) d_X11_addPart_85 rfl ?_
    obtain ⟨rfl, rfl⟩ := oRes h
    exact oe_iret (pc := 86) d_X11_addPart_86 ⟨_, rfl, rfl⟩
def f_X11_addPart_77 (N : Nat) (K : oK)  (p1 : Nat) (p2 : Int32) (p3 : Int32) (p4 : Int32) (M : oM) : Option (Int32 × oM) :=
  (f_X11_addPart_80 N K  p1 p2 p3 p4 (-1) M)
set_option maxRecDepth 20000 in
theorem v_X11_addPart_77 {X : oX} {d N : Nat} {K : oK}  {p1 : Nat} {p2 : Int32} {p3 : Int32} {p4 : Int32} {M : oM} {v : Int32} {M' : oM}  (hd : 4 ≤ d) (hK : oSR K) (hh_p1 : oLS K p1)  (h : f_X11_addPart_77 N K  p1 p2 p3 p4 M = some (v, M')) : oEv X d J_X11_addPart 77 [some (.ref 0), some (.ref p1), some (.int p2), some (.int p3), some (.int p4), none] [] K M (some (.int v)) K M' := by
  unfold f_X11_addPart_77 at h
  refine oe_iconst (pc := 77) (v := (-1)) d_X11_addPart_77 rfl ?_
  refine oe_istore (pc := 78) (L2 := [_, _, _, _, _, _]) d_X11_addPart_78 rfl (Nat.le_of_ble_eq_true rfl) rfl ?_
  exact v_X11_addPart_80 hd hK hh_p1  h
def f_X11_addPart_59 (N : Nat) (K : oK)  (p1 : Nat) (p2 : Int32) (p3 : Int32) (p4 : Int32) (s0 : Int32) (M : oM) : Option (Int32 × oM) :=
  (f_X11_addPart_80 N K  p1 p2 p3 p4 s0 M)
set_option maxRecDepth 20000 in
theorem v_X11_addPart_59 {X : oX} {d N : Nat} {K : oK}  {p1 : Nat} {p2 : Int32} {p3 : Int32} {p4 : Int32} {s0 : Int32} {M : oM} {v : Int32} {M' : oM}  (hd : 4 ≤ d) (hK : oSR K) (hh_p1 : oLS K p1)  (h : f_X11_addPart_59 N K  p1 p2 p3 p4 s0 M = some (v, M')) : oEv X d J_X11_addPart 59 [some (.ref 0), some (.ref p1), some (.int p2), some (.int p3), some (.int p4), none] [(.int s0)] K M (some (.int v)) K M' := by
  unfold f_X11_addPart_59 at h
  refine oe_istore (pc := 59) (L2 := [_, _, _, _, _, _]) d_X11_addPart_59 rfl (Nat.le_of_ble_eq_true rfl) rfl ?_
  refine oe_goto (pc := 61) (tgt := 80) d_X11_addPart_61 (by decide) ?_
  exact v_X11_addPart_80 hd hK hh_p1  h
def f_X11_addPart_33 (N : Nat) (K : oK)  (p1 : Nat) (p2 : Int32) (p3 : Int32) (p4 : Int32) (s0 : Int32) (M : oM) : Option (Int32 × oM) :=
  (f_X11_addPart_80 N K  p1 p2 p3 p4 s0 M)
set_option maxRecDepth 20000 in
theorem v_X11_addPart_33 {X : oX} {d N : Nat} {K : oK}  {p1 : Nat} {p2 : Int32} {p3 : Int32} {p4 : Int32} {s0 : Int32} {M : oM} {v : Int32} {M' : oM}  (hd : 4 ≤ d) (hK : oSR K) (hh_p1 : oLS K p1)  (h : f_X11_addPart_33 N K  p1 p2 p3 p4 s0 M = some (v, M')) : oEv X d J_X11_addPart 33 [some (.ref 0), some (.ref p1), some (.int p2), some (.int p3), some (.int p4), none] [(.int s0)] K M (some (.int v)) K M' := by
  unfold f_X11_addPart_33 at h
  refine oe_istore (pc := 33) (L2 := [_, _, _, _, _, _]) d_X11_addPart_33 rfl (Nat.le_of_ble_eq_true rfl) rfl ?_
  refine oe_goto (pc := 35) (tgt := 80) d_X11_addPart_35 (by decide) ?_
  exact v_X11_addPart_80 hd hK hh_p1  h
def f_X11_addPart (N : Nat) (K : oK) (p1 : Nat) (p2 : Int32) (p3 : Int32) (p4 : Int32) (M : oM) : Option (Int32 × oM) :=
  oB2 (f_X6_end N K p1 M) (fun v1 M2 => (if p2 = 1 then oB2 (f_X11_isBore N K p4 M2) (fun v23 M24 => cond v23 (oB2 (f_X4_otherEnd N K p3 v1 M24) (fun v26 M27 => (f_X11_addPart_33 N K  p1 p2 p3 p4 v26 M27))) ((f_X11_addPart_33 N K  p1 p2 p3 p4 (-1) M24))) else (if p2 = 0 then oB2 (f_X3_isEngine N K p3 M2) (fun v20 M21 => cond v20 ((f_X11_addPart_59 N K  p1 p2 p3 p4 v1 M21)) ((f_X11_addPart_59 N K  p1 p2 p3 p4 (-1) M21))) else (if p2 = 2 then (if (M2.1 p1 1) = 3 then (f_X11_addPart_80 N K  p1 p2 p3 p4 v1 M2) else (f_X11_addPart_77 N K  p1 p2 p3 p4 M2)) else (f_X11_addPart_77 N K  p1 p2 p3 p4 M2)))))
set_option maxRecDepth 20000 in
theorem v_X11_addPart {X : oX} {N : Nat} {K : oK} {p1 : Nat} {p2 : Int32} {p3 : Int32} {p4 : Int32} {M : oM} {v : Int32} {M' : oM} (hK : oSR K) (hh_p1 : oLS K p1) (h : f_X11_addPart N K p1 p2 p3 p4 M = some (v, M')) : oMet X 4 J_X11_addPart [(.ref 0), (.ref p1), (.int p2), (.int p3), (.int p4)] K M (some (.int v)) K M' := by
  unfold f_X11_addPart at h
  refine oMet_of (L := [some (.ref 0), some (.ref p1), some (.int p2), some (.int p3), some (.int p4), none]) jJ_X11_addPart.1 rfl (Nat.le_of_ble_eq_true rfl) rfl (Nat.le_refl _) (Nat.le_refl _) ?_
  have hd : 4 ≤ 4 := Nat.le_refl _
  refine oe_aload_n (pc := 0) d_X11_addPart_0 rfl ?_
  obtain ⟨v1, M2, q3, h⟩ := oB2_some h
  refine oe_callV (pc := 1) (ci := 6) d_X11_addPart_1 (v_X6_end hK hh_p1 q3) (by omega) ml_X11_180 jJ_X6_end rfl rfl (oLSa hh_p1 (j := 0) (Nat.le_of_ble_eq_true rfl)) (oLSo hh_p1) ock6 rfl (Nat.le_of_ble_eq_true rfl) ⟨Nat.le_refl _, Nat.le_refl _⟩ ⟨Nat.le_refl _, Nat.le_refl _⟩ ?_
  refine oe_istore (pc := 4) (L2 := [_, _, _, _, _, _]) d_X11_addPart_4 rfl (Nat.le_of_ble_eq_true rfl) rfl ?_
  refine oe_iload_n (pc := 6) d_X11_addPart_6 rfl ?_
  refine oe_iconst (pc := 7) (v := 1) d_X11_addPart_7 rfl ?_
  refine oe_icmp_ne (pc := 8) (tgt := 38) d_X11_addPart_8 (by decide) (fun c4 => ?_) (fun c4 => ?_)
  · replace h := (if_neg c4).symm.trans h
    refine oe_iload_n (pc := 38) d_X11_addPart_38 rfl ?_
    refine oe_if_ne (pc := 39) (tgt := 64) d_X11_addPart_39 (by decide) (fun c5 => ?_) (fun c5 => ?_)
    · replace h := (if_neg c5).symm.trans h
      refine oe_iload_n (pc := 64) d_X11_addPart_64 rfl ?_
      refine oe_iconst (pc := 65) (v := 2) d_X11_addPart_65 rfl ?_
      refine oe_icmp_ne (pc := 66) (tgt := 77) d_X11_addPart_66 (by decide) (fun c6 => ?_) (fun c6 => ?_)
      · replace h := (if_neg c6).symm.trans h
        refine oEv.fg [true, true, true, true, true, false] ?_
        exact v_X11_addPart_77 hd hK hh_p1  h
      · replace h := (if_pos c6).symm.trans h
        refine oe_aload_n (pc := 69) d_X11_addPart_69 rfl ?_
        refine oe_getf (pc := 70) d_X11_addPart_70 fl_X11_174 ock6 (k := 1) (Nat.le_of_ble_eq_true rfl) rfl (oLSa hh_p1 (j := 0) (Nat.le_of_ble_eq_true rfl)) (oLSo hh_p1) ?_
        refine oe_iconst (pc := 73) (v := 3) d_X11_addPart_73 rfl ?_
        refine oe_icmp_eq (pc := 74) (tgt := 80) d_X11_addPart_74 (by decide) (fun c19 => ?_) (fun c19 => ?_)
        · replace h := (if_pos c19).symm.trans h
          exact v_X11_addPart_80 hd hK hh_p1  h
        · replace h := (if_neg c19).symm.trans h
          refine oEv.fg [true, true, true, true, true, false] ?_
          exact v_X11_addPart_77 hd hK hh_p1  h
    · replace h := (if_pos c5).symm.trans h
      refine oe_aload_n (pc := 42) d_X11_addPart_42 rfl ?_
      refine oe_getr (pc := 43) d_X11_addPart_43 fl_X11_28 ock11 (k := 2) (b := 11) (Nat.le_of_ble_eq_true rfl) (by decide) (oLt hK (a := 0) (Nat.le_of_ble_eq_true rfl)) (oSho hK (a := 0) (Nat.le_of_ble_eq_true rfl) rfl) (oRfK hK rfl) ?_
      refine oe_iload_n (pc := 46) d_X11_addPart_46 rfl ?_
      obtain ⟨v20, M21, q22, h⟩ := oB2_some h
      cases v20 with
      | true =>
        replace h := oCt h
        refine oe_callV (pc := 47) (ci := 3) d_X11_addPart_47 (v_X3_isEngine hK  q22) (by omega) ml_X11_132 jJ_X3_isEngine rfl rfl (oLt hK (a := 11) (Nat.le_of_ble_eq_true rfl)) (oSho hK (a := 11) (Nat.le_of_ble_eq_true rfl) rfl) ock3 rfl (Nat.le_of_ble_eq_true rfl) ⟨Nat.le_refl _, Nat.le_refl _⟩ ⟨Nat.le_refl _, Nat.le_refl _⟩ ?_
        refine oe_if_eq (pc := 50) (tgt := 58) d_X11_addPart_50 (by decide) (fun c => absurd c (by decide)) (fun _ => ?_)
        refine oe_iload (pc := 53) d_X11_addPart_53 rfl ?_
        refine oe_goto (pc := 55) (tgt := 59) d_X11_addPart_55 (by decide) ?_
        refine oEv.fg [true, true, true, true, true, false] ?_
        exact v_X11_addPart_59 hd hK hh_p1  h
      | false =>
        replace h := oCf h
        refine oe_callV (pc := 47) (ci := 3) d_X11_addPart_47 (v_X3_isEngine hK  q22) (by omega) ml_X11_132 jJ_X3_isEngine rfl rfl (oLt hK (a := 11) (Nat.le_of_ble_eq_true rfl)) (oSho hK (a := 11) (Nat.le_of_ble_eq_true rfl) rfl) ock3 rfl (Nat.le_of_ble_eq_true rfl) ⟨Nat.le_refl _, Nat.le_refl _⟩ ⟨Nat.le_refl _, Nat.le_refl _⟩ ?_
        refine oe_if_eq (pc := 50) (tgt := 58) d_X11_addPart_50 (by decide) (fun _ => ?_) (fun c => absurd (by decide) c)
        refine oe_iconst (pc := 58) (v := (-1)) d_X11_addPart_58 rfl ?_
        refine oEv.fg [true, true, true, true, true, false] ?_
        exact v_X11_addPart_59 hd hK hh_p1  h
  · replace h := (if_pos c4).symm.trans h
    refine oe_iload (pc := 11) d_X11_addPart_11 rfl ?_
    obtain ⟨v23, M24, q25, h⟩ := oB2_some h
    cases v23 with
    | true =>
      replace h := oCt h
      refine oe_callS (pc := 13) d_X11_addPart_13 (v_X11_isBore hK  q25) (by omega) ml_X11_109 jJ_X11_isBore rfl rfl (Nat.le_of_ble_eq_true rfl) ⟨Nat.le_refl _, Nat.le_refl _⟩ ⟨Nat.le_refl _, Nat.le_refl _⟩ ?_
      refine oe_if_eq (pc := 16) (tgt := 32) d_X11_addPart_16 (by decide) (fun c => absurd c (by decide)) (fun _ => ?_)
      refine oe_aload_n (pc := 19) d_X11_addPart_19 rfl ?_
      refine oe_getr (pc := 20) d_X11_addPart_20 fl_X11_21 ock11 (k := 1) (b := 6) (Nat.le_of_ble_eq_true rfl) (by decide) (oLt hK (a := 0) (Nat.le_of_ble_eq_true rfl)) (oSho hK (a := 0) (Nat.le_of_ble_eq_true rfl) rfl) (oRfK hK rfl) ?_
      refine oe_iload_n (pc := 23) d_X11_addPart_23 rfl ?_
      refine oe_iload (pc := 24) d_X11_addPart_24 rfl ?_
      obtain ⟨v26, M27, q28, h⟩ := oB2_some h
      refine oe_callV (pc := 26) (ci := 4) d_X11_addPart_26 (v_X4_otherEnd hK  q28) (by omega) ml_X11_358 jJ_X4_otherEnd rfl rfl (oLt hK (a := 6) (Nat.le_of_ble_eq_true rfl)) (oSho hK (a := 6) (Nat.le_of_ble_eq_true rfl) rfl) ock4 rfl (Nat.le_of_ble_eq_true rfl) ⟨Nat.le_refl _, Nat.le_refl _⟩ ⟨Nat.le_refl _, Nat.le_refl _⟩ ?_
      refine oe_goto (pc := 29) (tgt := 33) d_X11_addPart_29 (by decide) ?_
      refine oEv.fg [true, true, true, true, true, false] ?_
      exact v_X11_addPart_33 hd hK hh_p1  h
    | false =>
      replace h := oCf h
      refine oe_callS (pc := 13) d_X11_addPart_13 (v_X11_isBore hK  q25) (by omega) ml_X11_109 jJ_X11_isBore rfl rfl (Nat.le_of_ble_eq_true rfl) ⟨Nat.le_refl _, Nat.le_refl _⟩ ⟨Nat.le_refl _, Nat.le_refl _⟩ ?_
      refine oe_if_eq (pc := 16) (tgt := 32) d_X11_addPart_16 (by decide) (fun _ => ?_) (fun c => absurd (by decide) c)
      refine oe_iconst (pc := 32) (v := (-1)) d_X11_addPart_32 rfl ?_
      refine oEv.fg [true, true, true, true, true, false] ?_
      exact v_X11_addPart_33 hd hK hh_p1  h
theorem d_X11_part_0 : decode J_X11_part.2.1 0 = .ok (.aload_n 0, 1) := by decide +kernel
theorem d_X11_part_1 : decode J_X11_part.2.1 1 = .ok (.iload_n 1, 1) := by decide +kernel
theorem d_X11_part_2 : decode J_X11_part.2.1 2 = .ok (.invokevirtual 148, 3) := by decide +kernel
theorem d_X11_part_5 : decode J_X11_part.2.1 5 = .ok (.astore 5, 2) := by decide +kernel
theorem d_X11_part_7 : decode J_X11_part.2.1 7 = .ok (.aload 5, 2) := by decide +kernel
theorem d_X11_part_9 : decode J_X11_part.2.1 9 = .ok (.ifnonnull 7, 3) := by decide +kernel
theorem d_X11_part_12 : decode J_X11_part.2.1 12 = .ok (.iconst (-1), 1) := by decide +kernel
theorem d_X11_part_13 : decode J_X11_part.2.1 13 = .ok (.goto 13, 3) := by decide +kernel
theorem d_X11_part_16 : decode J_X11_part.2.1 16 = .ok (.aload_n 0, 1) := by decide +kernel
theorem d_X11_part_17 : decode J_X11_part.2.1 17 = .ok (.aload 5, 2) := by decide +kernel
theorem d_X11_part_19 : decode J_X11_part.2.1 19 = .ok (.iload_n 2, 1) := by decide +kernel
theorem d_X11_part_20 : decode J_X11_part.2.1 20 = .ok (.iload_n 3, 1) := by decide +kernel
theorem d_X11_part_21 : decode J_X11_part.2.1 21 = .ok (.iload 4, 2) := by decide +kernel
theorem d_X11_part_23 : decode J_X11_part.2.1 23 = .ok (.invokevirtual 152, 3) := by decide +kernel
theorem d_X11_part_26 : decode J_X11_part.2.1 26 = .ok (.ireturn, 1) := by decide +kernel
def f_X11_part (N : Nat) (K : oK) (p1 : Int32) (p2 : Int32) (p3 : Int32) (p4 : Int32) (M : oM) : Option (Int32 × oM) :=
  oB2 (f_X11_layingAt N K p1 M) (fun v1 M2 => oCs v1 (some ((-1), M2)) (fun h4 => oB2 (f_X11_addPart N K h4 p2 p3 p4 M2) (fun v5 M6 => some (v5, M6))))
set_option maxRecDepth 20000 in
theorem v_X11_part {X : oX} {N : Nat} {K : oK} {p1 : Int32} {p2 : Int32} {p3 : Int32} {p4 : Int32} {M : oM} {v : Int32} {M' : oM} (hK : oSR K)  (h : f_X11_part N K p1 p2 p3 p4 M = some (v, M')) : oMet X 5 J_X11_part [(.ref 0), (.int p1), (.int p2), (.int p3), (.int p4)] K M (some (.int v)) K M' := by
  unfold f_X11_part at h
  refine oMet_of (L := [some (.ref 0), some (.int p1), some (.int p2), some (.int p3), some (.int p4), none]) jJ_X11_part.1 rfl (Nat.le_of_ble_eq_true rfl) rfl (Nat.le_refl _) (Nat.le_refl _) ?_
  have hd : 5 ≤ 5 := Nat.le_refl _
  refine oe_aload_n (pc := 0) d_X11_part_0 rfl ?_
  refine oe_iload_n (pc := 1) d_X11_part_1 rfl ?_
  obtain ⟨v1, M2, q3, h⟩ := oB2_some h
  cases v1 with
  | none =>
    replace h := oCsN h
    refine oe_callV (pc := 2) (ci := 11) d_X11_part_2 (v_X11_layingAt hK  q3) (by omega) ml_X11_148 jJ_X11_layingAt rfl rfl (oLt hK (a := 0) (Nat.le_of_ble_eq_true rfl)) (oSho hK (a := 0) (Nat.le_of_ble_eq_true rfl) rfl) ock11 rfl (Nat.le_of_ble_eq_true rfl) ⟨Nat.le_refl _, Nat.le_refl _⟩ ⟨Nat.le_refl _, Nat.le_refl _⟩ ?_
    refine oe_astoreN (pc := 5) (L2 := [_, _, _, _, _, _]) d_X11_part_5 rfl (Nat.le_of_ble_eq_true rfl) rfl ?_
    refine oe_aloadN (pc := 7) d_X11_part_7 rfl ?_
    refine oe_ifnonnullN (pc := 9) d_X11_part_9 ?_
    refine oe_iconst (pc := 12) (v := (-1)) d_X11_part_12 rfl ?_
    refine oe_goto (pc := 13) (tgt := 26) d_X11_part_13 (by decide) ?_
    obtain ⟨rfl, rfl⟩ := oRes h
    exact oe_iret (pc := 26) d_X11_part_26 ⟨_, rfl, rfl⟩
  | some h4 =>
    replace h := oCsS h
    have hh_h4 : oLS K h4 := o_X11_layingAt_ok hK q3
    refine oe_callV (pc := 2) (ci := 11) d_X11_part_2 (v_X11_layingAt hK  q3) (by omega) ml_X11_148 jJ_X11_layingAt rfl rfl (oLt hK (a := 0) (Nat.le_of_ble_eq_true rfl)) (oSho hK (a := 0) (Nat.le_of_ble_eq_true rfl) rfl) ock11 rfl (Nat.le_of_ble_eq_true rfl) ⟨Nat.le_refl _, Nat.le_refl _⟩ ⟨Nat.le_refl _, Nat.le_refl _⟩ ?_
    refine oe_astore (pc := 5) (L2 := [_, _, _, _, _, _]) d_X11_part_5 rfl (Nat.le_of_ble_eq_true rfl) rfl ?_
    refine oe_aload (pc := 7) d_X11_part_7 rfl ?_
    refine oe_ifnonnull (pc := 9) (tgt := 16) d_X11_part_9 (by decide) ?_
    refine oe_aload_n (pc := 16) d_X11_part_16 rfl ?_
    refine oe_aload (pc := 17) d_X11_part_17 rfl ?_
    refine oe_iload_n (pc := 19) d_X11_part_19 rfl ?_
    refine oe_iload_n (pc := 20) d_X11_part_20 rfl ?_
    refine oe_iload (pc := 21) d_X11_part_21 rfl ?_
    obtain ⟨v5, M6, q7, h⟩ := oB2_some h
    refine oe_callV (pc := 23) (ci := 11) d_X11_part_23 (v_X11_addPart hK hh_h4 q7) (by omega) ml_X11_152 jJ_X11_addPart rfl rfl (oLt hK (a := 0) (Nat.le_of_ble_eq_true rfl)) (oSho hK (a := 0) (Nat.le_of_ble_eq_true rfl) rfl) ock11 rfl (Nat.le_of_ble_eq_true rfl) ⟨Nat.le_refl _, Nat.le_refl _⟩ ⟨Nat.le_refl _, Nat.le_refl _⟩ ?_
    obtain ⟨rfl, rfl⟩ := oRes h
    exact oe_iret (pc := 26) d_X11_part_26 ⟨_, rfl, rfl⟩
theorem d_X11_shelfAt_0 : decode J_X11_shelfAt.2.1 0 = .ok (.iload_n 1, 1) := by decide +kernel
theorem d_X11_shelfAt_1 : decode J_X11_shelfAt.2.1 1 = .ok (.iconst 0, 1) := by decide +kernel
theorem d_X11_shelfAt_2 : decode J_X11_shelfAt.2.1 2 = .ok (.iconst 5, 1) := by decide +kernel
theorem d_X11_shelfAt_3 : decode J_X11_shelfAt.2.1 3 = .ok (.invokestatic 89, 3) := by decide +kernel
theorem d_X11_shelfAt_6 : decode J_X11_shelfAt.2.1 6 = .ok (.ifCond .eq 12, 3) := by decide +kernel
theorem d_X11_shelfAt_9 : decode J_X11_shelfAt.2.1 9 = .ok (.aload_n 0, 1) := by decide +kernel
theorem d_X11_shelfAt_10 : decode J_X11_shelfAt.2.1 10 = .ok (.getfield 84, 3) := by decide +kernel
theorem d_X11_shelfAt_13 : decode J_X11_shelfAt.2.1 13 = .ok (.iload_n 1, 1) := by decide +kernel
theorem d_X11_shelfAt_14 : decode J_X11_shelfAt.2.1 14 = .ok (.aaload, 1) := by decide +kernel
theorem d_X11_shelfAt_15 : decode J_X11_shelfAt.2.1 15 = .ok (.goto 4, 3) := by decide +kernel
theorem d_X11_shelfAt_18 : decode J_X11_shelfAt.2.1 18 = .ok (.aconst_null, 1) := by decide +kernel
theorem d_X11_shelfAt_19 : decode J_X11_shelfAt.2.1 19 = .ok (.areturn, 1) := by decide +kernel
def f_X11_shelfAt (N : Nat) (K : oK) (p1 : Int32) (M : oM) : Option ((Option Nat) × oM) :=
  oB2 (f_X11_within N K p1 (0 : Int32) (5 : Int32) M) (fun v1 M2 => cond v1 (oIx (p1) 6 (some ((some (47 + 2 * (p1 : Int32).toNatClampNeg)), M2))) (some (none, M2)))
set_option maxRecDepth 20000 in
theorem v_X11_shelfAt {X : oX} {N : Nat} {K : oK} {p1 : Int32} {M : oM} {v : (Option Nat)} {M' : oM} (hK : oSR K)  (h : f_X11_shelfAt N K p1 M = some (v, M')) : oMet X 2 J_X11_shelfAt [(.ref 0), (.int p1)] K M (some (va_rf v)) K M' := by
  unfold f_X11_shelfAt at h
  refine oMet_of (L := [some (.ref 0), some (.int p1)]) jJ_X11_shelfAt.1 rfl (Nat.le_of_ble_eq_true rfl) rfl (Nat.le_refl _) (Nat.le_refl _) ?_
  have hd : 2 ≤ 2 := Nat.le_refl _
  refine oe_iload_n (pc := 0) d_X11_shelfAt_0 rfl ?_
  refine oe_iconst (pc := 1) (v := 0) d_X11_shelfAt_1 rfl ?_
  refine oe_iconst (pc := 2) (v := 5) d_X11_shelfAt_2 rfl ?_
  obtain ⟨v1, M2, q3, h⟩ := oB2_some h
  cases v1 with
  | true =>
    replace h := oCt h
    refine oe_callS (pc := 3) d_X11_shelfAt_3 (v_X11_within hK  q3) (by omega) ml_X11_89 jJ_X11_within rfl rfl (Nat.le_of_ble_eq_true rfl) ⟨Nat.le_refl _, Nat.le_refl _⟩ ⟨Nat.le_refl _, Nat.le_refl _⟩ ?_
    refine oe_if_eq (pc := 6) (tgt := 18) d_X11_shelfAt_6 (by decide) (fun c => absurd c (by decide)) (fun _ => ?_)
    refine oe_aload_n (pc := 9) d_X11_shelfAt_9 rfl ?_
    refine oe_getr (pc := 10) d_X11_shelfAt_10 fl_X11_84 ock11 (k := 10) (b := 46) (Nat.le_of_ble_eq_true rfl) (by decide) (oLt hK (a := 0) (Nat.le_of_ble_eq_true rfl)) (oSho hK (a := 0) (Nat.le_of_ble_eq_true rfl) rfl) (oRfK hK rfl) ?_
    refine oe_iload_n (pc := 13) d_X11_shelfAt_13 rfl ?_
    obtain ⟨i4, h⟩ := oIx_some h
    refine oe_aald5r (pc := 14) (b := (47 + 2 * (p1 : Int32).toNatClampNeg)) d_X11_shelfAt_14 (oLt hK (a := 46) (Nat.le_of_ble_eq_true rfl)) (oSha hK (a := 46) (Nat.le_of_ble_eq_true rfl) rfl) i4 (oShR hK i4).1 ?_
    have hs_i4 := (oShR hK i4).2
    refine oe_goto (pc := 15) (tgt := 19) d_X11_shelfAt_15 (by decide) ?_
    obtain ⟨rfl, rfl⟩ := oRes h
    exact oe_aret (pc := 19) d_X11_shelfAt_19 ⟨_, rfl⟩
  | false =>
    replace h := oCf h
    refine oe_callS (pc := 3) d_X11_shelfAt_3 (v_X11_within hK  q3) (by omega) ml_X11_89 jJ_X11_within rfl rfl (Nat.le_of_ble_eq_true rfl) ⟨Nat.le_refl _, Nat.le_refl _⟩ ⟨Nat.le_refl _, Nat.le_refl _⟩ ?_
    refine oe_if_eq (pc := 6) (tgt := 18) d_X11_shelfAt_6 (by decide) (fun _ => ?_) (fun c => absurd (by decide) c)
    refine oe_null (pc := 18) d_X11_shelfAt_18 ?_
    obtain ⟨rfl, rfl⟩ := oRes h
    exact oe_aretN (pc := 19) d_X11_shelfAt_19 ⟨_, rfl⟩
theorem o_X11_shelfAt_ok {K : oK} {N : Nat} {p1 : Int32} {M M' : oM} {q : Nat} (hK : oSR K) (h : f_X11_shelfAt N K p1 M = some (some q, M')) : oSS K q := by
  unfold f_X11_shelfAt at h
  obtain ⟨v, M1, q1, h⟩ := oB2_some h
  cases v with
  | false => cases h
  | true =>
    obtain ⟨i1, h⟩ := oIx_some h
    cases h
    exact (oShR hK i1).2
theorem d_X11_addParts_0 : decode J_X11_addParts.2.1 0 = .ok (.iconst 0, 1) := by decide +kernel
theorem d_X11_addParts_1 : decode J_X11_addParts.2.1 1 = .ok (.istore 5, 2) := by decide +kernel
theorem d_X11_addParts_3 : decode J_X11_addParts.2.1 3 = .ok (.iload_n 3, 1) := by decide +kernel
theorem d_X11_addParts_4 : decode J_X11_addParts.2.1 4 = .ok (.istore 6, 2) := by decide +kernel
theorem d_X11_addParts_6 : decode J_X11_addParts.2.1 6 = .ok (.iload 5, 2) := by decide +kernel
theorem d_X11_addParts_8 : decode J_X11_addParts.2.1 8 = .ok (.iload 4, 2) := by decide +kernel
theorem d_X11_addParts_10 : decode J_X11_addParts.2.1 10 = .ok (.if_icmp .ge 79, 3) := by decide +kernel
theorem d_X11_addParts_13 : decode J_X11_addParts.2.1 13 = .ok (.iload 6, 2) := by decide +kernel
theorem d_X11_addParts_15 : decode J_X11_addParts.2.1 15 = .ok (.ifCond .lt 74, 3) := by decide +kernel
theorem d_X11_addParts_18 : decode J_X11_addParts.2.1 18 = .ok (.iload 6, 2) := by decide +kernel
theorem d_X11_addParts_20 : decode J_X11_addParts.2.1 20 = .ok (.aload_n 2, 1) := by decide +kernel
theorem d_X11_addParts_21 : decode J_X11_addParts.2.1 21 = .ok (.getfield 368, 3) := by decide +kernel
theorem d_X11_addParts_24 : decode J_X11_addParts.2.1 24 = .ok (.iconst 3, 1) := by decide +kernel
theorem d_X11_addParts_25 : decode J_X11_addParts.2.1 25 = .ok (.isub, 1) := by decide +kernel
theorem d_X11_addParts_26 : decode J_X11_addParts.2.1 26 = .ok (.if_icmp .gt 63, 3) := by decide +kernel
theorem d_X11_addParts_29 : decode J_X11_addParts.2.1 29 = .ok (.aload_n 2, 1) := by decide +kernel
theorem d_X11_addParts_30 : decode J_X11_addParts.2.1 30 = .ok (.getfield 322, 3) := by decide +kernel
theorem d_X11_addParts_33 : decode J_X11_addParts.2.1 33 = .ok (.iload 6, 2) := by decide +kernel
theorem d_X11_addParts_35 : decode J_X11_addParts.2.1 35 = .ok (.laload, 1) := by decide +kernel
theorem d_X11_addParts_36 : decode J_X11_addParts.2.1 36 = .ok (.l2i, 1) := by decide +kernel
theorem d_X11_addParts_37 : decode J_X11_addParts.2.1 37 = .ok (.istore 7, 2) := by decide +kernel
theorem d_X11_addParts_39 : decode J_X11_addParts.2.1 39 = .ok (.aload_n 2, 1) := by decide +kernel
theorem d_X11_addParts_40 : decode J_X11_addParts.2.1 40 = .ok (.getfield 322, 3) := by decide +kernel
theorem d_X11_addParts_43 : decode J_X11_addParts.2.1 43 = .ok (.iload 6, 2) := by decide +kernel
theorem d_X11_addParts_45 : decode J_X11_addParts.2.1 45 = .ok (.iconst 1, 1) := by decide +kernel
theorem d_X11_addParts_46 : decode J_X11_addParts.2.1 46 = .ok (.iadd, 1) := by decide +kernel
theorem d_X11_addParts_47 : decode J_X11_addParts.2.1 47 = .ok (.laload, 1) := by decide +kernel
theorem d_X11_addParts_48 : decode J_X11_addParts.2.1 48 = .ok (.l2i, 1) := by decide +kernel
theorem d_X11_addParts_49 : decode J_X11_addParts.2.1 49 = .ok (.istore 8, 2) := by decide +kernel
theorem d_X11_addParts_51 : decode J_X11_addParts.2.1 51 = .ok (.aload_n 2, 1) := by decide +kernel
theorem d_X11_addParts_52 : decode J_X11_addParts.2.1 52 = .ok (.getfield 322, 3) := by decide +kernel
theorem d_X11_addParts_55 : decode J_X11_addParts.2.1 55 = .ok (.iload 6, 2) := by decide +kernel
theorem d_X11_addParts_57 : decode J_X11_addParts.2.1 57 = .ok (.iconst 2, 1) := by decide +kernel
theorem d_X11_addParts_58 : decode J_X11_addParts.2.1 58 = .ok (.iadd, 1) := by decide +kernel
theorem d_X11_addParts_59 : decode J_X11_addParts.2.1 59 = .ok (.laload, 1) := by decide +kernel
theorem d_X11_addParts_60 : decode J_X11_addParts.2.1 60 = .ok (.l2i, 1) := by decide +kernel
theorem d_X11_addParts_61 : decode J_X11_addParts.2.1 61 = .ok (.istore 9, 2) := by decide +kernel
theorem d_X11_addParts_63 : decode J_X11_addParts.2.1 63 = .ok (.aload_n 0, 1) := by decide +kernel
theorem d_X11_addParts_64 : decode J_X11_addParts.2.1 64 = .ok (.aload_n 1, 1) := by decide +kernel
theorem d_X11_addParts_65 : decode J_X11_addParts.2.1 65 = .ok (.iload 7, 2) := by decide +kernel
theorem d_X11_addParts_67 : decode J_X11_addParts.2.1 67 = .ok (.iload 8, 2) := by decide +kernel
theorem d_X11_addParts_69 : decode J_X11_addParts.2.1 69 = .ok (.iload 9, 2) := by decide +kernel
theorem d_X11_addParts_71 : decode J_X11_addParts.2.1 71 = .ok (.invokevirtual 152, 3) := by decide +kernel
theorem d_X11_addParts_74 : decode J_X11_addParts.2.1 74 = .ok (.ifCond .ge 6, 3) := by decide +kernel
theorem d_X11_addParts_77 : decode J_X11_addParts.2.1 77 = .ok (.iload 5, 2) := by decide +kernel
theorem d_X11_addParts_79 : decode J_X11_addParts.2.1 79 = .ok (.ireturn, 1) := by decide +kernel
theorem d_X11_addParts_80 : decode J_X11_addParts.2.1 80 = .ok (.iinc 5 1, 3) := by decide +kernel
theorem d_X11_addParts_83 : decode J_X11_addParts.2.1 83 = .ok (.iinc 6 3, 3) := by decide +kernel
theorem d_X11_addParts_86 : decode J_X11_addParts.2.1 86 = .ok (.goto (-80), 3) := by decide +kernel
theorem d_X11_addParts_89 : decode J_X11_addParts.2.1 89 = .ok (.iload 5, 2) := by decide +kernel
theorem d_X11_addParts_91 : decode J_X11_addParts.2.1 91 = .ok (.ireturn, 1) := by decide +kernel
def f_X11_addParts_6 (N : Nat) (K : oK)  : Nat → Nat → Nat → Int32 → Int32 → Int32 → oM → Option (Int32 × oM)
  | 0, _, _, _, _, _, _ => none
  | n + 1, p1, p2, p4, p5, p6, M => (fun r6 => (if p4 ≤ p5 then some (p5, M) else (if p6 < 0 then some (p5, M) else (if ((M.1 p2 4) - 3) < p6 then some (p5, M) else oIx (p6) 60 (oIx ((p6 + 1)) 60 (oIx ((p6 + 2)) 60 (oB2 (f_X11_addPart N K p1 (((M.2 (p2 + 1) (p6 : Int32).toNatClampNeg) : Int64).toInt32) (((M.2 (p2 + 1) ((p6 + 1) : Int32).toNatClampNeg) : Int64).toInt32) (((M.2 (p2 + 1) ((p6 + 2) : Int32).toNatClampNeg) : Int64).toInt32) M) (fun v7 M8 => (if 0 ≤ v7 then (r6 p1 p2 p4 (p5 + 1) (p6 + 3) M8) else some (p5, M8)))))))))) (f_X11_addParts_6 N K  n)
set_option maxRecDepth 20000 in
theorem v_X11_addParts_6_L {X : oX} {d N : Nat} {K : oK}  (hd : 5 ≤ d) (hK : oSR K)  : ∀ (n : Nat) (p1 : Nat) (p2 : Nat) (p4 : Int32) (p5 : Int32) (p6 : Int32) (M : oM) (v : Int32) (M' : oM)  (hh_p1 : oLS K p1) (hh_p2 : oSS K p2), f_X11_addParts_6 N K  n p1 p2 p4 p5 p6 M = some (v, M') → oEv X d J_X11_addParts 6 [some (.ref 0), some (.ref p1), some (.ref p2), none, some (.int p4), some (.int p5), some (.int p6), none, none, none] [] K M (some (.int v)) K M' := by
  intro n
  induction n with
  | zero =>
    intro p1 p2 p4 p5 p6 M v M'  hh_p1 hh_p2 h
    cases h
  | succ n hr6 =>
    intro p1 p2 p4 p5 p6 M v M'  hh_p1 hh_p2 h
    refine oe_iload (pc := 6) d_X11_addParts_6 rfl ?_
    refine oe_iload (pc := 8) d_X11_addParts_8 rfl ?_
    refine oe_icmp_ge (pc := 10) (tgt := 89) d_X11_addParts_10 (by decide) (fun c1 => ?_) (fun c1 => ?_)
    · replace h := (if_pos c1).symm.trans h
      refine oe_iload (pc := 89) d_X11_addParts_89 rfl ?_
      obtain ⟨rfl, rfl⟩ := oRes h
      exact oe_iret (pc := 91) d_X11_addParts_91 ⟨_, rfl, rfl⟩
    · replace h := (if_neg c1).symm.trans h
      refine oe_iload (pc := 13) d_X11_addParts_13 rfl ?_
      refine oe_if_lt (pc := 15) (tgt := 89) d_X11_addParts_15 (by decide) (fun c2 => ?_) (fun c2 => ?_)
      · replace h := (if_pos c2).symm.trans h
        refine oe_iload (pc := 89) d_X11_addParts_89 rfl ?_
        obtain ⟨rfl, rfl⟩ := oRes h
        exact oe_iret (pc := 91) d_X11_addParts_91 ⟨_, rfl, rfl⟩
      · replace h := (if_neg c2).symm.trans h
        refine oe_iload (pc := 18) d_X11_addParts_18 rfl ?_
        refine oe_aload_n (pc := 20) d_X11_addParts_20 rfl ?_
        refine oe_getf (pc := 21) d_X11_addParts_21 fl_X11_368 ock9 (k := 4) (Nat.le_of_ble_eq_true rfl) rfl (oSSa hh_p2 (j := 0) (Nat.le_of_ble_eq_true rfl)) (oSSo hh_p2) ?_
        refine oe_iconst (pc := 24) (v := 3) d_X11_addParts_24 rfl ?_
        refine oe_isub (pc := 25) d_X11_addParts_25 ?_
        refine oe_icmp_gt (pc := 26) (tgt := 89) d_X11_addParts_26 (by decide) (fun c3 => ?_) (fun c3 => ?_)
        · replace h := (if_pos c3).symm.trans h
          refine oe_iload (pc := 89) d_X11_addParts_89 rfl ?_
          obtain ⟨rfl, rfl⟩ := oRes h
          exact oe_iret (pc := 91) d_X11_addParts_91 ⟨_, rfl, rfl⟩
        · replace h := (if_neg c3).symm.trans h
          refine oe_aload_n (pc := 29) d_X11_addParts_29 rfl ?_
          refine oe_getr (pc := 30) d_X11_addParts_30 fl_X11_322 ock9 (k := 0) (b := p2 + 1) (Nat.le_of_ble_eq_true rfl) (by decide) (oSSa hh_p2 (j := 0) (Nat.le_of_ble_eq_true rfl)) (oSSo hh_p2) (oSSf hh_p2) ?_
          refine oe_iload (pc := 33) d_X11_addParts_33 rfl ?_
          obtain ⟨i4, h⟩ := oIx_some h
          refine oe_lald (pc := 35) d_X11_addParts_35 (oSSa hh_p2 (j := 1) (Nat.le_of_ble_eq_true rfl)) (oSSr hh_p2) i4 ?_
          refine oe_l2i (pc := 36) d_X11_addParts_36 ?_
          refine oe_istore (pc := 37) (L2 := [_, _, _, _, _, _, _, _, _, _]) d_X11_addParts_37 rfl (Nat.le_of_ble_eq_true rfl) rfl ?_
          refine oe_aload_n (pc := 39) d_X11_addParts_39 rfl ?_
          refine oe_getr (pc := 40) d_X11_addParts_40 fl_X11_322 ock9 (k := 0) (b := p2 + 1) (Nat.le_of_ble_eq_true rfl) (by decide) (oSSa hh_p2 (j := 0) (Nat.le_of_ble_eq_true rfl)) (oSSo hh_p2) (oSSf hh_p2) ?_
          refine oe_iload (pc := 43) d_X11_addParts_43 rfl ?_
          refine oe_iconst (pc := 45) (v := 1) d_X11_addParts_45 rfl ?_
          refine oe_iadd (pc := 46) d_X11_addParts_46 ?_
          obtain ⟨i5, h⟩ := oIx_some h
          refine oe_lald (pc := 47) d_X11_addParts_47 (oSSa hh_p2 (j := 1) (Nat.le_of_ble_eq_true rfl)) (oSSr hh_p2) i5 ?_
          refine oe_l2i (pc := 48) d_X11_addParts_48 ?_
          refine oe_istore (pc := 49) (L2 := [_, _, _, _, _, _, _, _, _, _]) d_X11_addParts_49 rfl (Nat.le_of_ble_eq_true rfl) rfl ?_
          refine oe_aload_n (pc := 51) d_X11_addParts_51 rfl ?_
          refine oe_getr (pc := 52) d_X11_addParts_52 fl_X11_322 ock9 (k := 0) (b := p2 + 1) (Nat.le_of_ble_eq_true rfl) (by decide) (oSSa hh_p2 (j := 0) (Nat.le_of_ble_eq_true rfl)) (oSSo hh_p2) (oSSf hh_p2) ?_
          refine oe_iload (pc := 55) d_X11_addParts_55 rfl ?_
          refine oe_iconst (pc := 57) (v := 2) d_X11_addParts_57 rfl ?_
          refine oe_iadd (pc := 58) d_X11_addParts_58 ?_
          obtain ⟨i6, h⟩ := oIx_some h
          refine oe_lald (pc := 59) d_X11_addParts_59 (oSSa hh_p2 (j := 1) (Nat.le_of_ble_eq_true rfl)) (oSSr hh_p2) i6 ?_
          refine oe_l2i (pc := 60) d_X11_addParts_60 ?_
          refine oe_istore (pc := 61) (L2 := [_, _, _, _, _, _, _, _, _, _]) d_X11_addParts_61 rfl (Nat.le_of_ble_eq_true rfl) rfl ?_
          refine oe_aload_n (pc := 63) d_X11_addParts_63 rfl ?_
          refine oe_aload_n (pc := 64) d_X11_addParts_64 rfl ?_
          refine oe_iload (pc := 65) d_X11_addParts_65 rfl ?_
          refine oe_iload (pc := 67) d_X11_addParts_67 rfl ?_
          refine oe_iload (pc := 69) d_X11_addParts_69 rfl ?_
          obtain ⟨v7, M8, q9, h⟩ := oB2_some h
          refine oe_callV (pc := 71) (ci := 11) d_X11_addParts_71 (v_X11_addPart hK hh_p1 q9) (by omega) ml_X11_152 jJ_X11_addPart rfl rfl (oLt hK (a := 0) (Nat.le_of_ble_eq_true rfl)) (oSho hK (a := 0) (Nat.le_of_ble_eq_true rfl) rfl) ock11 rfl (Nat.le_of_ble_eq_true rfl) ⟨Nat.le_refl _, Nat.le_refl _⟩ ⟨Nat.le_refl _, Nat.le_refl _⟩ ?_
          refine oe_if_ge (pc := 74) (tgt := 80) d_X11_addParts_74 (by decide) (fun c10 => ?_) (fun c10 => ?_)
          · replace h := (if_pos c10).symm.trans h
            refine oe_iinc (pc := 80) (v := (p5 + 1)) (L2 := [_, _, _, _, _, _, _, _, _, _]) d_X11_addParts_80 rfl rfl rfl (Nat.le_of_ble_eq_true rfl) rfl ?_
            refine oe_iinc (pc := 83) (v := (p6 + 3)) (L2 := [_, _, _, _, _, _, _, _, _, _]) d_X11_addParts_83 rfl rfl rfl (Nat.le_of_ble_eq_true rfl) rfl ?_
            refine oe_goto (pc := 86) (tgt := 6) d_X11_addParts_86 (by decide) ?_
            refine oEv.fg [true, true, true, false, true, true, true, false, false, false] ?_
            exact hr6 _ _ _ _ _ _ _ _ hh_p1 hh_p2 h
          · replace h := (if_neg c10).symm.trans h
            refine oe_iload (pc := 77) d_X11_addParts_77 rfl ?_
            obtain ⟨rfl, rfl⟩ := oRes h
            exact oe_iret (pc := 79) d_X11_addParts_79 ⟨_, rfl, rfl⟩
theorem v_X11_addParts_6 {X : oX} {d N : Nat} {K : oK}  {p1 : Nat} {p2 : Nat} {p4 : Int32} {p5 : Int32} {p6 : Int32} {M : oM} {v : Int32} {M' : oM}  (hd : 5 ≤ d) (hK : oSR K) (hh_p1 : oLS K p1) (hh_p2 : oSS K p2)  (h : f_X11_addParts_6 N K  N p1 p2 p4 p5 p6 M = some (v, M')) : oEv X d J_X11_addParts 6 [some (.ref 0), some (.ref p1), some (.ref p2), none, some (.int p4), some (.int p5), some (.int p6), none, none, none] [] K M (some (.int v)) K M' := v_X11_addParts_6_L hd hK  N p1 p2 p4 p5 p6 M v M'  hh_p1 hh_p2 h
def f_X11_addParts (N : Nat) (K : oK) (p1 : Nat) (p2 : Nat) (p3 : Int32) (p4 : Int32) (M : oM) : Option (Int32 × oM) :=
  (f_X11_addParts_6 N K  N p1 p2 p4 0 p3 M)
set_option maxRecDepth 20000 in
theorem v_X11_addParts {X : oX} {N : Nat} {K : oK} {p1 : Nat} {p2 : Nat} {p3 : Int32} {p4 : Int32} {M : oM} {v : Int32} {M' : oM} (hK : oSR K) (hh_p1 : oLS K p1) (hh_p2 : oSS K p2) (h : f_X11_addParts N K p1 p2 p3 p4 M = some (v, M')) : oMet X 5 J_X11_addParts [(.ref 0), (.ref p1), (.ref p2), (.int p3), (.int p4)] K M (some (.int v)) K M' := by
  unfold f_X11_addParts at h
  refine oMet_of (L := [some (.ref 0), some (.ref p1), some (.ref p2), some (.int p3), some (.int p4), none, none, none, none, none]) jJ_X11_addParts.1 rfl (Nat.le_of_ble_eq_true rfl) rfl (Nat.le_refl _) (Nat.le_refl _) ?_
  have hd : 5 ≤ 5 := Nat.le_refl _
  refine oe_iconst (pc := 0) (v := 0) d_X11_addParts_0 rfl ?_
  refine oe_istore (pc := 1) (L2 := [_, _, _, _, _, _, _, _, _, _]) d_X11_addParts_1 rfl (Nat.le_of_ble_eq_true rfl) rfl ?_
  refine oe_iload_n (pc := 3) d_X11_addParts_3 rfl ?_
  refine oe_istore (pc := 4) (L2 := [_, _, _, _, _, _, _, _, _, _]) d_X11_addParts_4 rfl (Nat.le_of_ble_eq_true rfl) rfl ?_
  refine oEv.fg [true, true, true, false, true, true, true, false, false, false] ?_
  exact v_X11_addParts_6 hd hK hh_p1 hh_p2  h
