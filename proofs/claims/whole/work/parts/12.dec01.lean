/-! walked by program: X6_lines, X4_isWay, X4_lengthsOf, X6_isPart, X6_pointAhead, X8_at, X4_feet, X2_addStep, X2_lay, X3_between, X3_lifted, X3_lost, X2_behind -/
theorem d_X6_lines_0 : decode J_X6_lines.2.1 0 = .ok (.aload_n 0, 1) := by decide +kernel
theorem d_X6_lines_1 : decode J_X6_lines.2.1 1 = .ok (.getfield 28, 3) := by decide +kernel
theorem d_X6_lines_4 : decode J_X6_lines.2.1 4 = .ok (.iconst 2, 1) := by decide +kernel
theorem d_X6_lines_5 : decode J_X6_lines.2.1 5 = .ok (.if_icmp .ne 5, 3) := by decide +kernel
theorem d_X6_lines_8 : decode J_X6_lines.2.1 8 = .ok (.iconst 2, 1) := by decide +kernel
theorem d_X6_lines_9 : decode J_X6_lines.2.1 9 = .ok (.ireturn, 1) := by decide +kernel
theorem d_X6_lines_10 : decode J_X6_lines.2.1 10 = .ok (.aload_n 0, 1) := by decide +kernel
theorem d_X6_lines_11 : decode J_X6_lines.2.1 11 = .ok (.getfield 28, 3) := by decide +kernel
theorem d_X6_lines_14 : decode J_X6_lines.2.1 14 = .ok (.iconst 4, 1) := by decide +kernel
theorem d_X6_lines_15 : decode J_X6_lines.2.1 15 = .ok (.if_icmp .ne 16, 3) := by decide +kernel
theorem d_X6_lines_18 : decode J_X6_lines.2.1 18 = .ok (.iload_n 1, 1) := by decide +kernel
theorem d_X6_lines_19 : decode J_X6_lines.2.1 19 = .ok (.aload_n 0, 1) := by decide +kernel
theorem d_X6_lines_20 : decode J_X6_lines.2.1 20 = .ok (.iload_n 2, 1) := by decide +kernel
theorem d_X6_lines_21 : decode J_X6_lines.2.1 21 = .ok (.invokevirtual 45, 3) := by decide +kernel
theorem d_X6_lines_24 : decode J_X6_lines.2.1 24 = .ok (.if_icmp .le 7, 3) := by decide +kernel
theorem d_X6_lines_27 : decode J_X6_lines.2.1 27 = .ok (.iconst 2, 1) := by decide +kernel
theorem d_X6_lines_28 : decode J_X6_lines.2.1 28 = .ok (.goto 4, 3) := by decide +kernel
theorem d_X6_lines_31 : decode J_X6_lines.2.1 31 = .ok (.iconst 1, 1) := by decide +kernel
theorem d_X6_lines_32 : decode J_X6_lines.2.1 32 = .ok (.ireturn, 1) := by decide +kernel
def f_X6_lines (N : Nat) (K : oK) (p0 : Nat) (p1 : Int32) (p2 : Int32) (M : oM) : Option (Int32 × oM) :=
  (if (M.1 p0 1) = 2 then some (2, M) else (if (M.1 p0 1) = 4 then oB2 (f_X6_lastEngine N K p0 p2 M) (fun v3 M4 => (if p1 ≤ v3 then some (1, M4) else some (2, M4))) else some (1, M)))
set_option maxRecDepth 20000 in
theorem v_X6_lines {X : oX} {N : Nat} {K : oK} {p0 : Nat} {p1 : Int32} {p2 : Int32} {M : oM} {v : Int32} {M' : oM} (hK : oSR K) (hh_p0 : oLS K p0) (h : f_X6_lines N K p0 p1 p2 M = some (v, M')) : oMet X 2 J_X6_lines [(.ref p0), (.int p1), (.int p2)] K M (some (.int v)) K M' := by
  unfold f_X6_lines at h
  refine oMet_of (L := [some (.ref p0), some (.int p1), some (.int p2)]) jJ_X6_lines.1 rfl (Nat.le_of_ble_eq_true rfl) rfl (Nat.le_refl _) (Nat.le_refl _) ?_
  have hd : 2 ≤ 2 := Nat.le_refl _
  refine oe_aload_n (pc := 0) d_X6_lines_0 rfl ?_
  refine oe_getf (pc := 1) d_X6_lines_1 fl_X6_28 ock6 (k := 1) (Nat.le_of_ble_eq_true rfl) rfl (oLSa hh_p0 (j := 0) (Nat.le_of_ble_eq_true rfl)) (oLSo hh_p0) ?_
  refine oe_iconst (pc := 4) (v := 2) d_X6_lines_4 rfl ?_
  refine oe_icmp_ne (pc := 5) (tgt := 10) d_X6_lines_5 (by decide) (fun c1 => ?_) (fun c1 => ?_)
  · replace h := (if_neg c1).symm.trans h
    refine oe_aload_n (pc := 10) d_X6_lines_10 rfl ?_
    refine oe_getf (pc := 11) d_X6_lines_11 fl_X6_28 ock6 (k := 1) (Nat.le_of_ble_eq_true rfl) rfl (oLSa hh_p0 (j := 0) (Nat.le_of_ble_eq_true rfl)) (oLSo hh_p0) ?_
    refine oe_iconst (pc := 14) (v := 4) d_X6_lines_14 rfl ?_
    refine oe_icmp_ne (pc := 15) (tgt := 31) d_X6_lines_15 (by decide) (fun c2 => ?_) (fun c2 => ?_)
    · replace h := (if_neg c2).symm.trans h
      refine oe_iconst (pc := 31) (v := 1) d_X6_lines_31 rfl ?_
      obtain ⟨rfl, rfl⟩ := oRes h
      exact oe_iret (pc := 32) d_X6_lines_32 ⟨_, rfl, rfl⟩
    · replace h := (if_pos c2).symm.trans h
      refine oe_iload_n (pc := 18) d_X6_lines_18 rfl ?_
      refine oe_aload_n (pc := 19) d_X6_lines_19 rfl ?_
      refine oe_iload_n (pc := 20) d_X6_lines_20 rfl ?_
      obtain ⟨v3, M4, q5, h⟩ := oB2_some h
      refine oe_callV (pc := 21) (ci := 6) d_X6_lines_21 (v_X6_lastEngine hK hh_p0 q5) (by omega) ml_X6_45 jJ_X6_lastEngine rfl rfl (oLSa hh_p0 (j := 0) (Nat.le_of_ble_eq_true rfl)) (oLSo hh_p0) ock6 rfl (Nat.le_of_ble_eq_true rfl) ⟨Nat.le_refl _, Nat.le_refl _⟩ ⟨Nat.le_refl _, Nat.le_refl _⟩ ?_
      refine oe_icmp_le (pc := 24) (tgt := 31) d_X6_lines_24 (by decide) (fun c6 => ?_) (fun c6 => ?_)
      · replace h := (if_pos c6).symm.trans h
        refine oe_iconst (pc := 31) (v := 1) d_X6_lines_31 rfl ?_
        obtain ⟨rfl, rfl⟩ := oRes h
        exact oe_iret (pc := 32) d_X6_lines_32 ⟨_, rfl, rfl⟩
      · replace h := (if_neg c6).symm.trans h
        refine oe_iconst (pc := 27) (v := 2) d_X6_lines_27 rfl ?_
        refine oe_goto (pc := 28) (tgt := 32) d_X6_lines_28 (by decide) ?_
        obtain ⟨rfl, rfl⟩ := oRes h
        exact oe_iret (pc := 32) d_X6_lines_32 ⟨_, rfl, rfl⟩
  · replace h := (if_pos c1).symm.trans h
    refine oe_iconst (pc := 8) (v := 2) d_X6_lines_8 rfl ?_
    obtain ⟨rfl, rfl⟩ := oRes h
    exact oe_iret (pc := 9) d_X6_lines_9 ⟨_, rfl, rfl⟩
theorem d_X4_isWay_0 : decode J_X4_isWay.2.1 0 = .ok (.iload_n 1, 1) := by decide +kernel
theorem d_X4_isWay_1 : decode J_X4_isWay.2.1 1 = .ok (.ifCond .lt 15, 3) := by decide +kernel
theorem d_X4_isWay_4 : decode J_X4_isWay.2.1 4 = .ok (.iload_n 1, 1) := by decide +kernel
theorem d_X4_isWay_5 : decode J_X4_isWay.2.1 5 = .ok (.aload_n 0, 1) := by decide +kernel
theorem d_X4_isWay_6 : decode J_X4_isWay.2.1 6 = .ok (.getfield 32, 3) := by decide +kernel
theorem d_X4_isWay_9 : decode J_X4_isWay.2.1 9 = .ok (.if_icmp .ge 7, 3) := by decide +kernel
theorem d_X4_isWay_12 : decode J_X4_isWay.2.1 12 = .ok (.iconst 1, 1) := by decide +kernel
theorem d_X4_isWay_13 : decode J_X4_isWay.2.1 13 = .ok (.goto 4, 3) := by decide +kernel
theorem d_X4_isWay_16 : decode J_X4_isWay.2.1 16 = .ok (.iconst 0, 1) := by decide +kernel
theorem d_X4_isWay_17 : decode J_X4_isWay.2.1 17 = .ok (.ireturn, 1) := by decide +kernel
def f_X4_isWay (N : Nat) (K : oK) (p1 : Int32) (M : oM) : Option (Bool × oM) :=
  (if p1 < 0 then some (false, M) else (if (M.1 6 6) ≤ p1 then some (false, M) else some (true, M)))
set_option maxRecDepth 20000 in
theorem v_X4_isWay {X : oX} {N : Nat} {K : oK} {p1 : Int32} {M : oM} {v : Bool} {M' : oM} (hK : oSR K)  (h : f_X4_isWay N K p1 M = some (v, M')) : oMet X 1 J_X4_isWay [(.ref 6), (.int p1)] K M (some (.int (oBi v))) K M' := by
  unfold f_X4_isWay at h
  refine oMet_of (L := [some (.ref 6), some (.int p1)]) jJ_X4_isWay.1 rfl (Nat.le_of_ble_eq_true rfl) rfl (Nat.le_refl _) (Nat.le_refl _) ?_
  have hd : 1 ≤ 1 := Nat.le_refl _
  refine oe_iload_n (pc := 0) d_X4_isWay_0 rfl ?_
  refine oe_if_lt (pc := 1) (tgt := 16) d_X4_isWay_1 (by decide) (fun c1 => ?_) (fun c1 => ?_)
  · replace h := (if_pos c1).symm.trans h
    refine oe_iconst (pc := 16) (v := 0) d_X4_isWay_16 rfl ?_
    obtain ⟨rfl, rfl⟩ := oRes h
    exact oe_iret (pc := 17) d_X4_isWay_17 ⟨_, rfl, rfl⟩
  · replace h := (if_neg c1).symm.trans h
    refine oe_iload_n (pc := 4) d_X4_isWay_4 rfl ?_
    refine oe_aload_n (pc := 5) d_X4_isWay_5 rfl ?_
    refine oe_getf (pc := 6) d_X4_isWay_6 fl_X4_32 ock4 (k := 6) (Nat.le_of_ble_eq_true rfl) rfl (oLt hK (a := 6) (Nat.le_of_ble_eq_true rfl)) (oSho hK (a := 6) (Nat.le_of_ble_eq_true rfl) rfl) ?_
    refine oe_icmp_ge (pc := 9) (tgt := 16) d_X4_isWay_9 (by decide) (fun c2 => ?_) (fun c2 => ?_)
    · replace h := (if_pos c2).symm.trans h
      refine oe_iconst (pc := 16) (v := 0) d_X4_isWay_16 rfl ?_
      obtain ⟨rfl, rfl⟩ := oRes h
      exact oe_iret (pc := 17) d_X4_isWay_17 ⟨_, rfl, rfl⟩
    · replace h := (if_neg c2).symm.trans h
      refine oe_iconst (pc := 12) (v := 1) d_X4_isWay_12 rfl ?_
      refine oe_goto (pc := 13) (tgt := 17) d_X4_isWay_13 (by decide) ?_
      obtain ⟨rfl, rfl⟩ := oRes h
      exact oe_iret (pc := 17) d_X4_isWay_17 ⟨_, rfl, rfl⟩
theorem d_X4_lengthsOf_0 : decode J_X4_lengthsOf.2.1 0 = .ok (.aload_n 0, 1) := by decide +kernel
theorem d_X4_lengthsOf_1 : decode J_X4_lengthsOf.2.1 1 = .ok (.iload_n 1, 1) := by decide +kernel
theorem d_X4_lengthsOf_2 : decode J_X4_lengthsOf.2.1 2 = .ok (.invokevirtual 41, 3) := by decide +kernel
theorem d_X4_lengthsOf_5 : decode J_X4_lengthsOf.2.1 5 = .ok (.ifCond .eq 12, 3) := by decide +kernel
theorem d_X4_lengthsOf_8 : decode J_X4_lengthsOf.2.1 8 = .ok (.aload_n 0, 1) := by decide +kernel
theorem d_X4_lengthsOf_9 : decode J_X4_lengthsOf.2.1 9 = .ok (.getfield 18, 3) := by decide +kernel
theorem d_X4_lengthsOf_12 : decode J_X4_lengthsOf.2.1 12 = .ok (.iload_n 1, 1) := by decide +kernel
theorem d_X4_lengthsOf_13 : decode J_X4_lengthsOf.2.1 13 = .ok (.iaload, 1) := by decide +kernel
theorem d_X4_lengthsOf_14 : decode J_X4_lengthsOf.2.1 14 = .ok (.goto 4, 3) := by decide +kernel
theorem d_X4_lengthsOf_17 : decode J_X4_lengthsOf.2.1 17 = .ok (.iconst 0, 1) := by decide +kernel
theorem d_X4_lengthsOf_18 : decode J_X4_lengthsOf.2.1 18 = .ok (.ireturn, 1) := by decide +kernel
def f_X4_lengthsOf (N : Nat) (K : oK) (p1 : Int32) (M : oM) : Option (Int32 × oM) :=
  oB2 (f_X4_isWay N K p1 M) (fun v1 M2 => cond v1 (oIx (p1) 20 (some ((M2.1 9 (p1 : Int32).toNatClampNeg), M2))) (some (0, M2)))
set_option maxRecDepth 20000 in
theorem v_X4_lengthsOf {X : oX} {N : Nat} {K : oK} {p1 : Int32} {M : oM} {v : Int32} {M' : oM} (hK : oSR K)  (h : f_X4_lengthsOf N K p1 M = some (v, M')) : oMet X 2 J_X4_lengthsOf [(.ref 6), (.int p1)] K M (some (.int v)) K M' := by
  unfold f_X4_lengthsOf at h
  refine oMet_of (L := [some (.ref 6), some (.int p1)]) jJ_X4_lengthsOf.1 rfl (Nat.le_of_ble_eq_true rfl) rfl (Nat.le_refl _) (Nat.le_refl _) ?_
  have hd : 2 ≤ 2 := Nat.le_refl _
  refine oe_aload_n (pc := 0) d_X4_lengthsOf_0 rfl ?_
  refine oe_iload_n (pc := 1) d_X4_lengthsOf_1 rfl ?_
  obtain ⟨v1, M2, q3, h⟩ := oB2_some h
  cases v1 with
  | true =>
    replace h := oCt h
    refine oe_callV (pc := 2) (ci := 4) d_X4_lengthsOf_2 (v_X4_isWay hK  q3) (by omega) ml_X4_41 jJ_X4_isWay rfl rfl (oLt hK (a := 6) (Nat.le_of_ble_eq_true rfl)) (oSho hK (a := 6) (Nat.le_of_ble_eq_true rfl) rfl) ock4 rfl (Nat.le_of_ble_eq_true rfl) ⟨Nat.le_refl _, Nat.le_refl _⟩ ⟨Nat.le_refl _, Nat.le_refl _⟩ ?_
    refine oe_if_eq (pc := 5) (tgt := 17) d_X4_lengthsOf_5 (by decide) (fun c => absurd c (by decide)) (fun _ => ?_)
    refine oe_aload_n (pc := 8) d_X4_lengthsOf_8 rfl ?_
    refine oe_getr (pc := 9) d_X4_lengthsOf_9 fl_X4_18 ock4 (k := 3) (b := 9) (Nat.le_of_ble_eq_true rfl) (by decide) (oLt hK (a := 6) (Nat.le_of_ble_eq_true rfl)) (oSho hK (a := 6) (Nat.le_of_ble_eq_true rfl) rfl) (oRfK hK rfl) ?_
    refine oe_iload_n (pc := 12) d_X4_lengthsOf_12 rfl ?_
    obtain ⟨i4, h⟩ := oIx_some h
    refine oe_iald (pc := 13) d_X4_lengthsOf_13 (oLt hK (a := 9) (Nat.le_of_ble_eq_true rfl)) (oSha hK (a := 9) (Nat.le_of_ble_eq_true rfl) rfl) i4 ?_
    refine oe_goto (pc := 14) (tgt := 18) d_X4_lengthsOf_14 (by decide) ?_
    obtain ⟨rfl, rfl⟩ := oRes h
    exact oe_iret (pc := 18) d_X4_lengthsOf_18 ⟨_, rfl, rfl⟩
  | false =>
    replace h := oCf h
    refine oe_callV (pc := 2) (ci := 4) d_X4_lengthsOf_2 (v_X4_isWay hK  q3) (by omega) ml_X4_41 jJ_X4_isWay rfl rfl (oLt hK (a := 6) (Nat.le_of_ble_eq_true rfl)) (oSho hK (a := 6) (Nat.le_of_ble_eq_true rfl) rfl) ock4 rfl (Nat.le_of_ble_eq_true rfl) ⟨Nat.le_refl _, Nat.le_refl _⟩ ⟨Nat.le_refl _, Nat.le_refl _⟩ ?_
    refine oe_if_eq (pc := 5) (tgt := 17) d_X4_lengthsOf_5 (by decide) (fun _ => ?_) (fun c => absurd (by decide) c)
    refine oe_iconst (pc := 17) (v := 0) d_X4_lengthsOf_17 rfl ?_
    obtain ⟨rfl, rfl⟩ := oRes h
    exact oe_iret (pc := 18) d_X4_lengthsOf_18 ⟨_, rfl, rfl⟩
theorem d_X6_isPart_0 : decode J_X6_isPart.2.1 0 = .ok (.iload_n 1, 1) := by decide +kernel
theorem d_X6_isPart_1 : decode J_X6_isPart.2.1 1 = .ok (.ifCond .lt 15, 3) := by decide +kernel
theorem d_X6_isPart_4 : decode J_X6_isPart.2.1 4 = .ok (.iload_n 1, 1) := by decide +kernel
theorem d_X6_isPart_5 : decode J_X6_isPart.2.1 5 = .ok (.aload_n 0, 1) := by decide +kernel
theorem d_X6_isPart_6 : decode J_X6_isPart.2.1 6 = .ok (.getfield 34, 3) := by decide +kernel
theorem d_X6_isPart_9 : decode J_X6_isPart.2.1 9 = .ok (.if_icmp .ge 7, 3) := by decide +kernel
theorem d_X6_isPart_12 : decode J_X6_isPart.2.1 12 = .ok (.iconst 1, 1) := by decide +kernel
theorem d_X6_isPart_13 : decode J_X6_isPart.2.1 13 = .ok (.goto 4, 3) := by decide +kernel
theorem d_X6_isPart_16 : decode J_X6_isPart.2.1 16 = .ok (.iconst 0, 1) := by decide +kernel
theorem d_X6_isPart_17 : decode J_X6_isPart.2.1 17 = .ok (.ireturn, 1) := by decide +kernel
def f_X6_isPart (N : Nat) (K : oK) (p0 : Nat) (p1 : Int32) (M : oM) : Option (Bool × oM) :=
  (if p1 < 0 then some (false, M) else (if (M.1 p0 7) ≤ p1 then some (false, M) else some (true, M)))
set_option maxRecDepth 20000 in
theorem v_X6_isPart {X : oX} {N : Nat} {K : oK} {p0 : Nat} {p1 : Int32} {M : oM} {v : Bool} {M' : oM} (hK : oSR K) (hh_p0 : oLS K p0) (h : f_X6_isPart N K p0 p1 M = some (v, M')) : oMet X 1 J_X6_isPart [(.ref p0), (.int p1)] K M (some (.int (oBi v))) K M' := by
  unfold f_X6_isPart at h
  refine oMet_of (L := [some (.ref p0), some (.int p1)]) jJ_X6_isPart.1 rfl (Nat.le_of_ble_eq_true rfl) rfl (Nat.le_refl _) (Nat.le_refl _) ?_
  have hd : 1 ≤ 1 := Nat.le_refl _
  refine oe_iload_n (pc := 0) d_X6_isPart_0 rfl ?_
  refine oe_if_lt (pc := 1) (tgt := 16) d_X6_isPart_1 (by decide) (fun c1 => ?_) (fun c1 => ?_)
  · replace h := (if_pos c1).symm.trans h
    refine oe_iconst (pc := 16) (v := 0) d_X6_isPart_16 rfl ?_
    obtain ⟨rfl, rfl⟩ := oRes h
    exact oe_iret (pc := 17) d_X6_isPart_17 ⟨_, rfl, rfl⟩
  · replace h := (if_neg c1).symm.trans h
    refine oe_iload_n (pc := 4) d_X6_isPart_4 rfl ?_
    refine oe_aload_n (pc := 5) d_X6_isPart_5 rfl ?_
    refine oe_getf (pc := 6) d_X6_isPart_6 fl_X6_34 ock6 (k := 7) (Nat.le_of_ble_eq_true rfl) rfl (oLSa hh_p0 (j := 0) (Nat.le_of_ble_eq_true rfl)) (oLSo hh_p0) ?_
    refine oe_icmp_ge (pc := 9) (tgt := 16) d_X6_isPart_9 (by decide) (fun c2 => ?_) (fun c2 => ?_)
    · replace h := (if_pos c2).symm.trans h
      refine oe_iconst (pc := 16) (v := 0) d_X6_isPart_16 rfl ?_
      obtain ⟨rfl, rfl⟩ := oRes h
      exact oe_iret (pc := 17) d_X6_isPart_17 ⟨_, rfl, rfl⟩
    · replace h := (if_neg c2).symm.trans h
      refine oe_iconst (pc := 12) (v := 1) d_X6_isPart_12 rfl ?_
      refine oe_goto (pc := 13) (tgt := 17) d_X6_isPart_13 (by decide) ?_
      obtain ⟨rfl, rfl⟩ := oRes h
      exact oe_iret (pc := 17) d_X6_isPart_17 ⟨_, rfl, rfl⟩
theorem d_X6_pointAhead_0 : decode J_X6_pointAhead.2.1 0 = .ok (.aload_n 0, 1) := by decide +kernel
theorem d_X6_pointAhead_1 : decode J_X6_pointAhead.2.1 1 = .ok (.iload_n 1, 1) := by decide +kernel
theorem d_X6_pointAhead_2 : decode J_X6_pointAhead.2.1 2 = .ok (.iconst 1, 1) := by decide +kernel
theorem d_X6_pointAhead_3 : decode J_X6_pointAhead.2.1 3 = .ok (.isub, 1) := by decide +kernel
theorem d_X6_pointAhead_4 : decode J_X6_pointAhead.2.1 4 = .ok (.invokevirtual 37, 3) := by decide +kernel
theorem d_X6_pointAhead_7 : decode J_X6_pointAhead.2.1 7 = .ok (.ifCond .eq 14, 3) := by decide +kernel
theorem d_X6_pointAhead_10 : decode J_X6_pointAhead.2.1 10 = .ok (.aload_n 0, 1) := by decide +kernel
theorem d_X6_pointAhead_11 : decode J_X6_pointAhead.2.1 11 = .ok (.getfield 21, 3) := by decide +kernel
theorem d_X6_pointAhead_14 : decode J_X6_pointAhead.2.1 14 = .ok (.iload_n 1, 1) := by decide +kernel
theorem d_X6_pointAhead_15 : decode J_X6_pointAhead.2.1 15 = .ok (.iconst 1, 1) := by decide +kernel
theorem d_X6_pointAhead_16 : decode J_X6_pointAhead.2.1 16 = .ok (.isub, 1) := by decide +kernel
theorem d_X6_pointAhead_17 : decode J_X6_pointAhead.2.1 17 = .ok (.iaload, 1) := by decide +kernel
theorem d_X6_pointAhead_18 : decode J_X6_pointAhead.2.1 18 = .ok (.goto 7, 3) := by decide +kernel
theorem d_X6_pointAhead_21 : decode J_X6_pointAhead.2.1 21 = .ok (.aload_n 0, 1) := by decide +kernel
theorem d_X6_pointAhead_22 : decode J_X6_pointAhead.2.1 22 = .ok (.getfield 31, 3) := by decide +kernel
theorem d_X6_pointAhead_25 : decode J_X6_pointAhead.2.1 25 = .ok (.ireturn, 1) := by decide +kernel
def f_X6_pointAhead (N : Nat) (K : oK) (p0 : Nat) (p1 : Int32) (M : oM) : Option (Int32 × oM) :=
  oB2 (f_X6_isPart N K p0 (p1 - 1) M) (fun v1 M2 => cond v1 (oIx ((p1 - 1)) 24 (some ((M2.1 (p0 + 4) ((p1 - 1) : Int32).toNatClampNeg), M2))) (some ((M2.1 p0 2), M2)))
set_option maxRecDepth 20000 in
theorem v_X6_pointAhead {X : oX} {N : Nat} {K : oK} {p0 : Nat} {p1 : Int32} {M : oM} {v : Int32} {M' : oM} (hK : oSR K) (hh_p0 : oLS K p0) (h : f_X6_pointAhead N K p0 p1 M = some (v, M')) : oMet X 2 J_X6_pointAhead [(.ref p0), (.int p1)] K M (some (.int v)) K M' := by
  unfold f_X6_pointAhead at h
  refine oMet_of (L := [some (.ref p0), some (.int p1)]) jJ_X6_pointAhead.1 rfl (Nat.le_of_ble_eq_true rfl) rfl (Nat.le_refl _) (Nat.le_refl _) ?_
  have hd : 2 ≤ 2 := Nat.le_refl _
  refine oe_aload_n (pc := 0) d_X6_pointAhead_0 rfl ?_
  refine oe_iload_n (pc := 1) d_X6_pointAhead_1 rfl ?_
  refine oe_iconst (pc := 2) (v := 1) d_X6_pointAhead_2 rfl ?_
  refine oe_isub (pc := 3) d_X6_pointAhead_3 ?_
  obtain ⟨v1, M2, q3, h⟩ := oB2_some h
  cases v1 with
  | true =>
    replace h := oCt h
    refine oe_callV (pc := 4) (ci := 6) d_X6_pointAhead_4 (v_X6_isPart hK hh_p0 q3) (by omega) ml_X6_37 jJ_X6_isPart rfl rfl (oLSa hh_p0 (j := 0) (Nat.le_of_ble_eq_true rfl)) (oLSo hh_p0) ock6 rfl (Nat.le_of_ble_eq_true rfl) ⟨Nat.le_refl _, Nat.le_refl _⟩ ⟨Nat.le_refl _, Nat.le_refl _⟩ ?_
    refine oe_if_eq (pc := 7) (tgt := 21) d_X6_pointAhead_7 (by decide) (fun c => absurd c (by decide)) (fun _ => ?_)
    refine oe_aload_n (pc := 10) d_X6_pointAhead_10 rfl ?_
    refine oe_getr (pc := 11) d_X6_pointAhead_11 fl_X6_21 ock6 (k := 6) (b := p0 + 4) (Nat.le_of_ble_eq_true rfl) (by decide) (oLSa hh_p0 (j := 0) (Nat.le_of_ble_eq_true rfl)) (oLSo hh_p0) (oLSf hh_p0 (j := 4) (by decide) (by decide)) ?_
    refine oe_iload_n (pc := 14) d_X6_pointAhead_14 rfl ?_
    refine oe_iconst (pc := 15) (v := 1) d_X6_pointAhead_15 rfl ?_
    refine oe_isub (pc := 16) d_X6_pointAhead_16 ?_
    obtain ⟨i4, h⟩ := oIx_some h
    refine oe_iald (pc := 17) d_X6_pointAhead_17 (oLSa hh_p0 (j := 4) (Nat.le_of_ble_eq_true rfl)) (oLSr hh_p0 (j := 4) (by decide) (Nat.le_of_ble_eq_true rfl)) i4 ?_
    refine oe_goto (pc := 18) (tgt := 25) d_X6_pointAhead_18 (by decide) ?_
    obtain ⟨rfl, rfl⟩ := oRes h
    exact oe_iret (pc := 25) d_X6_pointAhead_25 ⟨_, rfl, rfl⟩
  | false =>
    replace h := oCf h
    refine oe_callV (pc := 4) (ci := 6) d_X6_pointAhead_4 (v_X6_isPart hK hh_p0 q3) (by omega) ml_X6_37 jJ_X6_isPart rfl rfl (oLSa hh_p0 (j := 0) (Nat.le_of_ble_eq_true rfl)) (oLSo hh_p0) ock6 rfl (Nat.le_of_ble_eq_true rfl) ⟨Nat.le_refl _, Nat.le_refl _⟩ ⟨Nat.le_refl _, Nat.le_refl _⟩ ?_
    refine oe_if_eq (pc := 7) (tgt := 21) d_X6_pointAhead_7 (by decide) (fun _ => ?_) (fun c => absurd (by decide) c)
    refine oe_aload_n (pc := 21) d_X6_pointAhead_21 rfl ?_
    refine oe_getf (pc := 22) d_X6_pointAhead_22 fl_X6_31 ock6 (k := 2) (Nat.le_of_ble_eq_true rfl) rfl (oLSa hh_p0 (j := 0) (Nat.le_of_ble_eq_true rfl)) (oLSo hh_p0) ?_
    obtain ⟨rfl, rfl⟩ := oRes h
    exact oe_iret (pc := 25) d_X6_pointAhead_25 ⟨_, rfl, rfl⟩
theorem d_X8_at_0 : decode J_X8_at.2.1 0 = .ok (.iload_n 1, 1) := by decide +kernel
theorem d_X8_at_1 : decode J_X8_at.2.1 1 = .ok (.ifCond .lt 21, 3) := by decide +kernel
theorem d_X8_at_4 : decode J_X8_at.2.1 4 = .ok (.iload_n 1, 1) := by decide +kernel
theorem d_X8_at_5 : decode J_X8_at.2.1 5 = .ok (.aload_n 0, 1) := by decide +kernel
theorem d_X8_at_6 : decode J_X8_at.2.1 6 = .ok (.getfield 9, 3) := by decide +kernel
theorem d_X8_at_9 : decode J_X8_at.2.1 9 = .ok (.arraylength, 1) := by decide +kernel
theorem d_X8_at_10 : decode J_X8_at.2.1 10 = .ok (.if_icmp .ge 12, 3) := by decide +kernel
theorem d_X8_at_13 : decode J_X8_at.2.1 13 = .ok (.aload_n 0, 1) := by decide +kernel
theorem d_X8_at_14 : decode J_X8_at.2.1 14 = .ok (.getfield 9, 3) := by decide +kernel
theorem d_X8_at_17 : decode J_X8_at.2.1 17 = .ok (.iload_n 1, 1) := by decide +kernel
theorem d_X8_at_18 : decode J_X8_at.2.1 18 = .ok (.iaload, 1) := by decide +kernel
theorem d_X8_at_19 : decode J_X8_at.2.1 19 = .ok (.goto 4, 3) := by decide +kernel
theorem d_X8_at_22 : decode J_X8_at.2.1 22 = .ok (.iconst 0, 1) := by decide +kernel
theorem d_X8_at_23 : decode J_X8_at.2.1 23 = .ok (.ireturn, 1) := by decide +kernel
def f_X8_at (N : Nat) (K : oK) (p1 : Int32) (M : oM) : Option (Int32 × oM) :=
  (if p1 < 0 then some (0, M) else (if (Int32.ofNat 21) ≤ p1 then some (0, M) else oIx (p1) 21 (some ((M.1 2 (p1 : Int32).toNatClampNeg), M))))
set_option maxRecDepth 20000 in
theorem v_X8_at {X : oX} {N : Nat} {K : oK} {p1 : Int32} {M : oM} {v : Int32} {M' : oM} (hK : oSR K)  (h : f_X8_at N K p1 M = some (v, M')) : oMet X 1 J_X8_at [(.ref 1), (.int p1)] K M (some (.int v)) K M' := by
  unfold f_X8_at at h
  refine oMet_of (L := [some (.ref 1), some (.int p1)]) jJ_X8_at.1 rfl (Nat.le_of_ble_eq_true rfl) rfl (Nat.le_refl _) (Nat.le_refl _) ?_
  have hd : 1 ≤ 1 := Nat.le_refl _
  refine oe_iload_n (pc := 0) d_X8_at_0 rfl ?_
  refine oe_if_lt (pc := 1) (tgt := 22) d_X8_at_1 (by decide) (fun c1 => ?_) (fun c1 => ?_)
  · replace h := (if_pos c1).symm.trans h
    refine oe_iconst (pc := 22) (v := 0) d_X8_at_22 rfl ?_
    obtain ⟨rfl, rfl⟩ := oRes h
    exact oe_iret (pc := 23) d_X8_at_23 ⟨_, rfl, rfl⟩
  · replace h := (if_neg c1).symm.trans h
    refine oe_iload_n (pc := 4) d_X8_at_4 rfl ?_
    refine oe_aload_n (pc := 5) d_X8_at_5 rfl ?_
    refine oe_getr (pc := 6) d_X8_at_6 fl_X8_9 ock8 (k := 0) (b := 2) (Nat.le_of_ble_eq_true rfl) (by decide) (oLt hK (a := 1) (Nat.le_of_ble_eq_true rfl)) (oSho hK (a := 1) (Nat.le_of_ble_eq_true rfl) rfl) (oRfK hK rfl) ?_
    refine oe_alenI (pc := 9) d_X8_at_9 (oLt hK (a := 2) (Nat.le_of_ble_eq_true rfl)) (oSha hK (a := 2) (Nat.le_of_ble_eq_true rfl) rfl) rfl ?_
    refine oe_icmp_ge (pc := 10) (tgt := 22) d_X8_at_10 (by decide) (fun c2 => ?_) (fun c2 => ?_)
    · replace h := (if_pos c2).symm.trans h
      refine oe_iconst (pc := 22) (v := 0) d_X8_at_22 rfl ?_
      obtain ⟨rfl, rfl⟩ := oRes h
      exact oe_iret (pc := 23) d_X8_at_23 ⟨_, rfl, rfl⟩
    · replace h := (if_neg c2).symm.trans h
      refine oe_aload_n (pc := 13) d_X8_at_13 rfl ?_
      refine oe_getr (pc := 14) d_X8_at_14 fl_X8_9 ock8 (k := 0) (b := 2) (Nat.le_of_ble_eq_true rfl) (by decide) (oLt hK (a := 1) (Nat.le_of_ble_eq_true rfl)) (oSho hK (a := 1) (Nat.le_of_ble_eq_true rfl) rfl) (oRfK hK rfl) ?_
      refine oe_iload_n (pc := 17) d_X8_at_17 rfl ?_
      obtain ⟨i3, h⟩ := oIx_some h
      refine oe_iald (pc := 18) d_X8_at_18 (oLt hK (a := 2) (Nat.le_of_ble_eq_true rfl)) (oSha hK (a := 2) (Nat.le_of_ble_eq_true rfl) rfl) i3 ?_
      refine oe_goto (pc := 19) (tgt := 23) d_X8_at_19 (by decide) ?_
      obtain ⟨rfl, rfl⟩ := oRes h
      exact oe_iret (pc := 23) d_X8_at_23 ⟨_, rfl, rfl⟩
theorem d_X4_feet_0 : decode J_X4_feet.2.1 0 = .ok (.aload_n 0, 1) := by decide +kernel
theorem d_X4_feet_1 : decode J_X4_feet.2.1 1 = .ok (.getfield 24, 3) := by decide +kernel
theorem d_X4_feet_4 : decode J_X4_feet.2.1 4 = .ok (.bipush 9, 2) := by decide +kernel
theorem d_X4_feet_6 : decode J_X4_feet.2.1 6 = .ok (.iload_n 2, 1) := by decide +kernel
theorem d_X4_feet_7 : decode J_X4_feet.2.1 7 = .ok (.iadd, 1) := by decide +kernel
theorem d_X4_feet_8 : decode J_X4_feet.2.1 8 = .ok (.invokevirtual 45, 3) := by decide +kernel
theorem d_X4_feet_11 : decode J_X4_feet.2.1 11 = .ok (.aload_n 0, 1) := by decide +kernel
theorem d_X4_feet_12 : decode J_X4_feet.2.1 12 = .ok (.getfield 24, 3) := by decide +kernel
theorem d_X4_feet_15 : decode J_X4_feet.2.1 15 = .ok (.bipush 9, 2) := by decide +kernel
theorem d_X4_feet_17 : decode J_X4_feet.2.1 17 = .ok (.iload_n 1, 1) := by decide +kernel
theorem d_X4_feet_18 : decode J_X4_feet.2.1 18 = .ok (.iadd, 1) := by decide +kernel
theorem d_X4_feet_19 : decode J_X4_feet.2.1 19 = .ok (.invokevirtual 45, 3) := by decide +kernel
theorem d_X4_feet_22 : decode J_X4_feet.2.1 22 = .ok (.isub, 1) := by decide +kernel
theorem d_X4_feet_23 : decode J_X4_feet.2.1 23 = .ok (.ireturn, 1) := by decide +kernel
def f_X4_feet (N : Nat) (K : oK) (p1 : Int32) (p2 : Int32) (M : oM) : Option (Int32 × oM) :=
  oB2 (f_X8_at N K ((9 : Int32) + p2) M) (fun v1 M2 => oB2 (f_X8_at N K ((9 : Int32) + p1) M2) (fun v4 M5 => some ((v1 - v4), M5)))
set_option maxRecDepth 20000 in
theorem v_X4_feet {X : oX} {N : Nat} {K : oK} {p1 : Int32} {p2 : Int32} {M : oM} {v : Int32} {M' : oM} (hK : oSR K)  (h : f_X4_feet N K p1 p2 M = some (v, M')) : oMet X 2 J_X4_feet [(.ref 6), (.int p1), (.int p2)] K M (some (.int v)) K M' := by
  unfold f_X4_feet at h
  refine oMet_of (L := [some (.ref 6), some (.int p1), some (.int p2)]) jJ_X4_feet.1 rfl (Nat.le_of_ble_eq_true rfl) rfl (Nat.le_refl _) (Nat.le_refl _) ?_
  have hd : 2 ≤ 2 := Nat.le_refl _
  refine oe_aload_n (pc := 0) d_X4_feet_0 rfl ?_
  refine oe_getr (pc := 1) d_X4_feet_1 fl_X4_24 ock4 (k := 0) (b := 1) (Nat.le_of_ble_eq_true rfl) (by decide) (oLt hK (a := 6) (Nat.le_of_ble_eq_true rfl)) (oSho hK (a := 6) (Nat.le_of_ble_eq_true rfl) rfl) (oRfK hK rfl) ?_
  refine oe_bipush (pc := 4) (v := 9) d_X4_feet_4 rfl ?_
  refine oe_iload_n (pc := 6) d_X4_feet_6 rfl ?_
  refine oe_iadd (pc := 7) d_X4_feet_7 ?_
  obtain ⟨v1, M2, q3, h⟩ := oB2_some h
  refine oe_callV (pc := 8) (ci := 8) d_X4_feet_8 (v_X8_at hK  q3) (by omega) ml_X4_45 jJ_X8_at rfl rfl (oLt hK (a := 1) (Nat.le_of_ble_eq_true rfl)) (oSho hK (a := 1) (Nat.le_of_ble_eq_true rfl) rfl) ock8 rfl (Nat.le_of_ble_eq_true rfl) ⟨Nat.le_refl _, Nat.le_refl _⟩ ⟨Nat.le_refl _, Nat.le_refl _⟩ ?_
  refine oe_aload_n (pc := 11) d_X4_feet_11 rfl ?_
  refine oe_getr (pc := 12) d_X4_feet_12 fl_X4_24 ock4 (k := 0) (b := 1) (Nat.le_of_ble_eq_true rfl) (by decide) (oLt hK (a := 6) (Nat.le_of_ble_eq_true rfl)) (oSho hK (a := 6) (Nat.le_of_ble_eq_true rfl) rfl) (oRfK hK rfl) ?_
  refine oe_bipush (pc := 15) (v := 9) d_X4_feet_15 rfl ?_
  refine oe_iload_n (pc := 17) d_X4_feet_17 rfl ?_
  refine oe_iadd (pc := 18) d_X4_feet_18 ?_
  obtain ⟨v4, M5, q6, h⟩ := oB2_some h
  refine oe_callV (pc := 19) (ci := 8) d_X4_feet_19 (v_X8_at hK  q6) (by omega) ml_X4_45 jJ_X8_at rfl rfl (oLt hK (a := 1) (Nat.le_of_ble_eq_true rfl)) (oSho hK (a := 1) (Nat.le_of_ble_eq_true rfl) rfl) ock8 rfl (Nat.le_of_ble_eq_true rfl) ⟨Nat.le_refl _, Nat.le_refl _⟩ ⟨Nat.le_refl _, Nat.le_refl _⟩ ?_
  refine oe_isub (pc := 22) d_X4_feet_22 ?_
  obtain ⟨rfl, rfl⟩ := oRes h
  exact oe_iret (pc := 23) d_X4_feet_23 ⟨_, rfl, rfl⟩
theorem d_X2_addStep_0 : decode J_X2_addStep.2.1 0 = .ok (.aload_n 1, 1) := by decide +kernel
theorem d_X2_addStep_1 : decode J_X2_addStep.2.1 1 = .ok (.getfield 54, 3) := by decide +kernel
theorem d_X2_addStep_4 : decode J_X2_addStep.2.1 4 = .ok (.iload_n 2, 1) := by decide +kernel
theorem d_X2_addStep_5 : decode J_X2_addStep.2.1 5 = .ok (.iaload, 1) := by decide +kernel
theorem d_X2_addStep_6 : decode J_X2_addStep.2.1 6 = .ok (.istore 4, 2) := by decide +kernel
theorem d_X2_addStep_8 : decode J_X2_addStep.2.1 8 = .ok (.aload_n 0, 1) := by decide +kernel
theorem d_X2_addStep_9 : decode J_X2_addStep.2.1 9 = .ok (.getfield 11, 3) := by decide +kernel
theorem d_X2_addStep_12 : decode J_X2_addStep.2.1 12 = .ok (.aload_n 0, 1) := by decide +kernel
theorem d_X2_addStep_13 : decode J_X2_addStep.2.1 13 = .ok (.getfield 38, 3) := by decide +kernel
theorem d_X2_addStep_16 : decode J_X2_addStep.2.1 16 = .ok (.aload_n 1, 1) := by decide +kernel
theorem d_X2_addStep_17 : decode J_X2_addStep.2.1 17 = .ok (.getfield 57, 3) := by decide +kernel
theorem d_X2_addStep_20 : decode J_X2_addStep.2.1 20 = .ok (.iload_n 2, 1) := by decide +kernel
theorem d_X2_addStep_21 : decode J_X2_addStep.2.1 21 = .ok (.iaload, 1) := by decide +kernel
theorem d_X2_addStep_22 : decode J_X2_addStep.2.1 22 = .ok (.iastore, 1) := by decide +kernel
theorem d_X2_addStep_23 : decode J_X2_addStep.2.1 23 = .ok (.aload_n 1, 1) := by decide +kernel
theorem d_X2_addStep_24 : decode J_X2_addStep.2.1 24 = .ok (.getfield 57, 3) := by decide +kernel
theorem d_X2_addStep_27 : decode J_X2_addStep.2.1 27 = .ok (.iload_n 2, 1) := by decide +kernel
theorem d_X2_addStep_28 : decode J_X2_addStep.2.1 28 = .ok (.iaload, 1) := by decide +kernel
theorem d_X2_addStep_29 : decode J_X2_addStep.2.1 29 = .ok (.ifCond .ne 17, 3) := by decide +kernel
theorem d_X2_addStep_32 : decode J_X2_addStep.2.1 32 = .ok (.aload_n 0, 1) := by decide +kernel
theorem d_X2_addStep_33 : decode J_X2_addStep.2.1 33 = .ok (.getfield 15, 3) := by decide +kernel
theorem d_X2_addStep_36 : decode J_X2_addStep.2.1 36 = .ok (.aload_n 0, 1) := by decide +kernel
theorem d_X2_addStep_37 : decode J_X2_addStep.2.1 37 = .ok (.getfield 38, 3) := by decide +kernel
theorem d_X2_addStep_40 : decode J_X2_addStep.2.1 40 = .ok (.iload 4, 2) := by decide +kernel
theorem d_X2_addStep_42 : decode J_X2_addStep.2.1 42 = .ok (.iastore, 1) := by decide +kernel
theorem d_X2_addStep_43 : decode J_X2_addStep.2.1 43 = .ok (.goto 86, 3) := by decide +kernel
theorem d_X2_addStep_46 : decode J_X2_addStep.2.1 46 = .ok (.aload_n 1, 1) := by decide +kernel
theorem d_X2_addStep_47 : decode J_X2_addStep.2.1 47 = .ok (.getfield 57, 3) := by decide +kernel
theorem d_X2_addStep_50 : decode J_X2_addStep.2.1 50 = .ok (.iload_n 2, 1) := by decide +kernel
theorem d_X2_addStep_51 : decode J_X2_addStep.2.1 51 = .ok (.iaload, 1) := by decide +kernel
theorem d_X2_addStep_52 : decode J_X2_addStep.2.1 52 = .ok (.iconst 1, 1) := by decide +kernel
theorem d_X2_addStep_53 : decode J_X2_addStep.2.1 53 = .ok (.if_icmp .ne 76, 3) := by decide +kernel
theorem d_X2_addStep_56 : decode J_X2_addStep.2.1 56 = .ok (.aload_n 0, 1) := by decide +kernel
theorem d_X2_addStep_57 : decode J_X2_addStep.2.1 57 = .ok (.getfield 18, 3) := by decide +kernel
theorem d_X2_addStep_60 : decode J_X2_addStep.2.1 60 = .ok (.aload_n 0, 1) := by decide +kernel
theorem d_X2_addStep_61 : decode J_X2_addStep.2.1 61 = .ok (.getfield 38, 3) := by decide +kernel
theorem d_X2_addStep_64 : decode J_X2_addStep.2.1 64 = .ok (.aload_n 1, 1) := by decide +kernel
theorem d_X2_addStep_65 : decode J_X2_addStep.2.1 65 = .ok (.getfield 58, 3) := by decide +kernel
theorem d_X2_addStep_68 : decode J_X2_addStep.2.1 68 = .ok (.iload_n 2, 1) := by decide +kernel
theorem d_X2_addStep_69 : decode J_X2_addStep.2.1 69 = .ok (.iaload, 1) := by decide +kernel
theorem d_X2_addStep_70 : decode J_X2_addStep.2.1 70 = .ok (.iastore, 1) := by decide +kernel
theorem d_X2_addStep_71 : decode J_X2_addStep.2.1 71 = .ok (.aload_n 0, 1) := by decide +kernel
theorem d_X2_addStep_72 : decode J_X2_addStep.2.1 72 = .ok (.getfield 21, 3) := by decide +kernel
theorem d_X2_addStep_75 : decode J_X2_addStep.2.1 75 = .ok (.aload_n 0, 1) := by decide +kernel
theorem d_X2_addStep_76 : decode J_X2_addStep.2.1 76 = .ok (.getfield 38, 3) := by decide +kernel
theorem d_X2_addStep_79 : decode J_X2_addStep.2.1 79 = .ok (.aload_n 0, 1) := by decide +kernel
theorem d_X2_addStep_80 : decode J_X2_addStep.2.1 80 = .ok (.getfield 30, 3) := by decide +kernel
theorem d_X2_addStep_83 : decode J_X2_addStep.2.1 83 = .ok (.iload 4, 2) := by decide +kernel
theorem d_X2_addStep_85 : decode J_X2_addStep.2.1 85 = .ok (.invokevirtual 59, 3) := by decide +kernel
theorem d_X2_addStep_88 : decode J_X2_addStep.2.1 88 = .ok (.iastore, 1) := by decide +kernel
theorem d_X2_addStep_89 : decode J_X2_addStep.2.1 89 = .ok (.aload_n 0, 1) := by decide +kernel
theorem d_X2_addStep_90 : decode J_X2_addStep.2.1 90 = .ok (.getfield 24, 3) := by decide +kernel
theorem d_X2_addStep_93 : decode J_X2_addStep.2.1 93 = .ok (.aload_n 0, 1) := by decide +kernel
theorem d_X2_addStep_94 : decode J_X2_addStep.2.1 94 = .ok (.getfield 38, 3) := by decide +kernel
theorem d_X2_addStep_97 : decode J_X2_addStep.2.1 97 = .ok (.iload_n 3, 1) := by decide +kernel
theorem d_X2_addStep_98 : decode J_X2_addStep.2.1 98 = .ok (.iastore, 1) := by decide +kernel
theorem d_X2_addStep_99 : decode J_X2_addStep.2.1 99 = .ok (.aload_n 0, 1) := by decide +kernel
theorem d_X2_addStep_100 : decode J_X2_addStep.2.1 100 = .ok (.getfield 27, 3) := by decide +kernel
theorem d_X2_addStep_103 : decode J_X2_addStep.2.1 103 = .ok (.aload_n 0, 1) := by decide +kernel
theorem d_X2_addStep_104 : decode J_X2_addStep.2.1 104 = .ok (.getfield 38, 3) := by decide +kernel
theorem d_X2_addStep_107 : decode J_X2_addStep.2.1 107 = .ok (.bipush 43, 2) := by decide +kernel
theorem d_X2_addStep_109 : decode J_X2_addStep.2.1 109 = .ok (.aload_n 0, 1) := by decide +kernel
theorem d_X2_addStep_110 : decode J_X2_addStep.2.1 110 = .ok (.getfield 30, 3) := by decide +kernel
theorem d_X2_addStep_113 : decode J_X2_addStep.2.1 113 = .ok (.aload_n 1, 1) := by decide +kernel
theorem d_X2_addStep_114 : decode J_X2_addStep.2.1 114 = .ok (.iload_n 2, 1) := by decide +kernel
theorem d_X2_addStep_115 : decode J_X2_addStep.2.1 115 = .ok (.invokevirtual 65, 3) := by decide +kernel
theorem d_X2_addStep_118 : decode J_X2_addStep.2.1 118 = .ok (.aload_n 1, 1) := by decide +kernel
theorem d_X2_addStep_119 : decode J_X2_addStep.2.1 119 = .ok (.getfield 68, 3) := by decide +kernel
theorem d_X2_addStep_122 : decode J_X2_addStep.2.1 122 = .ok (.iload_n 2, 1) := by decide +kernel
theorem d_X2_addStep_123 : decode J_X2_addStep.2.1 123 = .ok (.iaload, 1) := by decide +kernel
theorem d_X2_addStep_124 : decode J_X2_addStep.2.1 124 = .ok (.invokevirtual 71, 3) := by decide +kernel
theorem d_X2_addStep_127 : decode J_X2_addStep.2.1 127 = .ok (.imul, 1) := by decide +kernel
theorem d_X2_addStep_128 : decode J_X2_addStep.2.1 128 = .ok (.iastore, 1) := by decide +kernel
theorem d_X2_addStep_129 : decode J_X2_addStep.2.1 129 = .ok (.aload_n 0, 1) := by decide +kernel
theorem d_X2_addStep_130 : decode J_X2_addStep.2.1 130 = .ok (.dup, 1) := by decide +kernel
theorem d_X2_addStep_131 : decode J_X2_addStep.2.1 131 = .ok (.getfield 38, 3) := by decide +kernel
theorem d_X2_addStep_134 : decode J_X2_addStep.2.1 134 = .ok (.iconst 1, 1) := by decide +kernel
theorem d_X2_addStep_135 : decode J_X2_addStep.2.1 135 = .ok (.iadd, 1) := by decide +kernel
theorem d_X2_addStep_136 : decode J_X2_addStep.2.1 136 = .ok (.putfield 38, 3) := by decide +kernel
theorem d_X2_addStep_139 : decode J_X2_addStep.2.1 139 = .ok (.return_, 1) := by decide +kernel
def f_X2_addStep_129 (N : Nat) (K : oK)   (M : oM) : Option (Unit × oM) :=
  some ((), (oUp M 21 8 ((M.1 21 8) + 1)))
set_option maxRecDepth 20000 in
theorem v_X2_addStep_129 {X : oX} {d N : Nat} {K : oK}   {M : oM} {v : Unit} {M' : oM}  (hd : 3 ≤ d) (hK : oSR K)   (h : f_X2_addStep_129 N K   M = some (v, M')) : oEv X d J_X2_addStep 129 [some (.ref 21), none, none, none, none] [] K M none K M' := by
  unfold f_X2_addStep_129 at h
  refine oe_aload_n (pc := 129) d_X2_addStep_129 rfl ?_
  refine oe_dup (pc := 130) d_X2_addStep_130 rfl ?_
  refine oe_getf (pc := 131) d_X2_addStep_131 fl_X2_38 ock2 (k := 8) (Nat.le_of_ble_eq_true rfl) rfl (oLt hK (a := 21) (Nat.le_of_ble_eq_true rfl)) (oSho hK (a := 21) (Nat.le_of_ble_eq_true rfl) rfl) ?_
  refine oe_iconst (pc := 134) (v := 1) d_X2_addStep_134 rfl ?_
  refine oe_iadd (pc := 135) d_X2_addStep_135 ?_
  refine oe_putf (pc := 136) d_X2_addStep_136 fl_X2_38 ock2 (k := 8) (Nat.le_of_ble_eq_true rfl) rfl rfl (oLt hK (a := 21) (Nat.le_of_ble_eq_true rfl)) (oSho hK (a := 21) (Nat.le_of_ble_eq_true rfl) rfl) ?_
  obtain ⟨rfl, rfl⟩ := oRes h
  exact oe_vret (pc := 139) d_X2_addStep_139 rfl
def f_X2_addStep (N : Nat) (K : oK) (p1 : Nat) (p2 : Int32) (p3 : Int32) (M : oM) : Option (Unit × oM) :=
  oIx (p2) 24 (oIx (p2) 24 (oIx ((M.1 21 8)) 25 (oIx (p2) 24 ((if ((oUp M 22 ((M.1 21 8) : Int32).toNatClampNeg (M.1 (p1 + 1) (p2 : Int32).toNatClampNeg)).1 (p1 + 1) (p2 : Int32).toNatClampNeg) = 0 then oIx (((oUp M 22 ((M.1 21 8) : Int32).toNatClampNeg (M.1 (p1 + 1) (p2 : Int32).toNatClampNeg)).1 21 8)) 25 ((f_X2_addStep_129 N K   (oUp (oUp M 22 ((M.1 21 8) : Int32).toNatClampNeg (M.1 (p1 + 1) (p2 : Int32).toNatClampNeg)) 23 (((oUp M 22 ((M.1 21 8) : Int32).toNatClampNeg (M.1 (p1 + 1) (p2 : Int32).toNatClampNeg)).1 21 8) : Int32).toNatClampNeg (M.1 (p1 + 2) (p2 : Int32).toNatClampNeg)))) else oIx (p2) 24 ((if ((oUp M 22 ((M.1 21 8) : Int32).toNatClampNeg (M.1 (p1 + 1) (p2 : Int32).toNatClampNeg)).1 (p1 + 1) (p2 : Int32).toNatClampNeg) = 1 then oIx (p2) 24 (oIx (((oUp M 22 ((M.1 21 8) : Int32).toNatClampNeg (M.1 (p1 + 1) (p2 : Int32).toNatClampNeg)).1 21 8)) 25 (oB2 (f_X4_lengthsOf N K (M.1 (p1 + 2) (p2 : Int32).toNatClampNeg) (oUp (oUp M 22 ((M.1 21 8) : Int32).toNatClampNeg (M.1 (p1 + 1) (p2 : Int32).toNatClampNeg)) 24 (((oUp M 22 ((M.1 21 8) : Int32).toNatClampNeg (M.1 (p1 + 1) (p2 : Int32).toNatClampNeg)).1 21 8) : Int32).toNatClampNeg ((oUp M 22 ((M.1 21 8) : Int32).toNatClampNeg (M.1 (p1 + 1) (p2 : Int32).toNatClampNeg)).1 (p1 + 3) (p2 : Int32).toNatClampNeg))) (fun v10 M11 => oIx (((oUp (oUp M 22 ((M.1 21 8) : Int32).toNatClampNeg (M.1 (p1 + 1) (p2 : Int32).toNatClampNeg)) 24 (((oUp M 22 ((M.1 21 8) : Int32).toNatClampNeg (M.1 (p1 + 1) (p2 : Int32).toNatClampNeg)).1 21 8) : Int32).toNatClampNeg ((oUp M 22 ((M.1 21 8) : Int32).toNatClampNeg (M.1 (p1 + 1) (p2 : Int32).toNatClampNeg)).1 (p1 + 3) (p2 : Int32).toNatClampNeg)).1 21 8)) 25 (oIx (((oUp M11 25 (((oUp (oUp M 22 ((M.1 21 8) : Int32).toNatClampNeg (M.1 (p1 + 1) (p2 : Int32).toNatClampNeg)) 24 (((oUp M 22 ((M.1 21 8) : Int32).toNatClampNeg (M.1 (p1 + 1) (p2 : Int32).toNatClampNeg)).1 21 8) : Int32).toNatClampNeg ((oUp M 22 ((M.1 21 8) : Int32).toNatClampNeg (M.1 (p1 + 1) (p2 : Int32).toNatClampNeg)).1 (p1 + 3) (p2 : Int32).toNatClampNeg)).1 21 8) : Int32).toNatClampNeg v10).1 21 8)) 25 (oB2 (f_X6_pointAhead N K p1 p2 (oUp (oUp M11 25 (((oUp (oUp M 22 ((M.1 21 8) : Int32).toNatClampNeg (M.1 (p1 + 1) (p2 : Int32).toNatClampNeg)) 24 (((oUp M 22 ((M.1 21 8) : Int32).toNatClampNeg (M.1 (p1 + 1) (p2 : Int32).toNatClampNeg)).1 21 8) : Int32).toNatClampNeg ((oUp M 22 ((M.1 21 8) : Int32).toNatClampNeg (M.1 (p1 + 1) (p2 : Int32).toNatClampNeg)).1 (p1 + 3) (p2 : Int32).toNatClampNeg)).1 21 8) : Int32).toNatClampNeg v10) 26 (((oUp M11 25 (((oUp (oUp M 22 ((M.1 21 8) : Int32).toNatClampNeg (M.1 (p1 + 1) (p2 : Int32).toNatClampNeg)) 24 (((oUp M 22 ((M.1 21 8) : Int32).toNatClampNeg (M.1 (p1 + 1) (p2 : Int32).toNatClampNeg)).1 21 8) : Int32).toNatClampNeg ((oUp M 22 ((M.1 21 8) : Int32).toNatClampNeg (M.1 (p1 + 1) (p2 : Int32).toNatClampNeg)).1 (p1 + 3) (p2 : Int32).toNatClampNeg)).1 21 8) : Int32).toNatClampNeg v10).1 21 8) : Int32).toNatClampNeg p3)) (fun v15 M16 => oIx (p2) 24 (oB2 (f_X4_feet N K v15 (M16.1 (p1 + 4) (p2 : Int32).toNatClampNeg) M16) (fun v19 M20 => oIx (((oUp (oUp M11 25 (((oUp (oUp M 22 ((M.1 21 8) : Int32).toNatClampNeg (M.1 (p1 + 1) (p2 : Int32).toNatClampNeg)) 24 (((oUp M 22 ((M.1 21 8) : Int32).toNatClampNeg (M.1 (p1 + 1) (p2 : Int32).toNatClampNeg)).1 21 8) : Int32).toNatClampNeg ((oUp M 22 ((M.1 21 8) : Int32).toNatClampNeg (M.1 (p1 + 1) (p2 : Int32).toNatClampNeg)).1 (p1 + 3) (p2 : Int32).toNatClampNeg)).1 21 8) : Int32).toNatClampNeg v10) 26 (((oUp M11 25 (((oUp (oUp M 22 ((M.1 21 8) : Int32).toNatClampNeg (M.1 (p1 + 1) (p2 : Int32).toNatClampNeg)) 24 (((oUp M 22 ((M.1 21 8) : Int32).toNatClampNeg (M.1 (p1 + 1) (p2 : Int32).toNatClampNeg)).1 21 8) : Int32).toNatClampNeg ((oUp M 22 ((M.1 21 8) : Int32).toNatClampNeg (M.1 (p1 + 1) (p2 : Int32).toNatClampNeg)).1 (p1 + 3) (p2 : Int32).toNatClampNeg)).1 21 8) : Int32).toNatClampNeg v10).1 21 8) : Int32).toNatClampNeg p3).1 21 8)) 25 ((f_X2_addStep_129 N K   (oUp M20 27 (((oUp (oUp M11 25 (((oUp (oUp M 22 ((M.1 21 8) : Int32).toNatClampNeg (M.1 (p1 + 1) (p2 : Int32).toNatClampNeg)) 24 (((oUp M 22 ((M.1 21 8) : Int32).toNatClampNeg (M.1 (p1 + 1) (p2 : Int32).toNatClampNeg)).1 21 8) : Int32).toNatClampNeg ((oUp M 22 ((M.1 21 8) : Int32).toNatClampNeg (M.1 (p1 + 1) (p2 : Int32).toNatClampNeg)).1 (p1 + 3) (p2 : Int32).toNatClampNeg)).1 21 8) : Int32).toNatClampNeg v10) 26 (((oUp M11 25 (((oUp (oUp M 22 ((M.1 21 8) : Int32).toNatClampNeg (M.1 (p1 + 1) (p2 : Int32).toNatClampNeg)) 24 (((oUp M 22 ((M.1 21 8) : Int32).toNatClampNeg (M.1 (p1 + 1) (p2 : Int32).toNatClampNeg)).1 21 8) : Int32).toNatClampNeg ((oUp M 22 ((M.1 21 8) : Int32).toNatClampNeg (M.1 (p1 + 1) (p2 : Int32).toNatClampNeg)).1 (p1 + 3) (p2 : Int32).toNatClampNeg)).1 21 8) : Int32).toNatClampNeg v10).1 21 8) : Int32).toNatClampNeg p3).1 21 8) : Int32).toNatClampNeg ((43 : Int32) * v19)))))))))))) else (f_X2_addStep_129 N K   (oUp M 22 ((M.1 21 8) : Int32).toNatClampNeg (M.1 (p1 + 1) (p2 : Int32).toNatClampNeg))))))))))
set_option maxRecDepth 20000 in
theorem v_X2_addStep {X : oX} {N : Nat} {K : oK} {p1 : Nat} {p2 : Int32} {p3 : Int32} {M : oM} {v : Unit} {M' : oM} (hK : oSR K) (hh_p1 : oLS K p1) (h : f_X2_addStep N K p1 p2 p3 M = some (v, M')) : oMet X 3 J_X2_addStep [(.ref 21), (.ref p1), (.int p2), (.int p3)] K M none K M' := by
  unfold f_X2_addStep at h
  refine oMet_of (L := [some (.ref 21), some (.ref p1), some (.int p2), some (.int p3), none]) jJ_X2_addStep.1 rfl (Nat.le_of_ble_eq_true rfl) rfl (Nat.le_refl _) (Nat.le_refl _) ?_
  have hd : 3 ≤ 3 := Nat.le_refl _
  refine oe_aload_n (pc := 0) d_X2_addStep_0 rfl ?_
  refine oe_getr (pc := 1) d_X2_addStep_1 fl_X2_54 ock6 (k := 4) (b := p1 + 2) (Nat.le_of_ble_eq_true rfl) (by decide) (oLSa hh_p1 (j := 0) (Nat.le_of_ble_eq_true rfl)) (oLSo hh_p1) (oLSf hh_p1 (j := 2) (by decide) (by decide)) ?_
  refine oe_iload_n (pc := 4) d_X2_addStep_4 rfl ?_
  obtain ⟨i1, h⟩ := oIx_some h
  refine oe_iald (pc := 5) d_X2_addStep_5 (oLSa hh_p1 (j := 2) (Nat.le_of_ble_eq_true rfl)) (oLSr hh_p1 (j := 2) (by decide) (Nat.le_of_ble_eq_true rfl)) i1 ?_
  refine oe_istore (pc := 6) (L2 := [_, _, _, _, _]) d_X2_addStep_6 rfl (Nat.le_of_ble_eq_true rfl) rfl ?_
  refine oe_aload_n (pc := 8) d_X2_addStep_8 rfl ?_
  refine oe_getr (pc := 9) d_X2_addStep_9 fl_X2_11 ock2 (k := 2) (b := 22) (Nat.le_of_ble_eq_true rfl) (by decide) (oLt hK (a := 21) (Nat.le_of_ble_eq_true rfl)) (oSho hK (a := 21) (Nat.le_of_ble_eq_true rfl) rfl) (oRfK hK rfl) ?_
  refine oe_aload_n (pc := 12) d_X2_addStep_12 rfl ?_
  refine oe_getf (pc := 13) d_X2_addStep_13 fl_X2_38 ock2 (k := 8) (Nat.le_of_ble_eq_true rfl) rfl (oLt hK (a := 21) (Nat.le_of_ble_eq_true rfl)) (oSho hK (a := 21) (Nat.le_of_ble_eq_true rfl) rfl) ?_
  refine oe_aload_n (pc := 16) d_X2_addStep_16 rfl ?_
  refine oe_getr (pc := 17) d_X2_addStep_17 fl_X2_57 ock6 (k := 3) (b := p1 + 1) (Nat.le_of_ble_eq_true rfl) (by decide) (oLSa hh_p1 (j := 0) (Nat.le_of_ble_eq_true rfl)) (oLSo hh_p1) (oLSf hh_p1 (j := 1) (by decide) (by decide)) ?_
  refine oe_iload_n (pc := 20) d_X2_addStep_20 rfl ?_
  obtain ⟨i2, h⟩ := oIx_some h
  refine oe_iald (pc := 21) d_X2_addStep_21 (oLSa hh_p1 (j := 1) (Nat.le_of_ble_eq_true rfl)) (oLSr hh_p1 (j := 1) (by decide) (Nat.le_of_ble_eq_true rfl)) i2 ?_
  obtain ⟨i3, h⟩ := oIx_some h
  refine oe_iast (pc := 22) d_X2_addStep_22 (oLt hK (a := 22) (Nat.le_of_ble_eq_true rfl)) (oSha hK (a := 22) (Nat.le_of_ble_eq_true rfl) rfl) i3 ?_
  refine oe_aload_n (pc := 23) d_X2_addStep_23 rfl ?_
  refine oe_getr (pc := 24) d_X2_addStep_24 fl_X2_57 ock6 (k := 3) (b := p1 + 1) (Nat.le_of_ble_eq_true rfl) (by decide) (oLSa hh_p1 (j := 0) (Nat.le_of_ble_eq_true rfl)) (oLSo hh_p1) (oLSf hh_p1 (j := 1) (by decide) (by decide)) ?_
  refine oe_iload_n (pc := 27) d_X2_addStep_27 rfl ?_
  obtain ⟨i4, h⟩ := oIx_some h
  refine oe_iald (pc := 28) d_X2_addStep_28 (oLSa hh_p1 (j := 1) (Nat.le_of_ble_eq_true rfl)) (oLSr hh_p1 (j := 1) (by decide) (Nat.le_of_ble_eq_true rfl)) i4 ?_
  refine oe_if_ne (pc := 29) (tgt := 46) d_X2_addStep_29 (by decide) (fun c5 => ?_) (fun c5 => ?_)
  · replace h := (if_neg c5).symm.trans h
    refine oe_aload_n (pc := 46) d_X2_addStep_46 rfl ?_
    refine oe_getr (pc := 47) d_X2_addStep_47 fl_X2_57 ock6 (k := 3) (b := p1 + 1) (Nat.le_of_ble_eq_true rfl) (by decide) (oLSa hh_p1 (j := 0) (Nat.le_of_ble_eq_true rfl)) (oLSo hh_p1) (oLSf hh_p1 (j := 1) (by decide) (by decide)) ?_
    refine oe_iload_n (pc := 50) d_X2_addStep_50 rfl ?_
    obtain ⟨i6, h⟩ := oIx_some h
    refine oe_iald (pc := 51) d_X2_addStep_51 (oLSa hh_p1 (j := 1) (Nat.le_of_ble_eq_true rfl)) (oLSr hh_p1 (j := 1) (by decide) (Nat.le_of_ble_eq_true rfl)) i6 ?_
    refine oe_iconst (pc := 52) (v := 1) d_X2_addStep_52 rfl ?_
    refine oe_icmp_ne (pc := 53) (tgt := 129) d_X2_addStep_53 (by decide) (fun c7 => ?_) (fun c7 => ?_)
    · replace h := (if_neg c7).symm.trans h
      refine oEv.fg [true, false, false, false, false] ?_
      exact v_X2_addStep_129 hd hK   h
    · replace h := (if_pos c7).symm.trans h
      refine oe_aload_n (pc := 56) d_X2_addStep_56 rfl ?_
      refine oe_getr (pc := 57) d_X2_addStep_57 fl_X2_18 ock2 (k := 4) (b := 24) (Nat.le_of_ble_eq_true rfl) (by decide) (oLt hK (a := 21) (Nat.le_of_ble_eq_true rfl)) (oSho hK (a := 21) (Nat.le_of_ble_eq_true rfl) rfl) (oRfK hK rfl) ?_
      refine oe_aload_n (pc := 60) d_X2_addStep_60 rfl ?_
      refine oe_getf (pc := 61) d_X2_addStep_61 fl_X2_38 ock2 (k := 8) (Nat.le_of_ble_eq_true rfl) rfl (oLt hK (a := 21) (Nat.le_of_ble_eq_true rfl)) (oSho hK (a := 21) (Nat.le_of_ble_eq_true rfl) rfl) ?_
      refine oe_aload_n (pc := 64) d_X2_addStep_64 rfl ?_
      refine oe_getr (pc := 65) d_X2_addStep_65 fl_X2_58 ock6 (k := 5) (b := p1 + 3) (Nat.le_of_ble_eq_true rfl) (by decide) (oLSa hh_p1 (j := 0) (Nat.le_of_ble_eq_true rfl)) (oLSo hh_p1) (oLSf hh_p1 (j := 3) (by decide) (by decide)) ?_
      refine oe_iload_n (pc := 68) d_X2_addStep_68 rfl ?_
      obtain ⟨i8, h⟩ := oIx_some h
      refine oe_iald (pc := 69) d_X2_addStep_69 (oLSa hh_p1 (j := 3) (Nat.le_of_ble_eq_true rfl)) (oLSr hh_p1 (j := 3) (by decide) (Nat.le_of_ble_eq_true rfl)) i8 ?_
      obtain ⟨i9, h⟩ := oIx_some h
      refine oe_iast (pc := 70) d_X2_addStep_70 (oLt hK (a := 24) (Nat.le_of_ble_eq_true rfl)) (oSha hK (a := 24) (Nat.le_of_ble_eq_true rfl) rfl) i9 ?_
      refine oe_aload_n (pc := 71) d_X2_addStep_71 rfl ?_
      refine oe_getr (pc := 72) d_X2_addStep_72 fl_X2_21 ock2 (k := 5) (b := 25) (Nat.le_of_ble_eq_true rfl) (by decide) (oLt hK (a := 21) (Nat.le_of_ble_eq_true rfl)) (oSho hK (a := 21) (Nat.le_of_ble_eq_true rfl) rfl) (oRfK hK rfl) ?_
      refine oe_aload_n (pc := 75) d_X2_addStep_75 rfl ?_
      refine oe_getf (pc := 76) d_X2_addStep_76 fl_X2_38 ock2 (k := 8) (Nat.le_of_ble_eq_true rfl) rfl (oLt hK (a := 21) (Nat.le_of_ble_eq_true rfl)) (oSho hK (a := 21) (Nat.le_of_ble_eq_true rfl) rfl) ?_
      refine oe_aload_n (pc := 79) d_X2_addStep_79 rfl ?_
      refine oe_getr (pc := 80) d_X2_addStep_80 fl_X2_30 ock2 (k := 0) (b := 6) (Nat.le_of_ble_eq_true rfl) (by decide) (oLt hK (a := 21) (Nat.le_of_ble_eq_true rfl)) (oSho hK (a := 21) (Nat.le_of_ble_eq_true rfl) rfl) (oRfK hK rfl) ?_
      refine oe_iload (pc := 83) d_X2_addStep_83 rfl ?_
      obtain ⟨v10, M11, q12, h⟩ := oB2_some h
      refine oe_callV (pc := 85) (ci := 4) d_X2_addStep_85 (v_X4_lengthsOf hK  q12) (by omega) ml_X2_59 jJ_X4_lengthsOf rfl rfl (oLt hK (a := 6) (Nat.le_of_ble_eq_true rfl)) (oSho hK (a := 6) (Nat.le_of_ble_eq_true rfl) rfl) ock4 rfl (Nat.le_of_ble_eq_true rfl) ⟨Nat.le_refl _, Nat.le_refl _⟩ ⟨Nat.le_refl _, Nat.le_refl _⟩ ?_
      obtain ⟨i13, h⟩ := oIx_some h
      refine oe_iast (pc := 88) d_X2_addStep_88 (oLt hK (a := 25) (Nat.le_of_ble_eq_true rfl)) (oSha hK (a := 25) (Nat.le_of_ble_eq_true rfl) rfl) i13 ?_
      refine oe_aload_n (pc := 89) d_X2_addStep_89 rfl ?_
      refine oe_getr (pc := 90) d_X2_addStep_90 fl_X2_24 ock2 (k := 6) (b := 26) (Nat.le_of_ble_eq_true rfl) (by decide) (oLt hK (a := 21) (Nat.le_of_ble_eq_true rfl)) (oSho hK (a := 21) (Nat.le_of_ble_eq_true rfl) rfl) (oRfK hK rfl) ?_
      refine oe_aload_n (pc := 93) d_X2_addStep_93 rfl ?_
      refine oe_getf (pc := 94) d_X2_addStep_94 fl_X2_38 ock2 (k := 8) (Nat.le_of_ble_eq_true rfl) rfl (oLt hK (a := 21) (Nat.le_of_ble_eq_true rfl)) (oSho hK (a := 21) (Nat.le_of_ble_eq_true rfl) rfl) ?_
      refine oe_iload_n (pc := 97) d_X2_addStep_97 rfl ?_
      obtain ⟨i14, h⟩ := oIx_some h
      refine oe_iast (pc := 98) d_X2_addStep_98 (oLt hK (a := 26) (Nat.le_of_ble_eq_true rfl)) (oSha hK (a := 26) (Nat.le_of_ble_eq_true rfl) rfl) i14 ?_
      refine oe_aload_n (pc := 99) d_X2_addStep_99 rfl ?_
      refine oe_getr (pc := 100) d_X2_addStep_100 fl_X2_27 ock2 (k := 7) (b := 27) (Nat.le_of_ble_eq_true rfl) (by decide) (oLt hK (a := 21) (Nat.le_of_ble_eq_true rfl)) (oSho hK (a := 21) (Nat.le_of_ble_eq_true rfl) rfl) (oRfK hK rfl) ?_
      refine oe_aload_n (pc := 103) d_X2_addStep_103 rfl ?_
      refine oe_getf (pc := 104) d_X2_addStep_104 fl_X2_38 ock2 (k := 8) (Nat.le_of_ble_eq_true rfl) rfl (oLt hK (a := 21) (Nat.le_of_ble_eq_true rfl)) (oSho hK (a := 21) (Nat.le_of_ble_eq_true rfl) rfl) ?_
      refine oe_bipush (pc := 107) (v := 43) d_X2_addStep_107 rfl ?_
      refine oe_aload_n (pc := 109) d_X2_addStep_109 rfl ?_
      refine oe_getr (pc := 110) d_X2_addStep_110 fl_X2_30 ock2 (k := 0) (b := 6) (Nat.le_of_ble_eq_true rfl) (by decide) (oLt hK (a := 21) (Nat.le_of_ble_eq_true rfl)) (oSho hK (a := 21) (Nat.le_of_ble_eq_true rfl) rfl) (oRfK hK rfl) ?_
      refine oe_aload_n (pc := 113) d_X2_addStep_113 rfl ?_
      refine oe_iload_n (pc := 114) d_X2_addStep_114 rfl ?_
      obtain ⟨v15, M16, q17, h⟩ := oB2_some h
      refine oe_callV (pc := 115) (ci := 6) d_X2_addStep_115 (v_X6_pointAhead hK hh_p1 q17) (by omega) ml_X2_65 jJ_X6_pointAhead rfl rfl (oLSa hh_p1 (j := 0) (Nat.le_of_ble_eq_true rfl)) (oLSo hh_p1) ock6 rfl (Nat.le_of_ble_eq_true rfl) ⟨Nat.le_refl _, Nat.le_refl _⟩ ⟨Nat.le_refl _, Nat.le_refl _⟩ ?_
      refine oe_aload_n (pc := 118) d_X2_addStep_118 rfl ?_
      refine oe_getr (pc := 119) d_X2_addStep_119 fl_X2_68 ock6 (k := 6) (b := p1 + 4) (Nat.le_of_ble_eq_true rfl) (by decide) (oLSa hh_p1 (j := 0) (Nat.le_of_ble_eq_true rfl)) (oLSo hh_p1) (oLSf hh_p1 (j := 4) (by decide) (by decide)) ?_
      refine oe_iload_n (pc := 122) d_X2_addStep_122 rfl ?_
      obtain ⟨i18, h⟩ := oIx_some h
      refine oe_iald (pc := 123) d_X2_addStep_123 (oLSa hh_p1 (j := 4) (Nat.le_of_ble_eq_true rfl)) (oLSr hh_p1 (j := 4) (by decide) (Nat.le_of_ble_eq_true rfl)) i18 ?_
      obtain ⟨v19, M20, q21, h⟩ := oB2_some h
      refine oe_callV (pc := 124) (ci := 4) d_X2_addStep_124 (v_X4_feet hK  q21) (by omega) ml_X2_71 jJ_X4_feet rfl rfl (oLt hK (a := 6) (Nat.le_of_ble_eq_true rfl)) (oSho hK (a := 6) (Nat.le_of_ble_eq_true rfl) rfl) ock4 rfl (Nat.le_of_ble_eq_true rfl) ⟨Nat.le_refl _, Nat.le_refl _⟩ ⟨Nat.le_refl _, Nat.le_refl _⟩ ?_
      refine oe_imul (pc := 127) d_X2_addStep_127 ?_
      obtain ⟨i22, h⟩ := oIx_some h
      refine oe_iast (pc := 128) d_X2_addStep_128 (oLt hK (a := 27) (Nat.le_of_ble_eq_true rfl)) (oSha hK (a := 27) (Nat.le_of_ble_eq_true rfl) rfl) i22 ?_
      refine oEv.fg [true, false, false, false, false] ?_
      exact v_X2_addStep_129 hd hK   h
  · replace h := (if_pos c5).symm.trans h
    refine oe_aload_n (pc := 32) d_X2_addStep_32 rfl ?_
    refine oe_getr (pc := 33) d_X2_addStep_33 fl_X2_15 ock2 (k := 3) (b := 23) (Nat.le_of_ble_eq_true rfl) (by decide) (oLt hK (a := 21) (Nat.le_of_ble_eq_true rfl)) (oSho hK (a := 21) (Nat.le_of_ble_eq_true rfl) rfl) (oRfK hK rfl) ?_
    refine oe_aload_n (pc := 36) d_X2_addStep_36 rfl ?_
    refine oe_getf (pc := 37) d_X2_addStep_37 fl_X2_38 ock2 (k := 8) (Nat.le_of_ble_eq_true rfl) rfl (oLt hK (a := 21) (Nat.le_of_ble_eq_true rfl)) (oSho hK (a := 21) (Nat.le_of_ble_eq_true rfl) rfl) ?_
    refine oe_iload (pc := 40) d_X2_addStep_40 rfl ?_
    obtain ⟨i23, h⟩ := oIx_some h
    refine oe_iast (pc := 42) d_X2_addStep_42 (oLt hK (a := 23) (Nat.le_of_ble_eq_true rfl)) (oSha hK (a := 23) (Nat.le_of_ble_eq_true rfl) rfl) i23 ?_
    refine oe_goto (pc := 43) (tgt := 129) d_X2_addStep_43 (by decide) ?_
    refine oEv.fg [true, false, false, false, false] ?_
    exact v_X2_addStep_129 hd hK   h
theorem d_X2_lay_0 : decode J_X2_lay.2.1 0 = .ok (.iload_n 2, 1) := by decide +kernel
theorem d_X2_lay_1 : decode J_X2_lay.2.1 1 = .ok (.iconst 1, 1) := by decide +kernel
theorem d_X2_lay_2 : decode J_X2_lay.2.1 2 = .ok (.if_icmp .ne 7, 3) := by decide +kernel
theorem d_X2_lay_5 : decode J_X2_lay.2.1 5 = .ok (.iload_n 3, 1) := by decide +kernel
theorem d_X2_lay_6 : decode J_X2_lay.2.1 6 = .ok (.goto 4, 3) := by decide +kernel
theorem d_X2_lay_9 : decode J_X2_lay.2.1 9 = .ok (.iconst (-1), 1) := by decide +kernel
theorem d_X2_lay_10 : decode J_X2_lay.2.1 10 = .ok (.istore 4, 2) := by decide +kernel
theorem d_X2_lay_12 : decode J_X2_lay.2.1 12 = .ok (.aload_n 0, 1) := by decide +kernel
theorem d_X2_lay_13 : decode J_X2_lay.2.1 13 = .ok (.iconst 0, 1) := by decide +kernel
theorem d_X2_lay_14 : decode J_X2_lay.2.1 14 = .ok (.putfield 38, 3) := by decide +kernel
theorem d_X2_lay_17 : decode J_X2_lay.2.1 17 = .ok (.iconst 0, 1) := by decide +kernel
theorem d_X2_lay_18 : decode J_X2_lay.2.1 18 = .ok (.istore 5, 2) := by decide +kernel
theorem d_X2_lay_20 : decode J_X2_lay.2.1 20 = .ok (.iload 5, 2) := by decide +kernel
theorem d_X2_lay_22 : decode J_X2_lay.2.1 22 = .ok (.aload_n 1, 1) := by decide +kernel
theorem d_X2_lay_23 : decode J_X2_lay.2.1 23 = .ok (.getfield 42, 3) := by decide +kernel
theorem d_X2_lay_26 : decode J_X2_lay.2.1 26 = .ok (.if_icmp .ge 89, 3) := by decide +kernel
theorem d_X2_lay_29 : decode J_X2_lay.2.1 29 = .ok (.iload_n 2, 1) := by decide +kernel
theorem d_X2_lay_30 : decode J_X2_lay.2.1 30 = .ok (.iconst 2, 1) := by decide +kernel
theorem d_X2_lay_31 : decode J_X2_lay.2.1 31 = .ok (.if_icmp .ne 29, 3) := by decide +kernel
theorem d_X2_lay_34 : decode J_X2_lay.2.1 34 = .ok (.iload 5, 2) := by decide +kernel
theorem d_X2_lay_36 : decode J_X2_lay.2.1 36 = .ok (.iload_n 3, 1) := by decide +kernel
theorem d_X2_lay_37 : decode J_X2_lay.2.1 37 = .ok (.if_icmp .ne 23, 3) := by decide +kernel
theorem d_X2_lay_40 : decode J_X2_lay.2.1 40 = .ok (.aload_n 0, 1) := by decide +kernel
theorem d_X2_lay_41 : decode J_X2_lay.2.1 41 = .ok (.getfield 11, 3) := by decide +kernel
theorem d_X2_lay_44 : decode J_X2_lay.2.1 44 = .ok (.aload_n 0, 1) := by decide +kernel
theorem d_X2_lay_45 : decode J_X2_lay.2.1 45 = .ok (.getfield 38, 3) := by decide +kernel
theorem d_X2_lay_48 : decode J_X2_lay.2.1 48 = .ok (.iconst 2, 1) := by decide +kernel
theorem d_X2_lay_49 : decode J_X2_lay.2.1 49 = .ok (.iastore, 1) := by decide +kernel
theorem d_X2_lay_50 : decode J_X2_lay.2.1 50 = .ok (.aload_n 0, 1) := by decide +kernel
theorem d_X2_lay_51 : decode J_X2_lay.2.1 51 = .ok (.dup, 1) := by decide +kernel
theorem d_X2_lay_52 : decode J_X2_lay.2.1 52 = .ok (.getfield 38, 3) := by decide +kernel
theorem d_X2_lay_55 : decode J_X2_lay.2.1 55 = .ok (.iconst 1, 1) := by decide +kernel
theorem d_X2_lay_56 : decode J_X2_lay.2.1 56 = .ok (.iadd, 1) := by decide +kernel
theorem d_X2_lay_57 : decode J_X2_lay.2.1 57 = .ok (.putfield 38, 3) := by decide +kernel
theorem d_X2_lay_60 : decode J_X2_lay.2.1 60 = .ok (.iload 5, 2) := by decide +kernel
theorem d_X2_lay_62 : decode J_X2_lay.2.1 62 = .ok (.iload 4, 2) := by decide +kernel
theorem d_X2_lay_64 : decode J_X2_lay.2.1 64 = .ok (.if_icmp .eq 45, 3) := by decide +kernel
theorem d_X2_lay_67 : decode J_X2_lay.2.1 67 = .ok (.iload_n 2, 1) := by decide +kernel
theorem d_X2_lay_68 : decode J_X2_lay.2.1 68 = .ok (.iconst 3, 1) := by decide +kernel
theorem d_X2_lay_69 : decode J_X2_lay.2.1 69 = .ok (.if_icmp .ne 13, 3) := by decide +kernel
theorem d_X2_lay_72 : decode J_X2_lay.2.1 72 = .ok (.iload 5, 2) := by decide +kernel
theorem d_X2_lay_74 : decode J_X2_lay.2.1 74 = .ok (.iload_n 3, 1) := by decide +kernel
theorem d_X2_lay_75 : decode J_X2_lay.2.1 75 = .ok (.if_icmp .ne 7, 3) := by decide +kernel
theorem d_X2_lay_78 : decode J_X2_lay.2.1 78 = .ok (.iconst 1, 1) := by decide +kernel
theorem d_X2_lay_79 : decode J_X2_lay.2.1 79 = .ok (.goto 4, 3) := by decide +kernel
theorem d_X2_lay_82 : decode J_X2_lay.2.1 82 = .ok (.iconst 0, 1) := by decide +kernel
theorem d_X2_lay_83 : decode J_X2_lay.2.1 83 = .ok (.istore 6, 2) := by decide +kernel
theorem d_X2_lay_85 : decode J_X2_lay.2.1 85 = .ok (.aload_n 0, 1) := by decide +kernel
theorem d_X2_lay_86 : decode J_X2_lay.2.1 86 = .ok (.aload_n 1, 1) := by decide +kernel
theorem d_X2_lay_87 : decode J_X2_lay.2.1 87 = .ok (.iload 5, 2) := by decide +kernel
theorem d_X2_lay_89 : decode J_X2_lay.2.1 89 = .ok (.iload 6, 2) := by decide +kernel
theorem d_X2_lay_91 : decode J_X2_lay.2.1 91 = .ok (.ifCond .eq 7, 3) := by decide +kernel
theorem d_X2_lay_94 : decode J_X2_lay.2.1 94 = .ok (.iconst 1, 1) := by decide +kernel
theorem d_X2_lay_95 : decode J_X2_lay.2.1 95 = .ok (.goto 11, 3) := by decide +kernel
theorem d_X2_lay_98 : decode J_X2_lay.2.1 98 = .ok (.aload_n 1, 1) := by decide +kernel
theorem d_X2_lay_99 : decode J_X2_lay.2.1 99 = .ok (.iload 5, 2) := by decide +kernel
theorem d_X2_lay_101 : decode J_X2_lay.2.1 101 = .ok (.iload 4, 2) := by decide +kernel
theorem d_X2_lay_103 : decode J_X2_lay.2.1 103 = .ok (.invokevirtual 47, 3) := by decide +kernel
theorem d_X2_lay_106 : decode J_X2_lay.2.1 106 = .ok (.invokevirtual 50, 3) := by decide +kernel
theorem d_X2_lay_109 : decode J_X2_lay.2.1 109 = .ok (.iinc 5 1, 3) := by decide +kernel
theorem d_X2_lay_112 : decode J_X2_lay.2.1 112 = .ok (.goto (-92), 3) := by decide +kernel
theorem d_X2_lay_115 : decode J_X2_lay.2.1 115 = .ok (.return_, 1) := by decide +kernel
def f_X2_lay_109 (N : Nat) (K : oK) (r20 : (Nat → Int32 → Int32 → Int32 → Int32 → oM → Option (Unit × oM))) (p1 : Nat) (p2 : Int32) (p3 : Int32) (p4 : Int32) (p5 : Int32) (M : oM) : Option (Unit × oM) :=
  (r20 p1 p2 p3 p4 (p5 + 1) M)
set_option maxRecDepth 20000 in
theorem v_X2_lay_109 {X : oX} {d N : Nat} {K : oK} {r20 : (Nat → Int32 → Int32 → Int32 → Int32 → oM → Option (Unit × oM))} {p1 : Nat} {p2 : Int32} {p3 : Int32} {p4 : Int32} {p5 : Int32} {M : oM} {v : Unit} {M' : oM}  (hd : 4 ≤ d) (hK : oSR K) (hh_p1 : oLS K p1) (hr20 : ∀ (p1 : Nat) (p2 : Int32) (p3 : Int32) (p4 : Int32) (p5 : Int32) (M : oM) (v : Unit) (M' : oM)  (hh_p1 : oLS K p1), r20 p1 p2 p3 p4 p5 M = some (v, M') → oEv X d J_X2_lay 20 [some (.ref 21), some (.ref p1), some (.int p2), some (.int p3), some (.int p4), some (.int p5), none] [] K M none K M') (h : f_X2_lay_109 N K r20 p1 p2 p3 p4 p5 M = some (v, M')) : oEv X d J_X2_lay 109 [some (.ref 21), some (.ref p1), some (.int p2), some (.int p3), some (.int p4), some (.int p5), none] [] K M none K M' := by
  unfold f_X2_lay_109 at h
  refine oe_iinc (pc := 109) (v := (p5 + 1)) (L2 := [_, _, _, _, _, _, _]) d_X2_lay_109 rfl rfl rfl (Nat.le_of_ble_eq_true rfl) rfl ?_
  refine oe_goto (pc := 112) (tgt := 20) d_X2_lay_112 (by decide) ?_
  exact hr20 _ _ _ _ _ _ _ _ hh_p1 h
def f_X2_lay_106 (N : Nat) (K : oK) (r20 : (Nat → Int32 → Int32 → Int32 → Int32 → oM → Option (Unit × oM))) (p1 : Nat) (p2 : Int32) (p3 : Int32) (p4 : Int32) (p5 : Int32) (s0 : Int32) (s1 : Int32) (s2 : Nat) (M : oM) : Option (Unit × oM) :=
  oB2 (f_X2_addStep N K s2 s1 s0 M) (fun v10 M11 => (f_X2_lay_109 N K r20 p1 p2 p3 p4 p5 M11))
set_option maxRecDepth 20000 in
theorem v_X2_lay_106 {X : oX} {d N : Nat} {K : oK} {r20 : (Nat → Int32 → Int32 → Int32 → Int32 → oM → Option (Unit × oM))} {p1 : Nat} {p2 : Int32} {p3 : Int32} {p4 : Int32} {p5 : Int32} {s0 : Int32} {s1 : Int32} {s2 : Nat} {M : oM} {v : Unit} {M' : oM}  (hd : 4 ≤ d) (hK : oSR K) (hh_p1 : oLS K p1) (hh_s2 : oLS K s2) (hr20 : ∀ (p1 : Nat) (p2 : Int32) (p3 : Int32) (p4 : Int32) (p5 : Int32) (M : oM) (v : Unit) (M' : oM)  (hh_p1 : oLS K p1), r20 p1 p2 p3 p4 p5 M = some (v, M') → oEv X d J_X2_lay 20 [some (.ref 21), some (.ref p1), some (.int p2), some (.int p3), some (.int p4), some (.int p5), none] [] K M none K M') (h : f_X2_lay_106 N K r20 p1 p2 p3 p4 p5 s0 s1 s2 M = some (v, M')) : oEv X d J_X2_lay 106 [some (.ref 21), some (.ref p1), some (.int p2), some (.int p3), some (.int p4), some (.int p5), none] [(.int s0), (.int s1), (.ref s2), (.ref 21)] K M none K M' := by
  unfold f_X2_lay_106 at h
  obtain ⟨v10, M11, q12, h⟩ := oB2_some h
  refine oe_callV (pc := 106) (ci := 2) d_X2_lay_106 (v_X2_addStep hK hh_s2 q12) (by omega) ml_X2_50 jJ_X2_addStep rfl rfl (oLt hK (a := 21) (Nat.le_of_ble_eq_true rfl)) (oSho hK (a := 21) (Nat.le_of_ble_eq_true rfl) rfl) ock2 rfl (Nat.le_of_ble_eq_true rfl) ⟨Nat.le_refl _, Nat.le_refl _⟩ ⟨Nat.le_refl _, Nat.le_refl _⟩ ?_
  exact v_X2_lay_109 hd hK hh_p1 hr20 h
def f_X2_lay_83 (N : Nat) (K : oK) (r20 : (Nat → Int32 → Int32 → Int32 → Int32 → oM → Option (Unit × oM))) (p1 : Nat) (p2 : Int32) (p3 : Int32) (p4 : Int32) (p5 : Int32) (s0 : Int32) (M : oM) : Option (Unit × oM) :=
  (if s0 = 0 then oB2 (f_X6_lines N K p1 p5 p4 M) (fun v7 M8 => (f_X2_lay_106 N K r20 p1 p2 p3 p4 p5 v7 p5 p1 M8)) else (f_X2_lay_106 N K r20 p1 p2 p3 p4 p5 1 p5 p1 M))
set_option maxRecDepth 20000 in
theorem v_X2_lay_83 {X : oX} {d N : Nat} {K : oK} {r20 : (Nat → Int32 → Int32 → Int32 → Int32 → oM → Option (Unit × oM))} {p1 : Nat} {p2 : Int32} {p3 : Int32} {p4 : Int32} {p5 : Int32} {s0 : Int32} {M : oM} {v : Unit} {M' : oM}  (hd : 4 ≤ d) (hK : oSR K) (hh_p1 : oLS K p1) (hr20 : ∀ (p1 : Nat) (p2 : Int32) (p3 : Int32) (p4 : Int32) (p5 : Int32) (M : oM) (v : Unit) (M' : oM)  (hh_p1 : oLS K p1), r20 p1 p2 p3 p4 p5 M = some (v, M') → oEv X d J_X2_lay 20 [some (.ref 21), some (.ref p1), some (.int p2), some (.int p3), some (.int p4), some (.int p5), none] [] K M none K M') (h : f_X2_lay_83 N K r20 p1 p2 p3 p4 p5 s0 M = some (v, M')) : oEv X d J_X2_lay 83 [some (.ref 21), some (.ref p1), some (.int p2), some (.int p3), some (.int p4), some (.int p5), none] [(.int s0)] K M none K M' := by
  unfold f_X2_lay_83 at h
  refine oe_istore (pc := 83) (L2 := [_, _, _, _, _, _, _]) d_X2_lay_83 rfl (Nat.le_of_ble_eq_true rfl) rfl ?_
  refine oe_aload_n (pc := 85) d_X2_lay_85 rfl ?_
  refine oe_aload_n (pc := 86) d_X2_lay_86 rfl ?_
  refine oe_iload (pc := 87) d_X2_lay_87 rfl ?_
  refine oe_iload (pc := 89) d_X2_lay_89 rfl ?_
  refine oe_if_eq (pc := 91) (tgt := 98) d_X2_lay_91 (by decide) (fun c6 => ?_) (fun c6 => ?_)
  · replace h := (if_pos c6).symm.trans h
    refine oe_aload_n (pc := 98) d_X2_lay_98 rfl ?_
    refine oe_iload (pc := 99) d_X2_lay_99 rfl ?_
    refine oe_iload (pc := 101) d_X2_lay_101 rfl ?_
    obtain ⟨v7, M8, q9, h⟩ := oB2_some h
    refine oe_callV (pc := 103) (ci := 6) d_X2_lay_103 (v_X6_lines hK hh_p1 q9) (by omega) ml_X2_47 jJ_X6_lines rfl rfl (oLSa hh_p1 (j := 0) (Nat.le_of_ble_eq_true rfl)) (oLSo hh_p1) ock6 rfl (Nat.le_of_ble_eq_true rfl) ⟨Nat.le_refl _, Nat.le_refl _⟩ ⟨Nat.le_refl _, Nat.le_refl _⟩ ?_
    refine oEv.fg [true, true, true, true, true, true, false] ?_
    exact v_X2_lay_106 hd hK hh_p1 hh_p1 hr20 h
  · replace h := (if_neg c6).symm.trans h
    refine oe_iconst (pc := 94) (v := 1) d_X2_lay_94 rfl ?_
    refine oe_goto (pc := 95) (tgt := 106) d_X2_lay_95 (by decide) ?_
    refine oEv.fg [true, true, true, true, true, true, false] ?_
    exact v_X2_lay_106 hd hK hh_p1 hh_p1 hr20 h
def f_X2_lay_82 (N : Nat) (K : oK) (r20 : (Nat → Int32 → Int32 → Int32 → Int32 → oM → Option (Unit × oM))) (p1 : Nat) (p2 : Int32) (p3 : Int32) (p4 : Int32) (p5 : Int32) (M : oM) : Option (Unit × oM) :=
  (f_X2_lay_83 N K r20 p1 p2 p3 p4 p5 0 M)
set_option maxRecDepth 20000 in
theorem v_X2_lay_82 {X : oX} {d N : Nat} {K : oK} {r20 : (Nat → Int32 → Int32 → Int32 → Int32 → oM → Option (Unit × oM))} {p1 : Nat} {p2 : Int32} {p3 : Int32} {p4 : Int32} {p5 : Int32} {M : oM} {v : Unit} {M' : oM}  (hd : 4 ≤ d) (hK : oSR K) (hh_p1 : oLS K p1) (hr20 : ∀ (p1 : Nat) (p2 : Int32) (p3 : Int32) (p4 : Int32) (p5 : Int32) (M : oM) (v : Unit) (M' : oM)  (hh_p1 : oLS K p1), r20 p1 p2 p3 p4 p5 M = some (v, M') → oEv X d J_X2_lay 20 [some (.ref 21), some (.ref p1), some (.int p2), some (.int p3), some (.int p4), some (.int p5), none] [] K M none K M') (h : f_X2_lay_82 N K r20 p1 p2 p3 p4 p5 M = some (v, M')) : oEv X d J_X2_lay 82 [some (.ref 21), some (.ref p1), some (.int p2), some (.int p3), some (.int p4), some (.int p5), none] [] K M none K M' := by
  unfold f_X2_lay_82 at h
  refine oe_iconst (pc := 82) (v := 0) d_X2_lay_82 rfl ?_
  exact v_X2_lay_83 hd hK hh_p1 hr20 h
def f_X2_lay_60 (N : Nat) (K : oK) (r20 : (Nat → Int32 → Int32 → Int32 → Int32 → oM → Option (Unit × oM))) (p1 : Nat) (p2 : Int32) (p3 : Int32) (p4 : Int32) (p5 : Int32) (M : oM) : Option (Unit × oM) :=
  (if p5 = p4 then (f_X2_lay_109 N K r20 p1 p2 p3 p4 p5 M) else (if p2 = 3 then (if p5 = p3 then (f_X2_lay_83 N K r20 p1 p2 p3 p4 p5 1 M) else (f_X2_lay_82 N K r20 p1 p2 p3 p4 p5 M)) else (f_X2_lay_82 N K r20 p1 p2 p3 p4 p5 M)))
set_option maxRecDepth 20000 in
theorem v_X2_lay_60 {X : oX} {d N : Nat} {K : oK} {r20 : (Nat → Int32 → Int32 → Int32 → Int32 → oM → Option (Unit × oM))} {p1 : Nat} {p2 : Int32} {p3 : Int32} {p4 : Int32} {p5 : Int32} {M : oM} {v : Unit} {M' : oM}  (hd : 4 ≤ d) (hK : oSR K) (hh_p1 : oLS K p1) (hr20 : ∀ (p1 : Nat) (p2 : Int32) (p3 : Int32) (p4 : Int32) (p5 : Int32) (M : oM) (v : Unit) (M' : oM)  (hh_p1 : oLS K p1), r20 p1 p2 p3 p4 p5 M = some (v, M') → oEv X d J_X2_lay 20 [some (.ref 21), some (.ref p1), some (.int p2), some (.int p3), some (.int p4), some (.int p5), none] [] K M none K M') (h : f_X2_lay_60 N K r20 p1 p2 p3 p4 p5 M = some (v, M')) : oEv X d J_X2_lay 60 [some (.ref 21), some (.ref p1), some (.int p2), some (.int p3), some (.int p4), some (.int p5), none] [] K M none K M' := by
  unfold f_X2_lay_60 at h
  refine oe_iload (pc := 60) d_X2_lay_60 rfl ?_
  refine oe_iload (pc := 62) d_X2_lay_62 rfl ?_
  refine oe_icmp_eq (pc := 64) (tgt := 109) d_X2_lay_64 (by decide) (fun c4 => ?_) (fun c4 => ?_)
  · replace h := (if_pos c4).symm.trans h
    exact v_X2_lay_109 hd hK hh_p1 hr20 h
  · replace h := (if_neg c4).symm.trans h
    refine oe_iload_n (pc := 67) d_X2_lay_67 rfl ?_
    refine oe_iconst (pc := 68) (v := 3) d_X2_lay_68 rfl ?_
    refine oe_icmp_ne (pc := 69) (tgt := 82) d_X2_lay_69 (by decide) (fun c5 => ?_) (fun c5 => ?_)
    · replace h := (if_neg c5).symm.trans h
      exact v_X2_lay_82 hd hK hh_p1 hr20 h
    · replace h := (if_pos c5).symm.trans h
      refine oe_iload (pc := 72) d_X2_lay_72 rfl ?_
      refine oe_iload_n (pc := 74) d_X2_lay_74 rfl ?_
      refine oe_icmp_ne (pc := 75) (tgt := 82) d_X2_lay_75 (by decide) (fun c13 => ?_) (fun c13 => ?_)
      · replace h := (if_neg c13).symm.trans h
        exact v_X2_lay_82 hd hK hh_p1 hr20 h
      · replace h := (if_pos c13).symm.trans h
        refine oe_iconst (pc := 78) (v := 1) d_X2_lay_78 rfl ?_
        refine oe_goto (pc := 79) (tgt := 83) d_X2_lay_79 (by decide) ?_
        exact v_X2_lay_83 hd hK hh_p1 hr20 h
def f_X2_lay_20 (N : Nat) (K : oK)  : Nat → Nat → Int32 → Int32 → Int32 → Int32 → oM → Option (Unit × oM)
  | 0, _, _, _, _, _, _ => none
  | n + 1, p1, p2, p3, p4, p5, M => (fun r20 => (if (M.1 p1 7) ≤ p5 then some ((), M) else (if p2 = 2 then (if p5 = p3 then oIx ((M.1 21 8)) 25 ((f_X2_lay_60 N K r20 p1 p2 p3 p4 p5 (oUp (oUp M 22 ((M.1 21 8) : Int32).toNatClampNeg (2 : Int32)) 21 8 (((oUp M 22 ((M.1 21 8) : Int32).toNatClampNeg (2 : Int32)).1 21 8) + 1)))) else (f_X2_lay_60 N K r20 p1 p2 p3 p4 p5 M)) else (f_X2_lay_60 N K r20 p1 p2 p3 p4 p5 M)))) (f_X2_lay_20 N K  n)
set_option maxRecDepth 20000 in
theorem v_X2_lay_20_L {X : oX} {d N : Nat} {K : oK}  (hd : 4 ≤ d) (hK : oSR K)  : ∀ (n : Nat) (p1 : Nat) (p2 : Int32) (p3 : Int32) (p4 : Int32) (p5 : Int32) (M : oM) (v : Unit) (M' : oM)  (hh_p1 : oLS K p1), f_X2_lay_20 N K  n p1 p2 p3 p4 p5 M = some (v, M') → oEv X d J_X2_lay 20 [some (.ref 21), some (.ref p1), some (.int p2), some (.int p3), some (.int p4), some (.int p5), none] [] K M none K M' := by
  intro n
  induction n with
  | zero =>
    intro p1 p2 p3 p4 p5 M v M'  hh_p1 h
    cases h
  | succ n hr20 =>
    intro p1 p2 p3 p4 p5 M v M'  hh_p1 h
    refine oe_iload (pc := 20) d_X2_lay_20 rfl ?_
    refine oe_aload_n (pc := 22) d_X2_lay_22 rfl ?_
    refine oe_getf (pc := 23) d_X2_lay_23 fl_X2_42 ock6 (k := 7) (Nat.le_of_ble_eq_true rfl) rfl (oLSa hh_p1 (j := 0) (Nat.le_of_ble_eq_true rfl)) (oLSo hh_p1) ?_
    refine oe_icmp_ge (pc := 26) (tgt := 115) d_X2_lay_26 (by decide) (fun c2 => ?_) (fun c2 => ?_)
    · replace h := (if_pos c2).symm.trans h
      obtain ⟨rfl, rfl⟩ := oRes h
      exact oe_vret (pc := 115) d_X2_lay_115 rfl
    · replace h := (if_neg c2).symm.trans h
      refine oe_iload_n (pc := 29) d_X2_lay_29 rfl ?_
      refine oe_iconst (pc := 30) (v := 2) d_X2_lay_30 rfl ?_
      refine oe_icmp_ne (pc := 31) (tgt := 60) d_X2_lay_31 (by decide) (fun c3 => ?_) (fun c3 => ?_)
      · replace h := (if_neg c3).symm.trans h
        exact v_X2_lay_60 hd hK hh_p1 hr20 h
      · replace h := (if_pos c3).symm.trans h
        refine oe_iload (pc := 34) d_X2_lay_34 rfl ?_
        refine oe_iload_n (pc := 36) d_X2_lay_36 rfl ?_
        refine oe_icmp_ne (pc := 37) (tgt := 60) d_X2_lay_37 (by decide) (fun c14 => ?_) (fun c14 => ?_)
        · replace h := (if_neg c14).symm.trans h
          exact v_X2_lay_60 hd hK hh_p1 hr20 h
        · replace h := (if_pos c14).symm.trans h
          refine oe_aload_n (pc := 40) d_X2_lay_40 rfl ?_
          refine oe_getr (pc := 41) d_X2_lay_41 fl_X2_11 ock2 (k := 2) (b := 22) (Nat.le_of_ble_eq_true rfl) (by decide) (oLt hK (a := 21) (Nat.le_of_ble_eq_true rfl)) (oSho hK (a := 21) (Nat.le_of_ble_eq_true rfl) rfl) (oRfK hK rfl) ?_
          refine oe_aload_n (pc := 44) d_X2_lay_44 rfl ?_
          refine oe_getf (pc := 45) d_X2_lay_45 fl_X2_38 ock2 (k := 8) (Nat.le_of_ble_eq_true rfl) rfl (oLt hK (a := 21) (Nat.le_of_ble_eq_true rfl)) (oSho hK (a := 21) (Nat.le_of_ble_eq_true rfl) rfl) ?_
          refine oe_iconst (pc := 48) (v := 2) d_X2_lay_48 rfl ?_
          obtain ⟨i15, h⟩ := oIx_some h
          refine oe_iast (pc := 49) d_X2_lay_49 (oLt hK (a := 22) (Nat.le_of_ble_eq_true rfl)) (oSha hK (a := 22) (Nat.le_of_ble_eq_true rfl) rfl) i15 ?_
          refine oe_aload_n (pc := 50) d_X2_lay_50 rfl ?_
          refine oe_dup (pc := 51) d_X2_lay_51 rfl ?_
          refine oe_getf (pc := 52) d_X2_lay_52 fl_X2_38 ock2 (k := 8) (Nat.le_of_ble_eq_true rfl) rfl (oLt hK (a := 21) (Nat.le_of_ble_eq_true rfl)) (oSho hK (a := 21) (Nat.le_of_ble_eq_true rfl) rfl) ?_
          refine oe_iconst (pc := 55) (v := 1) d_X2_lay_55 rfl ?_
          refine oe_iadd (pc := 56) d_X2_lay_56 ?_
          refine oe_putf (pc := 57) d_X2_lay_57 fl_X2_38 ock2 (k := 8) (Nat.le_of_ble_eq_true rfl) rfl rfl (oLt hK (a := 21) (Nat.le_of_ble_eq_true rfl)) (oSho hK (a := 21) (Nat.le_of_ble_eq_true rfl) rfl) ?_
          exact v_X2_lay_60 hd hK hh_p1 hr20 h
theorem v_X2_lay_20 {X : oX} {d N : Nat} {K : oK}  {p1 : Nat} {p2 : Int32} {p3 : Int32} {p4 : Int32} {p5 : Int32} {M : oM} {v : Unit} {M' : oM}  (hd : 4 ≤ d) (hK : oSR K) (hh_p1 : oLS K p1)  (h : f_X2_lay_20 N K  N p1 p2 p3 p4 p5 M = some (v, M')) : oEv X d J_X2_lay 20 [some (.ref 21), some (.ref p1), some (.int p2), some (.int p3), some (.int p4), some (.int p5), none] [] K M none K M' := v_X2_lay_20_L hd hK  N p1 p2 p3 p4 p5 M v M'  hh_p1 h
def f_X2_lay_10 (N : Nat) (K : oK)  (p1 : Nat) (p2 : Int32) (p3 : Int32) (s0 : Int32) (M : oM) : Option (Unit × oM) :=
  (f_X2_lay_20 N K  N p1 p2 p3 s0 0 (oUp M 21 8 (0 : Int32)))
set_option maxRecDepth 20000 in
theorem v_X2_lay_10 {X : oX} {d N : Nat} {K : oK}  {p1 : Nat} {p2 : Int32} {p3 : Int32} {s0 : Int32} {M : oM} {v : Unit} {M' : oM}  (hd : 4 ≤ d) (hK : oSR K) (hh_p1 : oLS K p1)  (h : f_X2_lay_10 N K  p1 p2 p3 s0 M = some (v, M')) : oEv X d J_X2_lay 10 [some (.ref 21), some (.ref p1), some (.int p2), some (.int p3), none, none, none] [(.int s0)] K M none K M' := by
  unfold f_X2_lay_10 at h
  refine oe_istore (pc := 10) (L2 := [_, _, _, _, _, _, _]) d_X2_lay_10 rfl (Nat.le_of_ble_eq_true rfl) rfl ?_
  refine oe_aload_n (pc := 12) d_X2_lay_12 rfl ?_
  refine oe_iconst (pc := 13) (v := 0) d_X2_lay_13 rfl ?_
  refine oe_putf (pc := 14) d_X2_lay_14 fl_X2_38 ock2 (k := 8) (Nat.le_of_ble_eq_true rfl) rfl rfl (oLt hK (a := 21) (Nat.le_of_ble_eq_true rfl)) (oSho hK (a := 21) (Nat.le_of_ble_eq_true rfl) rfl) ?_
  refine oe_iconst (pc := 17) (v := 0) d_X2_lay_17 rfl ?_
  refine oe_istore (pc := 18) (L2 := [_, _, _, _, _, _, _]) d_X2_lay_18 rfl (Nat.le_of_ble_eq_true rfl) rfl ?_
  exact v_X2_lay_20 hd hK hh_p1  h
def f_X2_lay (N : Nat) (K : oK) (p1 : Nat) (p2 : Int32) (p3 : Int32) (M : oM) : Option (Unit × oM) :=
  (if p2 = 1 then (f_X2_lay_10 N K  p1 p2 p3 p3 M) else (f_X2_lay_10 N K  p1 p2 p3 (-1) M))
set_option maxRecDepth 20000 in
theorem v_X2_lay {X : oX} {N : Nat} {K : oK} {p1 : Nat} {p2 : Int32} {p3 : Int32} {M : oM} {v : Unit} {M' : oM} (hK : oSR K) (hh_p1 : oLS K p1) (h : f_X2_lay N K p1 p2 p3 M = some (v, M')) : oMet X 4 J_X2_lay [(.ref 21), (.ref p1), (.int p2), (.int p3)] K M none K M' := by
  unfold f_X2_lay at h
  refine oMet_of (L := [some (.ref 21), some (.ref p1), some (.int p2), some (.int p3), none, none, none]) jJ_X2_lay.1 rfl (Nat.le_of_ble_eq_true rfl) rfl (Nat.le_refl _) (Nat.le_refl _) ?_
  have hd : 4 ≤ 4 := Nat.le_refl _
  refine oe_iload_n (pc := 0) d_X2_lay_0 rfl ?_
  refine oe_iconst (pc := 1) (v := 1) d_X2_lay_1 rfl ?_
  refine oe_icmp_ne (pc := 2) (tgt := 9) d_X2_lay_2 (by decide) (fun c1 => ?_) (fun c1 => ?_)
  · replace h := (if_neg c1).symm.trans h
    refine oe_iconst (pc := 9) (v := (-1)) d_X2_lay_9 rfl ?_
    exact v_X2_lay_10 hd hK hh_p1  h
  · replace h := (if_pos c1).symm.trans h
    refine oe_iload_n (pc := 5) d_X2_lay_5 rfl ?_
    refine oe_goto (pc := 6) (tgt := 10) d_X2_lay_6 (by decide) ?_
    exact v_X2_lay_10 hd hK hh_p1  h
theorem d_X3_between_0 : decode J_X3_between.2.1 0 = .ok (.iload_n 1, 1) := by decide +kernel
theorem d_X3_between_1 : decode J_X3_between.2.1 1 = .ok (.bipush 13, 2) := by decide +kernel
theorem d_X3_between_3 : decode J_X3_between.2.1 3 = .ok (.imul, 1) := by decide +kernel
theorem d_X3_between_4 : decode J_X3_between.2.1 4 = .ok (.istore_n 3, 1) := by decide +kernel
theorem d_X3_between_5 : decode J_X3_between.2.1 5 = .ok (.aload_n 0, 1) := by decide +kernel
theorem d_X3_between_6 : decode J_X3_between.2.1 6 = .ok (.getfield 25, 3) := by decide +kernel
theorem d_X3_between_9 : decode J_X3_between.2.1 9 = .ok (.iload_n 1, 1) := by decide +kernel
theorem d_X3_between_10 : decode J_X3_between.2.1 10 = .ok (.iaload, 1) := by decide +kernel
theorem d_X3_between_11 : decode J_X3_between.2.1 11 = .ok (.iconst 1, 1) := by decide +kernel
theorem d_X3_between_12 : decode J_X3_between.2.1 12 = .ok (.isub, 1) := by decide +kernel
theorem d_X3_between_13 : decode J_X3_between.2.1 13 = .ok (.istore 4, 2) := by decide +kernel
theorem d_X3_between_15 : decode J_X3_between.2.1 15 = .ok (.iload_n 2, 1) := by decide +kernel
theorem d_X3_between_16 : decode J_X3_between.2.1 16 = .ok (.bipush 50, 2) := by decide +kernel
theorem d_X3_between_18 : decode J_X3_between.2.1 18 = .ok (.idiv, 1) := by decide +kernel
theorem d_X3_between_19 : decode J_X3_between.2.1 19 = .ok (.istore 5, 2) := by decide +kernel
theorem d_X3_between_21 : decode J_X3_between.2.1 21 = .ok (.iload 5, 2) := by decide +kernel
theorem d_X3_between_23 : decode J_X3_between.2.1 23 = .ok (.iload 4, 2) := by decide +kernel
theorem d_X3_between_25 : decode J_X3_between.2.1 25 = .ok (.if_icmp .lt 13, 3) := by decide +kernel
theorem d_X3_between_28 : decode J_X3_between.2.1 28 = .ok (.aload_n 0, 1) := by decide +kernel
theorem d_X3_between_29 : decode J_X3_between.2.1 29 = .ok (.getfield 22, 3) := by decide +kernel
theorem d_X3_between_32 : decode J_X3_between.2.1 32 = .ok (.iload_n 3, 1) := by decide +kernel
theorem d_X3_between_33 : decode J_X3_between.2.1 33 = .ok (.iload 4, 2) := by decide +kernel
theorem d_X3_between_35 : decode J_X3_between.2.1 35 = .ok (.iadd, 1) := by decide +kernel
theorem d_X3_between_36 : decode J_X3_between.2.1 36 = .ok (.iaload, 1) := by decide +kernel
theorem d_X3_between_37 : decode J_X3_between.2.1 37 = .ok (.ireturn, 1) := by decide +kernel
theorem d_X3_between_38 : decode J_X3_between.2.1 38 = .ok (.iload_n 2, 1) := by decide +kernel
theorem d_X3_between_39 : decode J_X3_between.2.1 39 = .ok (.bipush 50, 2) := by decide +kernel
theorem d_X3_between_41 : decode J_X3_between.2.1 41 = .ok (.irem, 1) := by decide +kernel
theorem d_X3_between_42 : decode J_X3_between.2.1 42 = .ok (.istore 6, 2) := by decide +kernel
theorem d_X3_between_44 : decode J_X3_between.2.1 44 = .ok (.aload_n 0, 1) := by decide +kernel
theorem d_X3_between_45 : decode J_X3_between.2.1 45 = .ok (.getfield 22, 3) := by decide +kernel
theorem d_X3_between_48 : decode J_X3_between.2.1 48 = .ok (.iload_n 3, 1) := by decide +kernel
theorem d_X3_between_49 : decode J_X3_between.2.1 49 = .ok (.iload 5, 2) := by decide +kernel
theorem d_X3_between_51 : decode J_X3_between.2.1 51 = .ok (.iadd, 1) := by decide +kernel
theorem d_X3_between_52 : decode J_X3_between.2.1 52 = .ok (.iaload, 1) := by decide +kernel
theorem d_X3_between_53 : decode J_X3_between.2.1 53 = .ok (.bipush 50, 2) := by decide +kernel
theorem d_X3_between_55 : decode J_X3_between.2.1 55 = .ok (.iload 6, 2) := by decide +kernel
theorem d_X3_between_57 : decode J_X3_between.2.1 57 = .ok (.isub, 1) := by decide +kernel
theorem d_X3_between_58 : decode J_X3_between.2.1 58 = .ok (.imul, 1) := by decide +kernel
theorem d_X3_between_59 : decode J_X3_between.2.1 59 = .ok (.aload_n 0, 1) := by decide +kernel
theorem d_X3_between_60 : decode J_X3_between.2.1 60 = .ok (.getfield 22, 3) := by decide +kernel
theorem d_X3_between_63 : decode J_X3_between.2.1 63 = .ok (.iload_n 3, 1) := by decide +kernel
theorem d_X3_between_64 : decode J_X3_between.2.1 64 = .ok (.iload 5, 2) := by decide +kernel
theorem d_X3_between_66 : decode J_X3_between.2.1 66 = .ok (.iadd, 1) := by decide +kernel
theorem d_X3_between_67 : decode J_X3_between.2.1 67 = .ok (.iconst 1, 1) := by decide +kernel
theorem d_X3_between_68 : decode J_X3_between.2.1 68 = .ok (.iadd, 1) := by decide +kernel
theorem d_X3_between_69 : decode J_X3_between.2.1 69 = .ok (.iaload, 1) := by decide +kernel
theorem d_X3_between_70 : decode J_X3_between.2.1 70 = .ok (.iload 6, 2) := by decide +kernel
theorem d_X3_between_72 : decode J_X3_between.2.1 72 = .ok (.imul, 1) := by decide +kernel
theorem d_X3_between_73 : decode J_X3_between.2.1 73 = .ok (.iadd, 1) := by decide +kernel
theorem d_X3_between_74 : decode J_X3_between.2.1 74 = .ok (.bipush 50, 2) := by decide +kernel
theorem d_X3_between_76 : decode J_X3_between.2.1 76 = .ok (.idiv, 1) := by decide +kernel
theorem d_X3_between_77 : decode J_X3_between.2.1 77 = .ok (.ireturn, 1) := by decide +kernel
def f_X3_between (N : Nat) (K : oK) (p1 : Int32) (p2 : Int32) (M : oM) : Option (Int32 × oM) :=
  oIx (p1) 9 ((if (p2 / 50) < ((M.1 16 (p1 : Int32).toNatClampNeg) - 1) then oIx (((p1 * 13) + (p2 / 50))) 117 (oIx ((((p1 * 13) + (p2 / 50)) + 1)) 117 (some (((((M.1 15 (((p1 * 13) + (p2 / 50)) : Int32).toNatClampNeg) * ((50 : Int32) - (p2 - p2 / 50 * 50))) + ((M.1 15 ((((p1 * 13) + (p2 / 50)) + 1) : Int32).toNatClampNeg) * (p2 - p2 / 50 * 50))) / 50), M))) else oIx (((p1 * 13) + ((M.1 16 (p1 : Int32).toNatClampNeg) - 1))) 117 (some ((M.1 15 (((p1 * 13) + ((M.1 16 (p1 : Int32).toNatClampNeg) - 1)) : Int32).toNatClampNeg), M))))
set_option maxRecDepth 20000 in
theorem v_X3_between {X : oX} {N : Nat} {K : oK} {p1 : Int32} {p2 : Int32} {M : oM} {v : Int32} {M' : oM} (hK : oSR K)  (h : f_X3_between N K p1 p2 M = some (v, M')) : oMet X 1 J_X3_between [(.ref 11), (.int p1), (.int p2)] K M (some (.int v)) K M' := by
  unfold f_X3_between at h
  refine oMet_of (L := [some (.ref 11), some (.int p1), some (.int p2), none, none, none, none]) jJ_X3_between.1 rfl (Nat.le_of_ble_eq_true rfl) rfl (Nat.le_refl _) (Nat.le_refl _) ?_
  have hd : 1 ≤ 1 := Nat.le_refl _
  refine oe_iload_n (pc := 0) d_X3_between_0 rfl ?_
  refine oe_bipush (pc := 1) (v := 13) d_X3_between_1 rfl ?_
  refine oe_imul (pc := 3) d_X3_between_3 ?_
  refine oe_istore_n (pc := 4) (L2 := [_, _, _, _, _, _, _]) d_X3_between_4 rfl rfl (Nat.le_of_ble_eq_true rfl) rfl ?_
  refine oe_aload_n (pc := 5) d_X3_between_5 rfl ?_
  refine oe_getr (pc := 6) d_X3_between_6 fl_X3_25 ock3 (k := 5) (b := 16) (Nat.le_of_ble_eq_true rfl) (by decide) (oLt hK (a := 11) (Nat.le_of_ble_eq_true rfl)) (oSho hK (a := 11) (Nat.le_of_ble_eq_true rfl) rfl) (oRfK hK rfl) ?_
  refine oe_iload_n (pc := 9) d_X3_between_9 rfl ?_
  obtain ⟨i1, h⟩ := oIx_some h
  refine oe_iald (pc := 10) d_X3_between_10 (oLt hK (a := 16) (Nat.le_of_ble_eq_true rfl)) (oSha hK (a := 16) (Nat.le_of_ble_eq_true rfl) rfl) i1 ?_
  refine oe_iconst (pc := 11) (v := 1) d_X3_between_11 rfl ?_
  refine oe_isub (pc := 12) d_X3_between_12 ?_
  refine oe_istore (pc := 13) (L2 := [_, _, _, _, _, _, _]) d_X3_between_13 rfl (Nat.le_of_ble_eq_true rfl) rfl ?_
  refine oe_iload_n (pc := 15) d_X3_between_15 rfl ?_
  refine oe_bipush (pc := 16) (v := 50) d_X3_between_16 rfl ?_
  refine oe_idiv (pc := 18) d_X3_between_18 (by decide) ?_
  refine oe_istore (pc := 19) (L2 := [_, _, _, _, _, _, _]) d_X3_between_19 rfl (Nat.le_of_ble_eq_true rfl) rfl ?_
  refine oe_iload (pc := 21) d_X3_between_21 rfl ?_
  refine oe_iload (pc := 23) d_X3_between_23 rfl ?_
  refine oe_icmp_lt (pc := 25) (tgt := 38) d_X3_between_25 (by decide) (fun c2 => ?_) (fun c2 => ?_)
  · replace h := (if_pos c2).symm.trans h
    refine oe_iload_n (pc := 38) d_X3_between_38 rfl ?_
    refine oe_bipush (pc := 39) (v := 50) d_X3_between_39 rfl ?_
    refine oe_irem (pc := 41) d_X3_between_41 (by decide) ?_
    refine oe_istore (pc := 42) (L2 := [_, _, _, _, _, _, _]) d_X3_between_42 rfl (Nat.le_of_ble_eq_true rfl) rfl ?_
    refine oe_aload_n (pc := 44) d_X3_between_44 rfl ?_
    refine oe_getr (pc := 45) d_X3_between_45 fl_X3_22 ock3 (k := 4) (b := 15) (Nat.le_of_ble_eq_true rfl) (by decide) (oLt hK (a := 11) (Nat.le_of_ble_eq_true rfl)) (oSho hK (a := 11) (Nat.le_of_ble_eq_true rfl) rfl) (oRfK hK rfl) ?_
    refine oe_iload_n (pc := 48) d_X3_between_48 rfl ?_
    refine oe_iload (pc := 49) d_X3_between_49 rfl ?_
    refine oe_iadd (pc := 51) d_X3_between_51 ?_
    obtain ⟨i3, h⟩ := oIx_some h
    refine oe_iald (pc := 52) d_X3_between_52 (oLt hK (a := 15) (Nat.le_of_ble_eq_true rfl)) (oSha hK (a := 15) (Nat.le_of_ble_eq_true rfl) rfl) i3 ?_
    refine oe_bipush (pc := 53) (v := 50) d_X3_between_53 rfl ?_
    refine oe_iload (pc := 55) d_X3_between_55 rfl ?_
    refine oe_isub (pc := 57) d_X3_between_57 ?_
    refine oe_imul (pc := 58) d_X3_between_58 ?_
    refine oe_aload_n (pc := 59) d_X3_between_59 rfl ?_
    refine oe_getr (pc := 60) d_X3_between_60 fl_X3_22 ock3 (k := 4) (b := 15) (Nat.le_of_ble_eq_true rfl) (by decide) (oLt hK (a := 11) (Nat.le_of_ble_eq_true rfl)) (oSho hK (a := 11) (Nat.le_of_ble_eq_true rfl) rfl) (oRfK hK rfl) ?_
    refine oe_iload_n (pc := 63) d_X3_between_63 rfl ?_
    refine oe_iload (pc := 64) d_X3_between_64 rfl ?_
    refine oe_iadd (pc := 66) d_X3_between_66 ?_
    refine oe_iconst (pc := 67) (v := 1) d_X3_between_67 rfl ?_
    refine oe_iadd (pc := 68) d_X3_between_68 ?_
    obtain ⟨i4, h⟩ := oIx_some h
    refine oe_iald (pc := 69) d_X3_between_69 (oLt hK (a := 15) (Nat.le_of_ble_eq_true rfl)) (oSha hK (a := 15) (Nat.le_of_ble_eq_true rfl) rfl) i4 ?_
    refine oe_iload (pc := 70) d_X3_between_70 rfl ?_
    refine oe_imul (pc := 72) d_X3_between_72 ?_
    refine oe_iadd (pc := 73) d_X3_between_73 ?_
    refine oe_bipush (pc := 74) (v := 50) d_X3_between_74 rfl ?_
    refine oe_idiv (pc := 76) d_X3_between_76 (by decide) ?_
    obtain ⟨rfl, rfl⟩ := oRes h
    exact oe_iret (pc := 77) d_X3_between_77 ⟨_, rfl, rfl⟩
  · replace h := (if_neg c2).symm.trans h
    refine oe_aload_n (pc := 28) d_X3_between_28 rfl ?_
    refine oe_getr (pc := 29) d_X3_between_29 fl_X3_22 ock3 (k := 4) (b := 15) (Nat.le_of_ble_eq_true rfl) (by decide) (oLt hK (a := 11) (Nat.le_of_ble_eq_true rfl)) (oSho hK (a := 11) (Nat.le_of_ble_eq_true rfl) rfl) (oRfK hK rfl) ?_
    refine oe_iload_n (pc := 32) d_X3_between_32 rfl ?_
    refine oe_iload (pc := 33) d_X3_between_33 rfl ?_
    refine oe_iadd (pc := 35) d_X3_between_35 ?_
    obtain ⟨i5, h⟩ := oIx_some h
    refine oe_iald (pc := 36) d_X3_between_36 (oLt hK (a := 15) (Nat.le_of_ble_eq_true rfl)) (oSha hK (a := 15) (Nat.le_of_ble_eq_true rfl) rfl) i5 ?_
    obtain ⟨rfl, rfl⟩ := oRes h
    exact oe_iret (pc := 37) d_X3_between_37 ⟨_, rfl, rfl⟩
theorem d_X3_lifted_0 : decode J_X3_lifted.2.1 0 = .ok (.iconst 3, 1) := by decide +kernel
theorem d_X3_lifted_1 : decode J_X3_lifted.2.1 1 = .ok (.iload_n 1, 1) := by decide +kernel
theorem d_X3_lifted_2 : decode J_X3_lifted.2.1 2 = .ok (.iadd, 1) := by decide +kernel
theorem d_X3_lifted_3 : decode J_X3_lifted.2.1 3 = .ok (.istore_n 3, 1) := by decide +kernel
theorem d_X3_lifted_4 : decode J_X3_lifted.2.1 4 = .ok (.aload_n 0, 1) := by decide +kernel
theorem d_X3_lifted_5 : decode J_X3_lifted.2.1 5 = .ok (.getfield 25, 3) := by decide +kernel
theorem d_X3_lifted_8 : decode J_X3_lifted.2.1 8 = .ok (.iload_n 3, 1) := by decide +kernel
theorem d_X3_lifted_9 : decode J_X3_lifted.2.1 9 = .ok (.iaload, 1) := by decide +kernel
theorem d_X3_lifted_10 : decode J_X3_lifted.2.1 10 = .ok (.ifCond .ne 18, 3) := by decide +kernel
theorem d_X3_lifted_13 : decode J_X3_lifted.2.1 13 = .ok (.iconst 0, 1) := by decide +kernel
theorem d_X3_lifted_14 : decode J_X3_lifted.2.1 14 = .ok (.sipush 10000, 3) := by decide +kernel
theorem d_X3_lifted_17 : decode J_X3_lifted.2.1 17 = .ok (.bipush 10, 2) := by decide +kernel
theorem d_X3_lifted_19 : decode J_X3_lifted.2.1 19 = .ok (.iload_n 2, 1) := by decide +kernel
theorem d_X3_lifted_20 : decode J_X3_lifted.2.1 20 = .ok (.imul, 1) := by decide +kernel
theorem d_X3_lifted_21 : decode J_X3_lifted.2.1 21 = .ok (.isub, 1) := by decide +kernel
theorem d_X3_lifted_22 : decode J_X3_lifted.2.1 22 = .ok (.invokestatic 52, 3) := by decide +kernel
theorem d_X3_lifted_25 : decode J_X3_lifted.2.1 25 = .ok (.goto 9, 3) := by decide +kernel
theorem d_X3_lifted_28 : decode J_X3_lifted.2.1 28 = .ok (.aload_n 0, 1) := by decide +kernel
theorem d_X3_lifted_29 : decode J_X3_lifted.2.1 29 = .ok (.iload_n 3, 1) := by decide +kernel
theorem d_X3_lifted_30 : decode J_X3_lifted.2.1 30 = .ok (.iload_n 2, 1) := by decide +kernel
theorem d_X3_lifted_31 : decode J_X3_lifted.2.1 31 = .ok (.invokevirtual 42, 3) := by decide +kernel
theorem d_X3_lifted_34 : decode J_X3_lifted.2.1 34 = .ok (.ireturn, 1) := by decide +kernel
def f_X3_lifted (N : Nat) (K : oK) (p1 : Int32) (p2 : Int32) (M : oM) : Option (Int32 × oM) :=
  oIx (((3 : Int32) + p1)) 9 ((if (M.1 16 (((3 : Int32) + p1) : Int32).toNatClampNeg) = 0 then some ((if (0 : Int32) < ((10000 : Int32) - ((10 : Int32) * p2)) then ((10000 : Int32) - ((10 : Int32) * p2)) else (0 : Int32)), M) else oB2 (f_X3_between N K ((3 : Int32) + p1) p2 M) (fun v3 M4 => some (v3, M4))))
set_option maxRecDepth 20000 in
theorem v_X3_lifted {X : oX} {N : Nat} {K : oK} {p1 : Int32} {p2 : Int32} {M : oM} {v : Int32} {M' : oM} (hK : oSR K)  (h : f_X3_lifted N K p1 p2 M = some (v, M')) : oMet X 2 J_X3_lifted [(.ref 11), (.int p1), (.int p2)] K M (some (.int v)) K M' := by
  unfold f_X3_lifted at h
  refine oMet_of (L := [some (.ref 11), some (.int p1), some (.int p2), none]) jJ_X3_lifted.1 rfl (Nat.le_of_ble_eq_true rfl) rfl (Nat.le_refl _) (Nat.le_refl _) ?_
  have hd : 2 ≤ 2 := Nat.le_refl _
  refine oe_iconst (pc := 0) (v := 3) d_X3_lifted_0 rfl ?_
  refine oe_iload_n (pc := 1) d_X3_lifted_1 rfl ?_
  refine oe_iadd (pc := 2) d_X3_lifted_2 ?_
  refine oe_istore_n (pc := 3) (L2 := [_, _, _, _]) d_X3_lifted_3 rfl rfl (Nat.le_of_ble_eq_true rfl) rfl ?_
  refine oe_aload_n (pc := 4) d_X3_lifted_4 rfl ?_
  refine oe_getr (pc := 5) d_X3_lifted_5 fl_X3_25 ock3 (k := 5) (b := 16) (Nat.le_of_ble_eq_true rfl) (by decide) (oLt hK (a := 11) (Nat.le_of_ble_eq_true rfl)) (oSho hK (a := 11) (Nat.le_of_ble_eq_true rfl) rfl) (oRfK hK rfl) ?_
  refine oe_iload_n (pc := 8) d_X3_lifted_8 rfl ?_
  obtain ⟨i1, h⟩ := oIx_some h
  refine oe_iald (pc := 9) d_X3_lifted_9 (oLt hK (a := 16) (Nat.le_of_ble_eq_true rfl)) (oSha hK (a := 16) (Nat.le_of_ble_eq_true rfl) rfl) i1 ?_
  refine oe_if_ne (pc := 10) (tgt := 28) d_X3_lifted_10 (by decide) (fun c2 => ?_) (fun c2 => ?_)
  · replace h := (if_neg c2).symm.trans h
    refine oe_aload_n (pc := 28) d_X3_lifted_28 rfl ?_
    refine oe_iload_n (pc := 29) d_X3_lifted_29 rfl ?_
    refine oe_iload_n (pc := 30) d_X3_lifted_30 rfl ?_
    obtain ⟨v3, M4, q5, h⟩ := oB2_some h
    refine oe_callV (pc := 31) (ci := 3) d_X3_lifted_31 (v_X3_between hK  q5) (by omega) ml_X3_42 jJ_X3_between rfl rfl (oLt hK (a := 11) (Nat.le_of_ble_eq_true rfl)) (oSho hK (a := 11) (Nat.le_of_ble_eq_true rfl) rfl) ock3 rfl (Nat.le_of_ble_eq_true rfl) ⟨Nat.le_refl _, Nat.le_refl _⟩ ⟨Nat.le_refl _, Nat.le_refl _⟩ ?_
    obtain ⟨rfl, rfl⟩ := oRes h
    exact oe_iret (pc := 34) d_X3_lifted_34 ⟨_, rfl, rfl⟩
  · replace h := (if_pos c2).symm.trans h
    refine oe_iconst (pc := 13) (v := 0) d_X3_lifted_13 rfl ?_
    refine oe_sipush (pc := 14) (v := 10000) d_X3_lifted_14 rfl ?_
    refine oe_bipush (pc := 17) (v := 10) d_X3_lifted_17 rfl ?_
    refine oe_iload_n (pc := 19) d_X3_lifted_19 rfl ?_
    refine oe_imul (pc := 20) d_X3_lifted_20 ?_
    refine oe_isub (pc := 21) d_X3_lifted_21 ?_
    refine oe_mmax (pc := 22) d_X3_lifted_22 mm_X3_52 (by omega) (Nat.le_of_ble_eq_true rfl) ?_
    refine oe_goto (pc := 25) (tgt := 34) d_X3_lifted_25 (by decide) ?_
    obtain ⟨rfl, rfl⟩ := oRes h
    exact oe_iret (pc := 34) d_X3_lifted_34 ⟨_, rfl, rfl⟩
theorem d_X3_lost_0 : decode J_X3_lost.2.1 0 = .ok (.aload_n 0, 1) := by decide +kernel
theorem d_X3_lost_1 : decode J_X3_lost.2.1 1 = .ok (.getfield 25, 3) := by decide +kernel
theorem d_X3_lost_4 : decode J_X3_lost.2.1 4 = .ok (.iload_n 1, 1) := by decide +kernel
theorem d_X3_lost_5 : decode J_X3_lost.2.1 5 = .ok (.iaload, 1) := by decide +kernel
theorem d_X3_lost_6 : decode J_X3_lost.2.1 6 = .ok (.ifCond .ne 10, 3) := by decide +kernel
theorem d_X3_lost_9 : decode J_X3_lost.2.1 9 = .ok (.iload_n 2, 1) := by decide +kernel
theorem d_X3_lost_10 : decode J_X3_lost.2.1 10 = .ok (.bipush 10, 2) := by decide +kernel
theorem d_X3_lost_12 : decode J_X3_lost.2.1 12 = .ok (.idiv, 1) := by decide +kernel
theorem d_X3_lost_13 : decode J_X3_lost.2.1 13 = .ok (.goto 9, 3) := by decide +kernel
theorem d_X3_lost_16 : decode J_X3_lost.2.1 16 = .ok (.aload_n 0, 1) := by decide +kernel
theorem d_X3_lost_17 : decode J_X3_lost.2.1 17 = .ok (.iload_n 1, 1) := by decide +kernel
theorem d_X3_lost_18 : decode J_X3_lost.2.1 18 = .ok (.iload_n 2, 1) := by decide +kernel
theorem d_X3_lost_19 : decode J_X3_lost.2.1 19 = .ok (.invokevirtual 42, 3) := by decide +kernel
theorem d_X3_lost_22 : decode J_X3_lost.2.1 22 = .ok (.istore_n 3, 1) := by decide +kernel
theorem d_X3_lost_23 : decode J_X3_lost.2.1 23 = .ok (.iload_n 3, 1) := by decide +kernel
theorem d_X3_lost_24 : decode J_X3_lost.2.1 24 = .ok (.bipush 100, 2) := by decide +kernel
theorem d_X3_lost_26 : decode J_X3_lost.2.1 26 = .ok (.aload_n 0, 1) := by decide +kernel
theorem d_X3_lost_27 : decode J_X3_lost.2.1 27 = .ok (.getfield 28, 3) := by decide +kernel
theorem d_X3_lost_30 : decode J_X3_lost.2.1 30 = .ok (.bipush 6, 2) := by decide +kernel
theorem d_X3_lost_32 : decode J_X3_lost.2.1 32 = .ok (.iload_n 1, 1) := by decide +kernel
theorem d_X3_lost_33 : decode J_X3_lost.2.1 33 = .ok (.iadd, 1) := by decide +kernel
theorem d_X3_lost_34 : decode J_X3_lost.2.1 34 = .ok (.invokevirtual 46, 3) := by decide +kernel
theorem d_X3_lost_37 : decode J_X3_lost.2.1 37 = .ok (.iadd, 1) := by decide +kernel
theorem d_X3_lost_38 : decode J_X3_lost.2.1 38 = .ok (.imul, 1) := by decide +kernel
theorem d_X3_lost_39 : decode J_X3_lost.2.1 39 = .ok (.bipush 100, 2) := by decide +kernel
theorem d_X3_lost_41 : decode J_X3_lost.2.1 41 = .ok (.idiv, 1) := by decide +kernel
theorem d_X3_lost_42 : decode J_X3_lost.2.1 42 = .ok (.ireturn, 1) := by decide +kernel
def f_X3_lost_22 (N : Nat) (K : oK)  (p1 : Int32) (s0 : Int32) (M : oM) : Option (Int32 × oM) :=
  oB2 (f_X8_at N K ((6 : Int32) + p1) M) (fun v6 M7 => some (((s0 * ((100 : Int32) + v6)) / 100), M7))
set_option maxRecDepth 20000 in
theorem v_X3_lost_22 {X : oX} {d N : Nat} {K : oK}  {p1 : Int32} {s0 : Int32} {M : oM} {v : Int32} {M' : oM}  (hd : 2 ≤ d) (hK : oSR K)   (h : f_X3_lost_22 N K  p1 s0 M = some (v, M')) : oEv X d J_X3_lost 22 [some (.ref 11), some (.int p1), none, none] [(.int s0)] K M (some (.int v)) K M' := by
  unfold f_X3_lost_22 at h
  refine oe_istore_n (pc := 22) (L2 := [_, _, _, _]) d_X3_lost_22 rfl rfl (Nat.le_of_ble_eq_true rfl) rfl ?_
  refine oe_iload_n (pc := 23) d_X3_lost_23 rfl ?_
  refine oe_bipush (pc := 24) (v := 100) d_X3_lost_24 rfl ?_
  refine oe_aload_n (pc := 26) d_X3_lost_26 rfl ?_
  refine oe_getr (pc := 27) d_X3_lost_27 fl_X3_28 ock3 (k := 0) (b := 1) (Nat.le_of_ble_eq_true rfl) (by decide) (oLt hK (a := 11) (Nat.le_of_ble_eq_true rfl)) (oSho hK (a := 11) (Nat.le_of_ble_eq_true rfl) rfl) (oRfK hK rfl) ?_
  refine oe_bipush (pc := 30) (v := 6) d_X3_lost_30 rfl ?_
  refine oe_iload_n (pc := 32) d_X3_lost_32 rfl ?_
  refine oe_iadd (pc := 33) d_X3_lost_33 ?_
  obtain ⟨v6, M7, q8, h⟩ := oB2_some h
  refine oe_callV (pc := 34) (ci := 8) d_X3_lost_34 (v_X8_at hK  q8) (by omega) ml_X3_46 jJ_X8_at rfl rfl (oLt hK (a := 1) (Nat.le_of_ble_eq_true rfl)) (oSho hK (a := 1) (Nat.le_of_ble_eq_true rfl) rfl) ock8 rfl (Nat.le_of_ble_eq_true rfl) ⟨Nat.le_refl _, Nat.le_refl _⟩ ⟨Nat.le_refl _, Nat.le_refl _⟩ ?_
  refine oe_iadd (pc := 37) d_X3_lost_37 ?_
  refine oe_imul (pc := 38) d_X3_lost_38 ?_
  refine oe_bipush (pc := 39) (v := 100) d_X3_lost_39 rfl ?_
  refine oe_idiv (pc := 41) d_X3_lost_41 (by decide) ?_
  obtain ⟨rfl, rfl⟩ := oRes h
  exact oe_iret (pc := 42) d_X3_lost_42 ⟨_, rfl, rfl⟩
def f_X3_lost (N : Nat) (K : oK) (p1 : Int32) (p2 : Int32) (M : oM) : Option (Int32 × oM) :=
  oIx (p1) 9 ((if (M.1 16 (p1 : Int32).toNatClampNeg) = 0 then (f_X3_lost_22 N K  p1 (p2 / 10) M) else oB2 (f_X3_between N K p1 p2 M) (fun v3 M4 => (f_X3_lost_22 N K  p1 v3 M4))))
set_option maxRecDepth 20000 in
theorem v_X3_lost {X : oX} {N : Nat} {K : oK} {p1 : Int32} {p2 : Int32} {M : oM} {v : Int32} {M' : oM} (hK : oSR K)  (h : f_X3_lost N K p1 p2 M = some (v, M')) : oMet X 2 J_X3_lost [(.ref 11), (.int p1), (.int p2)] K M (some (.int v)) K M' := by
  unfold f_X3_lost at h
  refine oMet_of (L := [some (.ref 11), some (.int p1), some (.int p2), none]) jJ_X3_lost.1 rfl (Nat.le_of_ble_eq_true rfl) rfl (Nat.le_refl _) (Nat.le_refl _) ?_
  have hd : 2 ≤ 2 := Nat.le_refl _
  refine oe_aload_n (pc := 0) d_X3_lost_0 rfl ?_
  refine oe_getr (pc := 1) d_X3_lost_1 fl_X3_25 ock3 (k := 5) (b := 16) (Nat.le_of_ble_eq_true rfl) (by decide) (oLt hK (a := 11) (Nat.le_of_ble_eq_true rfl)) (oSho hK (a := 11) (Nat.le_of_ble_eq_true rfl) rfl) (oRfK hK rfl) ?_
  refine oe_iload_n (pc := 4) d_X3_lost_4 rfl ?_
  obtain ⟨i1, h⟩ := oIx_some h
  refine oe_iald (pc := 5) d_X3_lost_5 (oLt hK (a := 16) (Nat.le_of_ble_eq_true rfl)) (oSha hK (a := 16) (Nat.le_of_ble_eq_true rfl) rfl) i1 ?_
  refine oe_if_ne (pc := 6) (tgt := 16) d_X3_lost_6 (by decide) (fun c2 => ?_) (fun c2 => ?_)
  · replace h := (if_neg c2).symm.trans h
    refine oe_aload_n (pc := 16) d_X3_lost_16 rfl ?_
    refine oe_iload_n (pc := 17) d_X3_lost_17 rfl ?_
    refine oe_iload_n (pc := 18) d_X3_lost_18 rfl ?_
    obtain ⟨v3, M4, q5, h⟩ := oB2_some h
    refine oe_callV (pc := 19) (ci := 3) d_X3_lost_19 (v_X3_between hK  q5) (by omega) ml_X3_42 jJ_X3_between rfl rfl (oLt hK (a := 11) (Nat.le_of_ble_eq_true rfl)) (oSho hK (a := 11) (Nat.le_of_ble_eq_true rfl) rfl) ock3 rfl (Nat.le_of_ble_eq_true rfl) ⟨Nat.le_refl _, Nat.le_refl _⟩ ⟨Nat.le_refl _, Nat.le_refl _⟩ ?_
    refine oEv.fg [true, true, false, false] ?_
    exact v_X3_lost_22 hd hK   h
  · replace h := (if_pos c2).symm.trans h
    refine oe_iload_n (pc := 9) d_X3_lost_9 rfl ?_
    refine oe_bipush (pc := 10) (v := 10) d_X3_lost_10 rfl ?_
    refine oe_idiv (pc := 12) d_X3_lost_12 (by decide) ?_
    refine oe_goto (pc := 13) (tgt := 22) d_X3_lost_13 (by decide) ?_
    refine oEv.fg [true, true, false, false] ?_
    exact v_X3_lost_22 hd hK   h
theorem d_X2_behind_0 : decode J_X2_behind.2.1 0 = .ok (.aload_n 0, 1) := by decide +kernel
theorem d_X2_behind_1 : decode J_X2_behind.2.1 1 = .ok (.getfield 11, 3) := by decide +kernel
theorem d_X2_behind_4 : decode J_X2_behind.2.1 4 = .ok (.iload_n 1, 1) := by decide +kernel
theorem d_X2_behind_5 : decode J_X2_behind.2.1 5 = .ok (.iaload, 1) := by decide +kernel
theorem d_X2_behind_6 : decode J_X2_behind.2.1 6 = .ok (.lookupswitch 96 #[(0, 26), (1, 43)], 26) := by decide +kernel
theorem d_X2_behind_32 : decode J_X2_behind.2.1 32 = .ok (.iload_n 2, 1) := by decide +kernel
theorem d_X2_behind_33 : decode J_X2_behind.2.1 33 = .ok (.aload_n 0, 1) := by decide +kernel
theorem d_X2_behind_34 : decode J_X2_behind.2.1 34 = .ok (.getfield 34, 3) := by decide +kernel
theorem d_X2_behind_37 : decode J_X2_behind.2.1 37 = .ok (.aload_n 0, 1) := by decide +kernel
theorem d_X2_behind_38 : decode J_X2_behind.2.1 38 = .ok (.getfield 15, 3) := by decide +kernel
theorem d_X2_behind_41 : decode J_X2_behind.2.1 41 = .ok (.iload_n 1, 1) := by decide +kernel
theorem d_X2_behind_42 : decode J_X2_behind.2.1 42 = .ok (.iaload, 1) := by decide +kernel
theorem d_X2_behind_43 : decode J_X2_behind.2.1 43 = .ok (.iload_n 3, 1) := by decide +kernel
theorem d_X2_behind_44 : decode J_X2_behind.2.1 44 = .ok (.invokevirtual 74, 3) := by decide +kernel
theorem d_X2_behind_47 : decode J_X2_behind.2.1 47 = .ok (.iadd, 1) := by decide +kernel
theorem d_X2_behind_48 : decode J_X2_behind.2.1 48 = .ok (.ireturn, 1) := by decide +kernel
theorem d_X2_behind_49 : decode J_X2_behind.2.1 49 = .ok (.aload_n 0, 1) := by decide +kernel
theorem d_X2_behind_50 : decode J_X2_behind.2.1 50 = .ok (.getfield 24, 3) := by decide +kernel
theorem d_X2_behind_53 : decode J_X2_behind.2.1 53 = .ok (.iload_n 1, 1) := by decide +kernel
theorem d_X2_behind_54 : decode J_X2_behind.2.1 54 = .ok (.iaload, 1) := by decide +kernel
theorem d_X2_behind_55 : decode J_X2_behind.2.1 55 = .ok (.iconst 2, 1) := by decide +kernel
theorem d_X2_behind_56 : decode J_X2_behind.2.1 56 = .ok (.if_icmp .ne 11, 3) := by decide +kernel
theorem d_X2_behind_59 : decode J_X2_behind.2.1 59 = .ok (.iload_n 3, 1) := by decide +kernel
theorem d_X2_behind_60 : decode J_X2_behind.2.1 60 = .ok (.iconst 1, 1) := by decide +kernel
theorem d_X2_behind_61 : decode J_X2_behind.2.1 61 = .ok (.iadd, 1) := by decide +kernel
theorem d_X2_behind_62 : decode J_X2_behind.2.1 62 = .ok (.iconst 2, 1) := by decide +kernel
theorem d_X2_behind_63 : decode J_X2_behind.2.1 63 = .ok (.idiv, 1) := by decide +kernel
theorem d_X2_behind_64 : decode J_X2_behind.2.1 64 = .ok (.goto 4, 3) := by decide +kernel
theorem d_X2_behind_67 : decode J_X2_behind.2.1 67 = .ok (.iload_n 3, 1) := by decide +kernel
theorem d_X2_behind_68 : decode J_X2_behind.2.1 68 = .ok (.istore 4, 2) := by decide +kernel
theorem d_X2_behind_70 : decode J_X2_behind.2.1 70 = .ok (.iload_n 2, 1) := by decide +kernel
theorem d_X2_behind_71 : decode J_X2_behind.2.1 71 = .ok (.aload_n 0, 1) := by decide +kernel
theorem d_X2_behind_72 : decode J_X2_behind.2.1 72 = .ok (.getfield 21, 3) := by decide +kernel
theorem d_X2_behind_75 : decode J_X2_behind.2.1 75 = .ok (.iload_n 1, 1) := by decide +kernel
theorem d_X2_behind_76 : decode J_X2_behind.2.1 76 = .ok (.iaload, 1) := by decide +kernel
theorem d_X2_behind_77 : decode J_X2_behind.2.1 77 = .ok (.aload_n 0, 1) := by decide +kernel
theorem d_X2_behind_78 : decode J_X2_behind.2.1 78 = .ok (.getfield 34, 3) := by decide +kernel
theorem d_X2_behind_81 : decode J_X2_behind.2.1 81 = .ok (.aload_n 0, 1) := by decide +kernel
theorem d_X2_behind_82 : decode J_X2_behind.2.1 82 = .ok (.getfield 18, 3) := by decide +kernel
theorem d_X2_behind_85 : decode J_X2_behind.2.1 85 = .ok (.iload_n 1, 1) := by decide +kernel
theorem d_X2_behind_86 : decode J_X2_behind.2.1 86 = .ok (.iaload, 1) := by decide +kernel
theorem d_X2_behind_87 : decode J_X2_behind.2.1 87 = .ok (.iload 4, 2) := by decide +kernel
theorem d_X2_behind_89 : decode J_X2_behind.2.1 89 = .ok (.invokevirtual 79, 3) := by decide +kernel
theorem d_X2_behind_92 : decode J_X2_behind.2.1 92 = .ok (.imul, 1) := by decide +kernel
theorem d_X2_behind_93 : decode J_X2_behind.2.1 93 = .ok (.isub, 1) := by decide +kernel
theorem d_X2_behind_94 : decode J_X2_behind.2.1 94 = .ok (.aload_n 0, 1) := by decide +kernel
theorem d_X2_behind_95 : decode J_X2_behind.2.1 95 = .ok (.getfield 27, 3) := by decide +kernel
theorem d_X2_behind_98 : decode J_X2_behind.2.1 98 = .ok (.iload_n 1, 1) := by decide +kernel
theorem d_X2_behind_99 : decode J_X2_behind.2.1 99 = .ok (.iaload, 1) := by decide +kernel
theorem d_X2_behind_100 : decode J_X2_behind.2.1 100 = .ok (.isub, 1) := by decide +kernel
theorem d_X2_behind_101 : decode J_X2_behind.2.1 101 = .ok (.ireturn, 1) := by decide +kernel
theorem d_X2_behind_102 : decode J_X2_behind.2.1 102 = .ok (.iconst 0, 1) := by decide +kernel
theorem d_X2_behind_103 : decode J_X2_behind.2.1 103 = .ok (.ireturn, 1) := by decide +kernel
def f_X2_behind_68 (N : Nat) (K : oK)  (p1 : Int32) (p2 : Int32) (s0 : Int32) (M : oM) : Option (Int32 × oM) :=
  oIx (p1) 25 (oIx (p1) 25 (oB2 (f_X3_lost N K (M.1 24 (p1 : Int32).toNatClampNeg) s0 M) (fun v10 M11 => oIx (p1) 25 (some (((p2 - ((M.1 25 (p1 : Int32).toNatClampNeg) * v10)) - (M11.1 27 (p1 : Int32).toNatClampNeg)), M11)))))
set_option maxRecDepth 20000 in
theorem v_X2_behind_68 {X : oX} {d N : Nat} {K : oK}  {p1 : Int32} {p2 : Int32} {s0 : Int32} {M : oM} {v : Int32} {M' : oM}  (hd : 3 ≤ d) (hK : oSR K)   (h : f_X2_behind_68 N K  p1 p2 s0 M = some (v, M')) : oEv X d J_X2_behind 68 [some (.ref 21), some (.int p1), some (.int p2), none, none] [(.int s0)] K M (some (.int v)) K M' := by
  unfold f_X2_behind_68 at h
  refine oe_istore (pc := 68) (L2 := [_, _, _, _, _]) d_X2_behind_68 rfl (Nat.le_of_ble_eq_true rfl) rfl ?_
  refine oe_iload_n (pc := 70) d_X2_behind_70 rfl ?_
  refine oe_aload_n (pc := 71) d_X2_behind_71 rfl ?_
  refine oe_getr (pc := 72) d_X2_behind_72 fl_X2_21 ock2 (k := 5) (b := 25) (Nat.le_of_ble_eq_true rfl) (by decide) (oLt hK (a := 21) (Nat.le_of_ble_eq_true rfl)) (oSho hK (a := 21) (Nat.le_of_ble_eq_true rfl) rfl) (oRfK hK rfl) ?_
  refine oe_iload_n (pc := 75) d_X2_behind_75 rfl ?_
  obtain ⟨i8, h⟩ := oIx_some h
  refine oe_iald (pc := 76) d_X2_behind_76 (oLt hK (a := 25) (Nat.le_of_ble_eq_true rfl)) (oSha hK (a := 25) (Nat.le_of_ble_eq_true rfl) rfl) i8 ?_
  refine oe_aload_n (pc := 77) d_X2_behind_77 rfl ?_
  refine oe_getr (pc := 78) d_X2_behind_78 fl_X2_34 ock2 (k := 1) (b := 11) (Nat.le_of_ble_eq_true rfl) (by decide) (oLt hK (a := 21) (Nat.le_of_ble_eq_true rfl)) (oSho hK (a := 21) (Nat.le_of_ble_eq_true rfl) rfl) (oRfK hK rfl) ?_
  refine oe_aload_n (pc := 81) d_X2_behind_81 rfl ?_
  refine oe_getr (pc := 82) d_X2_behind_82 fl_X2_18 ock2 (k := 4) (b := 24) (Nat.le_of_ble_eq_true rfl) (by decide) (oLt hK (a := 21) (Nat.le_of_ble_eq_true rfl)) (oSho hK (a := 21) (Nat.le_of_ble_eq_true rfl) rfl) (oRfK hK rfl) ?_
  refine oe_iload_n (pc := 85) d_X2_behind_85 rfl ?_
  obtain ⟨i9, h⟩ := oIx_some h
  refine oe_iald (pc := 86) d_X2_behind_86 (oLt hK (a := 24) (Nat.le_of_ble_eq_true rfl)) (oSha hK (a := 24) (Nat.le_of_ble_eq_true rfl) rfl) i9 ?_
  refine oe_iload (pc := 87) d_X2_behind_87 rfl ?_
  obtain ⟨v10, M11, q12, h⟩ := oB2_some h
  refine oe_callV (pc := 89) (ci := 3) d_X2_behind_89 (v_X3_lost hK  q12) (by omega) ml_X2_79 jJ_X3_lost rfl rfl (oLt hK (a := 11) (Nat.le_of_ble_eq_true rfl)) (oSho hK (a := 11) (Nat.le_of_ble_eq_true rfl) rfl) ock3 rfl (Nat.le_of_ble_eq_true rfl) ⟨Nat.le_refl _, Nat.le_refl _⟩ ⟨Nat.le_refl _, Nat.le_refl _⟩ ?_
  refine oe_imul (pc := 92) d_X2_behind_92 ?_
  refine oe_isub (pc := 93) d_X2_behind_93 ?_
  refine oe_aload_n (pc := 94) d_X2_behind_94 rfl ?_
  refine oe_getr (pc := 95) d_X2_behind_95 fl_X2_27 ock2 (k := 7) (b := 27) (Nat.le_of_ble_eq_true rfl) (by decide) (oLt hK (a := 21) (Nat.le_of_ble_eq_true rfl)) (oSho hK (a := 21) (Nat.le_of_ble_eq_true rfl) rfl) (oRfK hK rfl) ?_
  refine oe_iload_n (pc := 98) d_X2_behind_98 rfl ?_
  obtain ⟨i13, h⟩ := oIx_some h
  refine oe_iald (pc := 99) d_X2_behind_99 (oLt hK (a := 27) (Nat.le_of_ble_eq_true rfl)) (oSha hK (a := 27) (Nat.le_of_ble_eq_true rfl) rfl) i13 ?_
  refine oe_isub (pc := 100) d_X2_behind_100 ?_
  obtain ⟨rfl, rfl⟩ := oRes h
  exact oe_iret (pc := 101) d_X2_behind_101 ⟨_, rfl, rfl⟩
def f_X2_behind (N : Nat) (K : oK) (p1 : Int32) (p2 : Int32) (p3 : Int32) (M : oM) : Option (Int32 × oM) :=
  oIx (p1) 25 ((if (M.1 22 (p1 : Int32).toNatClampNeg) = 0 then oIx (p1) 25 (oB2 (f_X3_lifted N K (M.1 23 (p1 : Int32).toNatClampNeg) p3 M) (fun v3 M4 => some ((p2 + v3), M4))) else (if (M.1 22 (p1 : Int32).toNatClampNeg) = 1 then oIx (p1) 25 ((if (M.1 26 (p1 : Int32).toNatClampNeg) = 2 then (f_X2_behind_68 N K  p1 p2 ((p3 + 1) / 2) M) else (f_X2_behind_68 N K  p1 p2 p3 M))) else some (0, M))))
set_option maxRecDepth 20000 in
theorem v_X2_behind {X : oX} {N : Nat} {K : oK} {p1 : Int32} {p2 : Int32} {p3 : Int32} {M : oM} {v : Int32} {M' : oM} (hK : oSR K)  (h : f_X2_behind N K p1 p2 p3 M = some (v, M')) : oMet X 3 J_X2_behind [(.ref 21), (.int p1), (.int p2), (.int p3)] K M (some (.int v)) K M' := by
  unfold f_X2_behind at h
  refine oMet_of (L := [some (.ref 21), some (.int p1), some (.int p2), some (.int p3), none]) jJ_X2_behind.1 rfl (Nat.le_of_ble_eq_true rfl) rfl (Nat.le_refl _) (Nat.le_refl _) ?_
  have hd : 3 ≤ 3 := Nat.le_refl _
  refine oe_aload_n (pc := 0) d_X2_behind_0 rfl ?_
  refine oe_getr (pc := 1) d_X2_behind_1 fl_X2_11 ock2 (k := 2) (b := 22) (Nat.le_of_ble_eq_true rfl) (by decide) (oLt hK (a := 21) (Nat.le_of_ble_eq_true rfl)) (oSho hK (a := 21) (Nat.le_of_ble_eq_true rfl) rfl) (oRfK hK rfl) ?_
  refine oe_iload_n (pc := 4) d_X2_behind_4 rfl ?_
  obtain ⟨i1, h⟩ := oIx_some h
  refine oe_iald (pc := 5) d_X2_behind_5 (oLt hK (a := 22) (Nat.le_of_ble_eq_true rfl)) (oSha hK (a := 22) (Nat.le_of_ble_eq_true rfl) rfl) i1 ?_
  by_cases c6_0 : (M.1 22 (p1 : Int32).toNatClampNeg) = 0
  · replace h := (if_pos c6_0).symm.trans h
    refine oe_lookup (pc := 6) (tgt := 32) (off := 26) d_X2_behind_6 (by decide) (by rw [c6_0]; decide) (by decide) ?_
    refine oe_iload_n (pc := 32) d_X2_behind_32 rfl ?_
    refine oe_aload_n (pc := 33) d_X2_behind_33 rfl ?_
    refine oe_getr (pc := 34) d_X2_behind_34 fl_X2_34 ock2 (k := 1) (b := 11) (Nat.le_of_ble_eq_true rfl) (by decide) (oLt hK (a := 21) (Nat.le_of_ble_eq_true rfl)) (oSho hK (a := 21) (Nat.le_of_ble_eq_true rfl) rfl) (oRfK hK rfl) ?_
    refine oe_aload_n (pc := 37) d_X2_behind_37 rfl ?_
    refine oe_getr (pc := 38) d_X2_behind_38 fl_X2_15 ock2 (k := 3) (b := 23) (Nat.le_of_ble_eq_true rfl) (by decide) (oLt hK (a := 21) (Nat.le_of_ble_eq_true rfl)) (oSho hK (a := 21) (Nat.le_of_ble_eq_true rfl) rfl) (oRfK hK rfl) ?_
    refine oe_iload_n (pc := 41) d_X2_behind_41 rfl ?_
    obtain ⟨i2, h⟩ := oIx_some h
    refine oe_iald (pc := 42) d_X2_behind_42 (oLt hK (a := 23) (Nat.le_of_ble_eq_true rfl)) (oSha hK (a := 23) (Nat.le_of_ble_eq_true rfl) rfl) i2 ?_
    refine oe_iload_n (pc := 43) d_X2_behind_43 rfl ?_
    obtain ⟨v3, M4, q5, h⟩ := oB2_some h
    refine oe_callV (pc := 44) (ci := 3) d_X2_behind_44 (v_X3_lifted hK  q5) (by omega) ml_X2_74 jJ_X3_lifted rfl rfl (oLt hK (a := 11) (Nat.le_of_ble_eq_true rfl)) (oSho hK (a := 11) (Nat.le_of_ble_eq_true rfl) rfl) ock3 rfl (Nat.le_of_ble_eq_true rfl) ⟨Nat.le_refl _, Nat.le_refl _⟩ ⟨Nat.le_refl _, Nat.le_refl _⟩ ?_
    refine oe_iadd (pc := 47) d_X2_behind_47 ?_
    obtain ⟨rfl, rfl⟩ := oRes h
    exact oe_iret (pc := 48) d_X2_behind_48 ⟨_, rfl, rfl⟩
  · replace h := (if_neg c6_0).symm.trans h
    by_cases c6_1 : (M.1 22 (p1 : Int32).toNatClampNeg) = 1
    · replace h := (if_pos c6_1).symm.trans h
      refine oe_lookup (pc := 6) (tgt := 49) (off := 43) d_X2_behind_6 (by decide) (by rw [c6_1]; decide) (by decide) ?_
      refine oe_aload_n (pc := 49) d_X2_behind_49 rfl ?_
      refine oe_getr (pc := 50) d_X2_behind_50 fl_X2_24 ock2 (k := 6) (b := 26) (Nat.le_of_ble_eq_true rfl) (by decide) (oLt hK (a := 21) (Nat.le_of_ble_eq_true rfl)) (oSho hK (a := 21) (Nat.le_of_ble_eq_true rfl) rfl) (oRfK hK rfl) ?_
      refine oe_iload_n (pc := 53) d_X2_behind_53 rfl ?_
      obtain ⟨i6, h⟩ := oIx_some h
      refine oe_iald (pc := 54) d_X2_behind_54 (oLt hK (a := 26) (Nat.le_of_ble_eq_true rfl)) (oSha hK (a := 26) (Nat.le_of_ble_eq_true rfl) rfl) i6 ?_
      refine oe_iconst (pc := 55) (v := 2) d_X2_behind_55 rfl ?_
      refine oe_icmp_ne (pc := 56) (tgt := 67) d_X2_behind_56 (by decide) (fun c7 => ?_) (fun c7 => ?_)
      · replace h := (if_neg c7).symm.trans h
        refine oe_iload_n (pc := 67) d_X2_behind_67 rfl ?_
        refine oEv.fg [true, true, true, false, false] ?_
        exact v_X2_behind_68 hd hK   h
      · replace h := (if_pos c7).symm.trans h
        refine oe_iload_n (pc := 59) d_X2_behind_59 rfl ?_
        refine oe_iconst (pc := 60) (v := 1) d_X2_behind_60 rfl ?_
        refine oe_iadd (pc := 61) d_X2_behind_61 ?_
        refine oe_iconst (pc := 62) (v := 2) d_X2_behind_62 rfl ?_
        refine oe_idiv (pc := 63) d_X2_behind_63 (by decide) ?_
        refine oe_goto (pc := 64) (tgt := 68) d_X2_behind_64 (by decide) ?_
        refine oEv.fg [true, true, true, false, false] ?_
        exact v_X2_behind_68 hd hK   h
    · replace h := (if_neg c6_1).symm.trans h
      refine oe_lookup (pc := 6) (tgt := 102) (off := 96) d_X2_behind_6 (by decide) (by have e0 : ¬ ((0 : Int) = ((M.1 22 (p1 : Int32).toNatClampNeg)).toInt) := fun q => oNe (k := 0) c6_0 rfl q.symm; have e1 : ¬ ((1 : Int) = ((M.1 22 (p1 : Int32).toNatClampNeg)).toInt) := fun q => oNe (k := 1) c6_1 rfl q.symm; simp [Op.lookupswitch.offset, *]) (by decide) ?_
      refine oe_iconst (pc := 102) (v := 0) d_X2_behind_102 rfl ?_
      obtain ⟨rfl, rfl⟩ := oRes h
      exact oe_iret (pc := 103) d_X2_behind_103 ⟨_, rfl, rfl⟩
