/-! walked by program: X12_table, X12_tableAt, X12_losesAt, X12_liftsAt, X12_isFlow, X12_loses, X12_lifts, X12_isLaying, X12_kindOf, X12_laying, X12_leadsOn, X12_part -/
theorem d_X12_table_0 : decode J_X12_table.2.1 0 = .ok (.aload_n 0, 1) := by decide +kernel
theorem d_X12_table_1 : decode J_X12_table.2.1 1 = .ok (.invokevirtual 201, 3) := by decide +kernel
theorem d_X12_table_4 : decode J_X12_table.2.1 4 = .ok (.istore_n 1, 1) := by decide +kernel
theorem d_X12_table_5 : decode J_X12_table.2.1 5 = .ok (.aload_n 0, 1) := by decide +kernel
theorem d_X12_table_6 : decode J_X12_table.2.1 6 = .ok (.iconst 0, 1) := by decide +kernel
theorem d_X12_table_7 : decode J_X12_table.2.1 7 = .ok (.putfield 180, 3) := by decide +kernel
theorem d_X12_table_10 : decode J_X12_table.2.1 10 = .ok (.iload_n 1, 1) := by decide +kernel
theorem d_X12_table_11 : decode J_X12_table.2.1 11 = .ok (.ifCond .lt 10, 3) := by decide +kernel
theorem d_X12_table_14 : decode J_X12_table.2.1 14 = .ok (.bipush (-100), 2) := by decide +kernel
theorem d_X12_table_16 : decode J_X12_table.2.1 16 = .ok (.iload_n 1, 1) := by decide +kernel
theorem d_X12_table_17 : decode J_X12_table.2.1 17 = .ok (.isub, 1) := by decide +kernel
theorem d_X12_table_18 : decode J_X12_table.2.1 18 = .ok (.goto 7, 3) := by decide +kernel
theorem d_X12_table_21 : decode J_X12_table.2.1 21 = .ok (.aload_n 0, 1) := by decide +kernel
theorem d_X12_table_22 : decode J_X12_table.2.1 22 = .ok (.getfield 191, 3) := by decide +kernel
theorem d_X12_table_25 : decode J_X12_table.2.1 25 = .ok (.ireturn, 1) := by decide +kernel
def f_X12_table (N : Nat) (K : oK)  (M : oM) : Option (Int32 × oM) :=
  oB2 (f_X12_readTable N K  M) (fun v1 M2 => (if v1 < 0 then some (((oUp M2 59 15 (0 : Int32)).1 59 19), (oUp M2 59 15 (0 : Int32))) else some ((((-100) : Int32) - v1), (oUp M2 59 15 (0 : Int32)))))
set_option maxRecDepth 20000 in
theorem v_X12_table {X : oX} {N : Nat} {K : oK}  {M : oM} {v : Int32} {M' : oM} (hK : oSR K)  (h : f_X12_table N K  M = some (v, M')) : oMet X 5 J_X12_table [(.ref 59)] K M (some (.int v)) K M' := by
  unfold f_X12_table at h
  refine oMet_of (L := [some (.ref 59), none]) jJ_X12_table.1 rfl (Nat.le_of_ble_eq_true rfl) rfl (Nat.le_refl _) (Nat.le_refl _) ?_
  have hd : 5 ≤ 5 := Nat.le_refl _
  refine oe_aload_n (pc := 0) d_X12_table_0 rfl ?_
  obtain ⟨v1, M2, q3, h⟩ := oB2_some h
  refine oe_callV (pc := 1) (ci := 12) d_X12_table_1 (v_X12_readTable hK  q3) (by omega) ml_X12_201 jJ_X12_readTable rfl rfl (oLt hK (a := 59) (Nat.le_of_ble_eq_true rfl)) (oSho hK (a := 59) (Nat.le_of_ble_eq_true rfl) rfl) ock12 rfl (Nat.le_of_ble_eq_true rfl) ⟨Nat.le_refl _, Nat.le_refl _⟩ ⟨Nat.le_refl _, Nat.le_refl _⟩ ?_
  refine oe_istore_n (pc := 4) (L2 := [_, _]) d_X12_table_4 rfl rfl (Nat.le_of_ble_eq_true rfl) rfl ?_
  refine oe_aload_n (pc := 5) d_X12_table_5 rfl ?_
  refine oe_iconst (pc := 6) (v := 0) d_X12_table_6 rfl ?_
  refine oe_putf (pc := 7) d_X12_table_7 fl_X12_180 ock12 (k := 15) (Nat.le_of_ble_eq_true rfl) rfl rfl (oLt hK (a := 59) (Nat.le_of_ble_eq_true rfl)) (oSho hK (a := 59) (Nat.le_of_ble_eq_true rfl) rfl) ?_
  refine oe_iload_n (pc := 10) d_X12_table_10 rfl ?_
  refine oe_if_lt (pc := 11) (tgt := 21) d_X12_table_11 (by decide) (fun c4 => ?_) (fun c4 => ?_)
  · replace h := (if_pos c4).symm.trans h
    refine oe_aload_n (pc := 21) d_X12_table_21 rfl ?_
    refine oe_getf (pc := 22) d_X12_table_22 fl_X12_191 ock12 (k := 19) (Nat.le_of_ble_eq_true rfl) rfl (oLt hK (a := 59) (Nat.le_of_ble_eq_true rfl)) (oSho hK (a := 59) (Nat.le_of_ble_eq_true rfl) rfl) ?_
    obtain ⟨rfl, rfl⟩ := oRes h
    exact oe_iret (pc := 25) d_X12_table_25 ⟨_, rfl, rfl⟩
  · replace h := (if_neg c4).symm.trans h
    refine oe_bipush (pc := 14) (v := (-100)) d_X12_table_14 rfl ?_
    refine oe_iload_n (pc := 16) d_X12_table_16 rfl ?_
    refine oe_isub (pc := 17) d_X12_table_17 ?_
    refine oe_goto (pc := 18) (tgt := 25) d_X12_table_18 (by decide) ?_
    obtain ⟨rfl, rfl⟩ := oRes h
    exact oe_iret (pc := 25) d_X12_table_25 ⟨_, rfl, rfl⟩
theorem d_X12_tableAt_0 : decode J_X12_tableAt.2.1 0 = .ok (.iload_n 2, 1) := by decide +kernel
theorem d_X12_tableAt_1 : decode J_X12_tableAt.2.1 1 = .ok (.bipush 50, 2) := by decide +kernel
theorem d_X12_tableAt_3 : decode J_X12_tableAt.2.1 3 = .ok (.idiv, 1) := by decide +kernel
theorem d_X12_tableAt_4 : decode J_X12_tableAt.2.1 4 = .ok (.istore_n 3, 1) := by decide +kernel
theorem d_X12_tableAt_5 : decode J_X12_tableAt.2.1 5 = .ok (.iload_n 2, 1) := by decide +kernel
theorem d_X12_tableAt_6 : decode J_X12_tableAt.2.1 6 = .ok (.bipush 50, 2) := by decide +kernel
theorem d_X12_tableAt_8 : decode J_X12_tableAt.2.1 8 = .ok (.irem, 1) := by decide +kernel
theorem d_X12_tableAt_9 : decode J_X12_tableAt.2.1 9 = .ok (.istore 4, 2) := by decide +kernel
theorem d_X12_tableAt_11 : decode J_X12_tableAt.2.1 11 = .ok (.bipush 13, 2) := by decide +kernel
theorem d_X12_tableAt_13 : decode J_X12_tableAt.2.1 13 = .ok (.iload_n 1, 1) := by decide +kernel
theorem d_X12_tableAt_14 : decode J_X12_tableAt.2.1 14 = .ok (.imul, 1) := by decide +kernel
theorem d_X12_tableAt_15 : decode J_X12_tableAt.2.1 15 = .ok (.iload_n 3, 1) := by decide +kernel
theorem d_X12_tableAt_16 : decode J_X12_tableAt.2.1 16 = .ok (.iadd, 1) := by decide +kernel
theorem d_X12_tableAt_17 : decode J_X12_tableAt.2.1 17 = .ok (.istore 5, 2) := by decide +kernel
theorem d_X12_tableAt_19 : decode J_X12_tableAt.2.1 19 = .ok (.iload_n 3, 1) := by decide +kernel
theorem d_X12_tableAt_20 : decode J_X12_tableAt.2.1 20 = .ok (.aload_n 0, 1) := by decide +kernel
theorem d_X12_tableAt_21 : decode J_X12_tableAt.2.1 21 = .ok (.getfield 40, 3) := by decide +kernel
theorem d_X12_tableAt_24 : decode J_X12_tableAt.2.1 24 = .ok (.iload_n 1, 1) := by decide +kernel
theorem d_X12_tableAt_25 : decode J_X12_tableAt.2.1 25 = .ok (.iaload, 1) := by decide +kernel
theorem d_X12_tableAt_26 : decode J_X12_tableAt.2.1 26 = .ok (.iconst 1, 1) := by decide +kernel
theorem d_X12_tableAt_27 : decode J_X12_tableAt.2.1 27 = .ok (.isub, 1) := by decide +kernel
theorem d_X12_tableAt_28 : decode J_X12_tableAt.2.1 28 = .ok (.if_icmp .lt 22, 3) := by decide +kernel
theorem d_X12_tableAt_31 : decode J_X12_tableAt.2.1 31 = .ok (.aload_n 0, 1) := by decide +kernel
theorem d_X12_tableAt_32 : decode J_X12_tableAt.2.1 32 = .ok (.getfield 43, 3) := by decide +kernel
theorem d_X12_tableAt_35 : decode J_X12_tableAt.2.1 35 = .ok (.bipush 13, 2) := by decide +kernel
theorem d_X12_tableAt_37 : decode J_X12_tableAt.2.1 37 = .ok (.iload_n 1, 1) := by decide +kernel
theorem d_X12_tableAt_38 : decode J_X12_tableAt.2.1 38 = .ok (.imul, 1) := by decide +kernel
theorem d_X12_tableAt_39 : decode J_X12_tableAt.2.1 39 = .ok (.aload_n 0, 1) := by decide +kernel
theorem d_X12_tableAt_40 : decode J_X12_tableAt.2.1 40 = .ok (.getfield 40, 3) := by decide +kernel
theorem d_X12_tableAt_43 : decode J_X12_tableAt.2.1 43 = .ok (.iload_n 1, 1) := by decide +kernel
theorem d_X12_tableAt_44 : decode J_X12_tableAt.2.1 44 = .ok (.iaload, 1) := by decide +kernel
theorem d_X12_tableAt_45 : decode J_X12_tableAt.2.1 45 = .ok (.iadd, 1) := by decide +kernel
theorem d_X12_tableAt_46 : decode J_X12_tableAt.2.1 46 = .ok (.iconst 1, 1) := by decide +kernel
theorem d_X12_tableAt_47 : decode J_X12_tableAt.2.1 47 = .ok (.isub, 1) := by decide +kernel
theorem d_X12_tableAt_48 : decode J_X12_tableAt.2.1 48 = .ok (.iaload, 1) := by decide +kernel
theorem d_X12_tableAt_49 : decode J_X12_tableAt.2.1 49 = .ok (.ireturn, 1) := by decide +kernel
theorem d_X12_tableAt_50 : decode J_X12_tableAt.2.1 50 = .ok (.aload_n 0, 1) := by decide +kernel
theorem d_X12_tableAt_51 : decode J_X12_tableAt.2.1 51 = .ok (.getfield 43, 3) := by decide +kernel
theorem d_X12_tableAt_54 : decode J_X12_tableAt.2.1 54 = .ok (.iload 5, 2) := by decide +kernel
theorem d_X12_tableAt_56 : decode J_X12_tableAt.2.1 56 = .ok (.iaload, 1) := by decide +kernel
theorem d_X12_tableAt_57 : decode J_X12_tableAt.2.1 57 = .ok (.bipush 50, 2) := by decide +kernel
theorem d_X12_tableAt_59 : decode J_X12_tableAt.2.1 59 = .ok (.iload 4, 2) := by decide +kernel
theorem d_X12_tableAt_61 : decode J_X12_tableAt.2.1 61 = .ok (.isub, 1) := by decide +kernel
theorem d_X12_tableAt_62 : decode J_X12_tableAt.2.1 62 = .ok (.imul, 1) := by decide +kernel
theorem d_X12_tableAt_63 : decode J_X12_tableAt.2.1 63 = .ok (.aload_n 0, 1) := by decide +kernel
theorem d_X12_tableAt_64 : decode J_X12_tableAt.2.1 64 = .ok (.getfield 43, 3) := by decide +kernel
theorem d_X12_tableAt_67 : decode J_X12_tableAt.2.1 67 = .ok (.iload 5, 2) := by decide +kernel
theorem d_X12_tableAt_69 : decode J_X12_tableAt.2.1 69 = .ok (.iconst 1, 1) := by decide +kernel
theorem d_X12_tableAt_70 : decode J_X12_tableAt.2.1 70 = .ok (.iadd, 1) := by decide +kernel
theorem d_X12_tableAt_71 : decode J_X12_tableAt.2.1 71 = .ok (.iaload, 1) := by decide +kernel
theorem d_X12_tableAt_72 : decode J_X12_tableAt.2.1 72 = .ok (.iload 4, 2) := by decide +kernel
theorem d_X12_tableAt_74 : decode J_X12_tableAt.2.1 74 = .ok (.imul, 1) := by decide +kernel
theorem d_X12_tableAt_75 : decode J_X12_tableAt.2.1 75 = .ok (.iadd, 1) := by decide +kernel
theorem d_X12_tableAt_76 : decode J_X12_tableAt.2.1 76 = .ok (.bipush 50, 2) := by decide +kernel
theorem d_X12_tableAt_78 : decode J_X12_tableAt.2.1 78 = .ok (.idiv, 1) := by decide +kernel
theorem d_X12_tableAt_79 : decode J_X12_tableAt.2.1 79 = .ok (.ireturn, 1) := by decide +kernel
def f_X12_tableAt (N : Nat) (K : oK) (p1 : Int32) (p2 : Int32) (M : oM) : Option (Int32 × oM) :=
  oIx (p1) 9 ((if (p2 / 50) < ((M.1 70 (p1 : Int32).toNatClampNeg) - 1) then oIx ((((13 : Int32) * p1) + (p2 / 50))) 117 (oIx (((((13 : Int32) * p1) + (p2 / 50)) + 1)) 117 (some (((((M.1 71 ((((13 : Int32) * p1) + (p2 / 50)) : Int32).toNatClampNeg) * ((50 : Int32) - (p2 - p2 / 50 * 50))) + ((M.1 71 (((((13 : Int32) * p1) + (p2 / 50)) + 1) : Int32).toNatClampNeg) * (p2 - p2 / 50 * 50))) / 50), M))) else oIx (p1) 9 (oIx (((((13 : Int32) * p1) + (M.1 70 (p1 : Int32).toNatClampNeg)) - 1)) 117 (some ((M.1 71 (((((13 : Int32) * p1) + (M.1 70 (p1 : Int32).toNatClampNeg)) - 1) : Int32).toNatClampNeg), M)))))
set_option maxRecDepth 20000 in
theorem v_X12_tableAt {X : oX} {N : Nat} {K : oK} {p1 : Int32} {p2 : Int32} {M : oM} {v : Int32} {M' : oM} (hK : oSR K)  (h : f_X12_tableAt N K p1 p2 M = some (v, M')) : oMet X 1 J_X12_tableAt [(.ref 59), (.int p1), (.int p2)] K M (some (.int v)) K M' := by
  unfold f_X12_tableAt at h
  refine oMet_of (L := [some (.ref 59), some (.int p1), some (.int p2), none, none, none]) jJ_X12_tableAt.1 rfl (Nat.le_of_ble_eq_true rfl) rfl (Nat.le_refl _) (Nat.le_refl _) ?_
  have hd : 1 ≤ 1 := Nat.le_refl _
  refine oe_iload_n (pc := 0) d_X12_tableAt_0 rfl ?_
  refine oe_bipush (pc := 1) (v := 50) d_X12_tableAt_1 rfl ?_
  refine oe_idiv (pc := 3) d_X12_tableAt_3 (by decide) ?_
  refine oe_istore_n (pc := 4) (L2 := [_, _, _, _, _, _]) d_X12_tableAt_4 rfl rfl (Nat.le_of_ble_eq_true rfl) rfl ?_
  refine oe_iload_n (pc := 5) d_X12_tableAt_5 rfl ?_
  refine oe_bipush (pc := 6) (v := 50) d_X12_tableAt_6 rfl ?_
  refine oe_irem (pc := 8) d_X12_tableAt_8 (by decide) ?_
  refine oe_istore (pc := 9) (L2 := [_, _, _, _, _, _]) d_X12_tableAt_9 rfl (Nat.le_of_ble_eq_true rfl) rfl ?_
  refine oe_bipush (pc := 11) (v := 13) d_X12_tableAt_11 rfl ?_
  refine oe_iload_n (pc := 13) d_X12_tableAt_13 rfl ?_
  refine oe_imul (pc := 14) d_X12_tableAt_14 ?_
  refine oe_iload_n (pc := 15) d_X12_tableAt_15 rfl ?_
  refine oe_iadd (pc := 16) d_X12_tableAt_16 ?_
  refine oe_istore (pc := 17) (L2 := [_, _, _, _, _, _]) d_X12_tableAt_17 rfl (Nat.le_of_ble_eq_true rfl) rfl ?_
  refine oe_iload_n (pc := 19) d_X12_tableAt_19 rfl ?_
  refine oe_aload_n (pc := 20) d_X12_tableAt_20 rfl ?_
  refine oe_getr (pc := 21) d_X12_tableAt_21 fl_X12_40 ock12 (k := 16) (b := 70) (Nat.le_of_ble_eq_true rfl) (by decide) (oLt hK (a := 59) (Nat.le_of_ble_eq_true rfl)) (oSho hK (a := 59) (Nat.le_of_ble_eq_true rfl) rfl) (oRfK hK rfl) ?_
  refine oe_iload_n (pc := 24) d_X12_tableAt_24 rfl ?_
  obtain ⟨i1, h⟩ := oIx_some h
  refine oe_iald (pc := 25) d_X12_tableAt_25 (oLt hK (a := 70) (Nat.le_of_ble_eq_true rfl)) (oSha hK (a := 70) (Nat.le_of_ble_eq_true rfl) rfl) i1 ?_
  refine oe_iconst (pc := 26) (v := 1) d_X12_tableAt_26 rfl ?_
  refine oe_isub (pc := 27) d_X12_tableAt_27 ?_
  refine oe_icmp_lt (pc := 28) (tgt := 50) d_X12_tableAt_28 (by decide) (fun c2 => ?_) (fun c2 => ?_)
  · replace h := (if_pos c2).symm.trans h
    refine oe_aload_n (pc := 50) d_X12_tableAt_50 rfl ?_
    refine oe_getr (pc := 51) d_X12_tableAt_51 fl_X12_43 ock12 (k := 17) (b := 71) (Nat.le_of_ble_eq_true rfl) (by decide) (oLt hK (a := 59) (Nat.le_of_ble_eq_true rfl)) (oSho hK (a := 59) (Nat.le_of_ble_eq_true rfl) rfl) (oRfK hK rfl) ?_
    refine oe_iload (pc := 54) d_X12_tableAt_54 rfl ?_
    obtain ⟨i3, h⟩ := oIx_some h
    refine oe_iald (pc := 56) d_X12_tableAt_56 (oLt hK (a := 71) (Nat.le_of_ble_eq_true rfl)) (oSha hK (a := 71) (Nat.le_of_ble_eq_true rfl) rfl) i3 ?_
    refine oe_bipush (pc := 57) (v := 50) d_X12_tableAt_57 rfl ?_
    refine oe_iload (pc := 59) d_X12_tableAt_59 rfl ?_
    refine oe_isub (pc := 61) d_X12_tableAt_61 ?_
    refine oe_imul (pc := 62) d_X12_tableAt_62 ?_
    refine oe_aload_n (pc := 63) d_X12_tableAt_63 rfl ?_
    refine oe_getr (pc := 64) d_X12_tableAt_64 fl_X12_43 ock12 (k := 17) (b := 71) (Nat.le_of_ble_eq_true rfl) (by decide) (oLt hK (a := 59) (Nat.le_of_ble_eq_true rfl)) (oSho hK (a := 59) (Nat.le_of_ble_eq_true rfl) rfl) (oRfK hK rfl) ?_
    refine oe_iload (pc := 67) d_X12_tableAt_67 rfl ?_
    refine oe_iconst (pc := 69) (v := 1) d_X12_tableAt_69 rfl ?_
    refine oe_iadd (pc := 70) d_X12_tableAt_70 ?_
    obtain ⟨i4, h⟩ := oIx_some h
    refine oe_iald (pc := 71) d_X12_tableAt_71 (oLt hK (a := 71) (Nat.le_of_ble_eq_true rfl)) (oSha hK (a := 71) (Nat.le_of_ble_eq_true rfl) rfl) i4 ?_
    refine oe_iload (pc := 72) d_X12_tableAt_72 rfl ?_
    refine oe_imul (pc := 74) d_X12_tableAt_74 ?_
    refine oe_iadd (pc := 75) d_X12_tableAt_75 ?_
    refine oe_bipush (pc := 76) (v := 50) d_X12_tableAt_76 rfl ?_
    refine oe_idiv (pc := 78) d_X12_tableAt_78 (by decide) ?_
    obtain ⟨rfl, rfl⟩ := oRes h
    exact oe_iret (pc := 79) d_X12_tableAt_79 ⟨_, rfl, rfl⟩
  · replace h := (if_neg c2).symm.trans h
    refine oe_aload_n (pc := 31) d_X12_tableAt_31 rfl ?_
    refine oe_getr (pc := 32) d_X12_tableAt_32 fl_X12_43 ock12 (k := 17) (b := 71) (Nat.le_of_ble_eq_true rfl) (by decide) (oLt hK (a := 59) (Nat.le_of_ble_eq_true rfl)) (oSho hK (a := 59) (Nat.le_of_ble_eq_true rfl) rfl) (oRfK hK rfl) ?_
    refine oe_bipush (pc := 35) (v := 13) d_X12_tableAt_35 rfl ?_
    refine oe_iload_n (pc := 37) d_X12_tableAt_37 rfl ?_
    refine oe_imul (pc := 38) d_X12_tableAt_38 ?_
    refine oe_aload_n (pc := 39) d_X12_tableAt_39 rfl ?_
    refine oe_getr (pc := 40) d_X12_tableAt_40 fl_X12_40 ock12 (k := 16) (b := 70) (Nat.le_of_ble_eq_true rfl) (by decide) (oLt hK (a := 59) (Nat.le_of_ble_eq_true rfl)) (oSho hK (a := 59) (Nat.le_of_ble_eq_true rfl) rfl) (oRfK hK rfl) ?_
    refine oe_iload_n (pc := 43) d_X12_tableAt_43 rfl ?_
    obtain ⟨i5, h⟩ := oIx_some h
    refine oe_iald (pc := 44) d_X12_tableAt_44 (oLt hK (a := 70) (Nat.le_of_ble_eq_true rfl)) (oSha hK (a := 70) (Nat.le_of_ble_eq_true rfl) rfl) i5 ?_
    refine oe_iadd (pc := 45) d_X12_tableAt_45 ?_
    refine oe_iconst (pc := 46) (v := 1) d_X12_tableAt_46 rfl ?_
    refine oe_isub (pc := 47) d_X12_tableAt_47 ?_
    obtain ⟨i6, h⟩ := oIx_some h
    refine oe_iald (pc := 48) d_X12_tableAt_48 (oLt hK (a := 71) (Nat.le_of_ble_eq_true rfl)) (oSha hK (a := 71) (Nat.le_of_ble_eq_true rfl) rfl) i6 ?_
    obtain ⟨rfl, rfl⟩ := oRes h
    exact oe_iret (pc := 49) d_X12_tableAt_49 ⟨_, rfl, rfl⟩
theorem d_X12_losesAt_0 : decode J_X12_losesAt.2.1 0 = .ok (.aload_n 0, 1) := by decide +kernel
theorem d_X12_losesAt_1 : decode J_X12_losesAt.2.1 1 = .ok (.getfield 40, 3) := by decide +kernel
theorem d_X12_losesAt_4 : decode J_X12_losesAt.2.1 4 = .ok (.iload_n 1, 1) := by decide +kernel
theorem d_X12_losesAt_5 : decode J_X12_losesAt.2.1 5 = .ok (.iaload, 1) := by decide +kernel
theorem d_X12_losesAt_6 : decode J_X12_losesAt.2.1 6 = .ok (.ifCond .le 12, 3) := by decide +kernel
theorem d_X12_losesAt_9 : decode J_X12_losesAt.2.1 9 = .ok (.aload_n 0, 1) := by decide +kernel
theorem d_X12_losesAt_10 : decode J_X12_losesAt.2.1 10 = .ok (.iload_n 1, 1) := by decide +kernel
theorem d_X12_losesAt_11 : decode J_X12_losesAt.2.1 11 = .ok (.iload_n 2, 1) := by decide +kernel
theorem d_X12_losesAt_12 : decode J_X12_losesAt.2.1 12 = .ok (.invokevirtual 205, 3) := by decide +kernel
theorem d_X12_losesAt_15 : decode J_X12_losesAt.2.1 15 = .ok (.goto 7, 3) := by decide +kernel
theorem d_X12_losesAt_18 : decode J_X12_losesAt.2.1 18 = .ok (.iload_n 2, 1) := by decide +kernel
theorem d_X12_losesAt_19 : decode J_X12_losesAt.2.1 19 = .ok (.bipush 10, 2) := by decide +kernel
theorem d_X12_losesAt_21 : decode J_X12_losesAt.2.1 21 = .ok (.idiv, 1) := by decide +kernel
theorem d_X12_losesAt_22 : decode J_X12_losesAt.2.1 22 = .ok (.istore_n 3, 1) := by decide +kernel
theorem d_X12_losesAt_23 : decode J_X12_losesAt.2.1 23 = .ok (.iload_n 3, 1) := by decide +kernel
theorem d_X12_losesAt_24 : decode J_X12_losesAt.2.1 24 = .ok (.bipush 100, 2) := by decide +kernel
theorem d_X12_losesAt_26 : decode J_X12_losesAt.2.1 26 = .ok (.aload_n 0, 1) := by decide +kernel
theorem d_X12_losesAt_27 : decode J_X12_losesAt.2.1 27 = .ok (.getfield 7, 3) := by decide +kernel
theorem d_X12_losesAt_30 : decode J_X12_losesAt.2.1 30 = .ok (.bipush 18, 2) := by decide +kernel
theorem d_X12_losesAt_32 : decode J_X12_losesAt.2.1 32 = .ok (.iload_n 1, 1) := by decide +kernel
theorem d_X12_losesAt_33 : decode J_X12_losesAt.2.1 33 = .ok (.iadd, 1) := by decide +kernel
theorem d_X12_losesAt_34 : decode J_X12_losesAt.2.1 34 = .ok (.iaload, 1) := by decide +kernel
theorem d_X12_losesAt_35 : decode J_X12_losesAt.2.1 35 = .ok (.iadd, 1) := by decide +kernel
theorem d_X12_losesAt_36 : decode J_X12_losesAt.2.1 36 = .ok (.imul, 1) := by decide +kernel
theorem d_X12_losesAt_37 : decode J_X12_losesAt.2.1 37 = .ok (.bipush 100, 2) := by decide +kernel
theorem d_X12_losesAt_39 : decode J_X12_losesAt.2.1 39 = .ok (.idiv, 1) := by decide +kernel
theorem d_X12_losesAt_40 : decode J_X12_losesAt.2.1 40 = .ok (.ireturn, 1) := by decide +kernel
def f_X12_losesAt_22 (N : Nat) (K : oK)  (p1 : Int32) (s0 : Int32) (M : oM) : Option (Int32 × oM) :=
  oIx (((18 : Int32) + p1)) 21 (some (((s0 * ((100 : Int32) + (M.1 60 (((18 : Int32) + p1) : Int32).toNatClampNeg))) / 100), M))
set_option maxRecDepth 20000 in
theorem v_X12_losesAt_22 {X : oX} {d N : Nat} {K : oK}  {p1 : Int32} {s0 : Int32} {M : oM} {v : Int32} {M' : oM}  (hd : 2 ≤ d) (hK : oSR K)   (h : f_X12_losesAt_22 N K  p1 s0 M = some (v, M')) : oEv X d J_X12_losesAt 22 [some (.ref 59), some (.int p1), none, none] [(.int s0)] K M (some (.int v)) K M' := by
  unfold f_X12_losesAt_22 at h
  refine oe_istore_n (pc := 22) (L2 := [_, _, _, _]) d_X12_losesAt_22 rfl rfl (Nat.le_of_ble_eq_true rfl) rfl ?_
  refine oe_iload_n (pc := 23) d_X12_losesAt_23 rfl ?_
  refine oe_bipush (pc := 24) (v := 100) d_X12_losesAt_24 rfl ?_
  refine oe_aload_n (pc := 26) d_X12_losesAt_26 rfl ?_
  refine oe_getr (pc := 27) d_X12_losesAt_27 fl_X12_7 ock12 (k := 0) (b := 60) (Nat.le_of_ble_eq_true rfl) (by decide) (oLt hK (a := 59) (Nat.le_of_ble_eq_true rfl)) (oSho hK (a := 59) (Nat.le_of_ble_eq_true rfl) rfl) (oRfK hK rfl) ?_
  refine oe_bipush (pc := 30) (v := 18) d_X12_losesAt_30 rfl ?_
  refine oe_iload_n (pc := 32) d_X12_losesAt_32 rfl ?_
  refine oe_iadd (pc := 33) d_X12_losesAt_33 ?_
  obtain ⟨i3, h⟩ := oIx_some h
  refine oe_iald (pc := 34) d_X12_losesAt_34 (oLt hK (a := 60) (Nat.le_of_ble_eq_true rfl)) (oSha hK (a := 60) (Nat.le_of_ble_eq_true rfl) rfl) i3 ?_
  refine oe_iadd (pc := 35) d_X12_losesAt_35 ?_
  refine oe_imul (pc := 36) d_X12_losesAt_36 ?_
  refine oe_bipush (pc := 37) (v := 100) d_X12_losesAt_37 rfl ?_
  refine oe_idiv (pc := 39) d_X12_losesAt_39 (by decide) ?_
  obtain ⟨rfl, rfl⟩ := oRes h
  exact oe_iret (pc := 40) d_X12_losesAt_40 ⟨_, rfl, rfl⟩
def f_X12_losesAt (N : Nat) (K : oK) (p1 : Int32) (p2 : Int32) (M : oM) : Option (Int32 × oM) :=
  oIx (p1) 9 ((if (M.1 70 (p1 : Int32).toNatClampNeg) ≤ 0 then (f_X12_losesAt_22 N K  p1 (p2 / 10) M) else oB2 (f_X12_tableAt N K p1 p2 M) (fun v4 M5 => (f_X12_losesAt_22 N K  p1 v4 M5))))
set_option maxRecDepth 20000 in
theorem v_X12_losesAt {X : oX} {N : Nat} {K : oK} {p1 : Int32} {p2 : Int32} {M : oM} {v : Int32} {M' : oM} (hK : oSR K)  (h : f_X12_losesAt N K p1 p2 M = some (v, M')) : oMet X 2 J_X12_losesAt [(.ref 59), (.int p1), (.int p2)] K M (some (.int v)) K M' := by
  unfold f_X12_losesAt at h
  refine oMet_of (L := [some (.ref 59), some (.int p1), some (.int p2), none]) jJ_X12_losesAt.1 rfl (Nat.le_of_ble_eq_true rfl) rfl (Nat.le_refl _) (Nat.le_refl _) ?_
  have hd : 2 ≤ 2 := Nat.le_refl _
  refine oe_aload_n (pc := 0) d_X12_losesAt_0 rfl ?_
  refine oe_getr (pc := 1) d_X12_losesAt_1 fl_X12_40 ock12 (k := 16) (b := 70) (Nat.le_of_ble_eq_true rfl) (by decide) (oLt hK (a := 59) (Nat.le_of_ble_eq_true rfl)) (oSho hK (a := 59) (Nat.le_of_ble_eq_true rfl) rfl) (oRfK hK rfl) ?_
  refine oe_iload_n (pc := 4) d_X12_losesAt_4 rfl ?_
  obtain ⟨i1, h⟩ := oIx_some h
  refine oe_iald (pc := 5) d_X12_losesAt_5 (oLt hK (a := 70) (Nat.le_of_ble_eq_true rfl)) (oSha hK (a := 70) (Nat.le_of_ble_eq_true rfl) rfl) i1 ?_
  refine oe_if_le (pc := 6) (tgt := 18) d_X12_losesAt_6 (by decide) (fun c2 => ?_) (fun c2 => ?_)
  · replace h := (if_pos c2).symm.trans h
    refine oe_iload_n (pc := 18) d_X12_losesAt_18 rfl ?_
    refine oe_bipush (pc := 19) (v := 10) d_X12_losesAt_19 rfl ?_
    refine oe_idiv (pc := 21) d_X12_losesAt_21 (by decide) ?_
    refine oEv.fg [true, true, false, false] ?_
    exact v_X12_losesAt_22 hd hK   h
  · replace h := (if_neg c2).symm.trans h
    refine oe_aload_n (pc := 9) d_X12_losesAt_9 rfl ?_
    refine oe_iload_n (pc := 10) d_X12_losesAt_10 rfl ?_
    refine oe_iload_n (pc := 11) d_X12_losesAt_11 rfl ?_
    obtain ⟨v4, M5, q6, h⟩ := oB2_some h
    refine oe_callV (pc := 12) (ci := 12) d_X12_losesAt_12 (v_X12_tableAt hK  q6) (by omega) ml_X12_205 jJ_X12_tableAt rfl rfl (oLt hK (a := 59) (Nat.le_of_ble_eq_true rfl)) (oSho hK (a := 59) (Nat.le_of_ble_eq_true rfl) rfl) ock12 rfl (Nat.le_of_ble_eq_true rfl) ⟨Nat.le_refl _, Nat.le_refl _⟩ ⟨Nat.le_refl _, Nat.le_refl _⟩ ?_
    refine oe_goto (pc := 15) (tgt := 22) d_X12_losesAt_15 (by decide) ?_
    refine oEv.fg [true, true, false, false] ?_
    exact v_X12_losesAt_22 hd hK   h
theorem d_X12_liftsAt_0 : decode J_X12_liftsAt.2.1 0 = .ok (.aload_n 0, 1) := by decide +kernel
theorem d_X12_liftsAt_1 : decode J_X12_liftsAt.2.1 1 = .ok (.getfield 40, 3) := by decide +kernel
theorem d_X12_liftsAt_4 : decode J_X12_liftsAt.2.1 4 = .ok (.iconst 3, 1) := by decide +kernel
theorem d_X12_liftsAt_5 : decode J_X12_liftsAt.2.1 5 = .ok (.iload_n 1, 1) := by decide +kernel
theorem d_X12_liftsAt_6 : decode J_X12_liftsAt.2.1 6 = .ok (.iadd, 1) := by decide +kernel
theorem d_X12_liftsAt_7 : decode J_X12_liftsAt.2.1 7 = .ok (.iaload, 1) := by decide +kernel
theorem d_X12_liftsAt_8 : decode J_X12_liftsAt.2.1 8 = .ok (.ifCond .le 12, 3) := by decide +kernel
theorem d_X12_liftsAt_11 : decode J_X12_liftsAt.2.1 11 = .ok (.aload_n 0, 1) := by decide +kernel
theorem d_X12_liftsAt_12 : decode J_X12_liftsAt.2.1 12 = .ok (.iconst 3, 1) := by decide +kernel
theorem d_X12_liftsAt_13 : decode J_X12_liftsAt.2.1 13 = .ok (.iload_n 1, 1) := by decide +kernel
theorem d_X12_liftsAt_14 : decode J_X12_liftsAt.2.1 14 = .ok (.iadd, 1) := by decide +kernel
theorem d_X12_liftsAt_15 : decode J_X12_liftsAt.2.1 15 = .ok (.iload_n 2, 1) := by decide +kernel
theorem d_X12_liftsAt_16 : decode J_X12_liftsAt.2.1 16 = .ok (.invokevirtual 205, 3) := by decide +kernel
theorem d_X12_liftsAt_19 : decode J_X12_liftsAt.2.1 19 = .ok (.ireturn, 1) := by decide +kernel
theorem d_X12_liftsAt_20 : decode J_X12_liftsAt.2.1 20 = .ok (.iload_n 2, 1) := by decide +kernel
theorem d_X12_liftsAt_21 : decode J_X12_liftsAt.2.1 21 = .ok (.sipush 1000, 3) := by decide +kernel
theorem d_X12_liftsAt_24 : decode J_X12_liftsAt.2.1 24 = .ok (.if_icmp .le 7, 3) := by decide +kernel
theorem d_X12_liftsAt_27 : decode J_X12_liftsAt.2.1 27 = .ok (.iconst 0, 1) := by decide +kernel
theorem d_X12_liftsAt_28 : decode J_X12_liftsAt.2.1 28 = .ok (.goto 11, 3) := by decide +kernel
theorem d_X12_liftsAt_31 : decode J_X12_liftsAt.2.1 31 = .ok (.sipush 10000, 3) := by decide +kernel
theorem d_X12_liftsAt_34 : decode J_X12_liftsAt.2.1 34 = .ok (.bipush 10, 2) := by decide +kernel
theorem d_X12_liftsAt_36 : decode J_X12_liftsAt.2.1 36 = .ok (.iload_n 2, 1) := by decide +kernel
theorem d_X12_liftsAt_37 : decode J_X12_liftsAt.2.1 37 = .ok (.imul, 1) := by decide +kernel
theorem d_X12_liftsAt_38 : decode J_X12_liftsAt.2.1 38 = .ok (.isub, 1) := by decide +kernel
theorem d_X12_liftsAt_39 : decode J_X12_liftsAt.2.1 39 = .ok (.ireturn, 1) := by decide +kernel
def f_X12_liftsAt (N : Nat) (K : oK) (p1 : Int32) (p2 : Int32) (M : oM) : Option (Int32 × oM) :=
  oIx (((3 : Int32) + p1)) 9 ((if (M.1 70 (((3 : Int32) + p1) : Int32).toNatClampNeg) ≤ 0 then (if p2 ≤ 1000 then some (((10000 : Int32) - ((10 : Int32) * p2)), M) else some (0, M)) else oB2 (f_X12_tableAt N K ((3 : Int32) + p1) p2 M) (fun v4 M5 => some (v4, M5))))
set_option maxRecDepth 20000 in
theorem v_X12_liftsAt {X : oX} {N : Nat} {K : oK} {p1 : Int32} {p2 : Int32} {M : oM} {v : Int32} {M' : oM} (hK : oSR K)  (h : f_X12_liftsAt N K p1 p2 M = some (v, M')) : oMet X 2 J_X12_liftsAt [(.ref 59), (.int p1), (.int p2)] K M (some (.int v)) K M' := by
  unfold f_X12_liftsAt at h
  refine oMet_of (L := [some (.ref 59), some (.int p1), some (.int p2)]) jJ_X12_liftsAt.1 rfl (Nat.le_of_ble_eq_true rfl) rfl (Nat.le_refl _) (Nat.le_refl _) ?_
  have hd : 2 ≤ 2 := Nat.le_refl _
  refine oe_aload_n (pc := 0) d_X12_liftsAt_0 rfl ?_
  refine oe_getr (pc := 1) d_X12_liftsAt_1 fl_X12_40 ock12 (k := 16) (b := 70) (Nat.le_of_ble_eq_true rfl) (by decide) (oLt hK (a := 59) (Nat.le_of_ble_eq_true rfl)) (oSho hK (a := 59) (Nat.le_of_ble_eq_true rfl) rfl) (oRfK hK rfl) ?_
  refine oe_iconst (pc := 4) (v := 3) d_X12_liftsAt_4 rfl ?_
  refine oe_iload_n (pc := 5) d_X12_liftsAt_5 rfl ?_
  refine oe_iadd (pc := 6) d_X12_liftsAt_6 ?_
  obtain ⟨i1, h⟩ := oIx_some h
  refine oe_iald (pc := 7) d_X12_liftsAt_7 (oLt hK (a := 70) (Nat.le_of_ble_eq_true rfl)) (oSha hK (a := 70) (Nat.le_of_ble_eq_true rfl) rfl) i1 ?_
  refine oe_if_le (pc := 8) (tgt := 20) d_X12_liftsAt_8 (by decide) (fun c2 => ?_) (fun c2 => ?_)
  · replace h := (if_pos c2).symm.trans h
    refine oe_iload_n (pc := 20) d_X12_liftsAt_20 rfl ?_
    refine oe_sipush (pc := 21) (v := 1000) d_X12_liftsAt_21 rfl ?_
    refine oe_icmp_le (pc := 24) (tgt := 31) d_X12_liftsAt_24 (by decide) (fun c3 => ?_) (fun c3 => ?_)
    · replace h := (if_pos c3).symm.trans h
      refine oe_sipush (pc := 31) (v := 10000) d_X12_liftsAt_31 rfl ?_
      refine oe_bipush (pc := 34) (v := 10) d_X12_liftsAt_34 rfl ?_
      refine oe_iload_n (pc := 36) d_X12_liftsAt_36 rfl ?_
      refine oe_imul (pc := 37) d_X12_liftsAt_37 ?_
      refine oe_isub (pc := 38) d_X12_liftsAt_38 ?_
      obtain ⟨rfl, rfl⟩ := oRes h
      exact oe_iret (pc := 39) d_X12_liftsAt_39 ⟨_, rfl, rfl⟩
    · replace h := (if_neg c3).symm.trans h
      refine oe_iconst (pc := 27) (v := 0) d_X12_liftsAt_27 rfl ?_
      refine oe_goto (pc := 28) (tgt := 39) d_X12_liftsAt_28 (by decide) ?_
      obtain ⟨rfl, rfl⟩ := oRes h
      exact oe_iret (pc := 39) d_X12_liftsAt_39 ⟨_, rfl, rfl⟩
  · replace h := (if_neg c2).symm.trans h
    refine oe_aload_n (pc := 11) d_X12_liftsAt_11 rfl ?_
    refine oe_iconst (pc := 12) (v := 3) d_X12_liftsAt_12 rfl ?_
    refine oe_iload_n (pc := 13) d_X12_liftsAt_13 rfl ?_
    refine oe_iadd (pc := 14) d_X12_liftsAt_14 ?_
    refine oe_iload_n (pc := 15) d_X12_liftsAt_15 rfl ?_
    obtain ⟨v4, M5, q6, h⟩ := oB2_some h
    refine oe_callV (pc := 16) (ci := 12) d_X12_liftsAt_16 (v_X12_tableAt hK  q6) (by omega) ml_X12_205 jJ_X12_tableAt rfl rfl (oLt hK (a := 59) (Nat.le_of_ble_eq_true rfl)) (oSho hK (a := 59) (Nat.le_of_ble_eq_true rfl) rfl) ock12 rfl (Nat.le_of_ble_eq_true rfl) ⟨Nat.le_refl _, Nat.le_refl _⟩ ⟨Nat.le_refl _, Nat.le_refl _⟩ ?_
    obtain ⟨rfl, rfl⟩ := oRes h
    exact oe_iret (pc := 19) d_X12_liftsAt_19 ⟨_, rfl, rfl⟩
theorem d_X12_isFlow_0 : decode J_X12_isFlow.2.1 0 = .ok (.iload_n 0, 1) := by decide +kernel
theorem d_X12_isFlow_1 : decode J_X12_isFlow.2.1 1 = .ok (.i2l, 1) := by decide +kernel
theorem d_X12_isFlow_2 : decode J_X12_isFlow.2.1 2 = .ok (.lconst 0, 1) := by decide +kernel
theorem d_X12_isFlow_3 : decode J_X12_isFlow.2.1 3 = .ok (.ldc2_w 208, 3) := by decide +kernel
theorem d_X12_isFlow_6 : decode J_X12_isFlow.2.1 6 = .ok (.invokestatic 145, 3) := by decide +kernel
theorem d_X12_isFlow_9 : decode J_X12_isFlow.2.1 9 = .ok (.ireturn, 1) := by decide +kernel
def f_X12_isFlow (N : Nat) (K : oK) (p0 : Int32) (M : oM) : Option (Bool × oM) :=
  oB2 (f_X12_within N K ((p0 : Int32).toInt64) 0 600 M) (fun v1 M2 => cond v1 (some (true, M2)) (some (false, M2)))
set_option maxRecDepth 20000 in
theorem v_X12_isFlow {X : oX} {N : Nat} {K : oK} {p0 : Int32} {M : oM} {v : Bool} {M' : oM} (hK : oSR K)  (h : f_X12_isFlow N K p0 M = some (v, M')) : oMet X 2 J_X12_isFlow [(.int p0)] K M (some (.int (oBi v))) K M' := by
  unfold f_X12_isFlow at h
  refine oMet_of (L := [some (.int p0)]) jJ_X12_isFlow.1 rfl (Nat.le_of_ble_eq_true rfl) rfl (Nat.le_refl _) (Nat.le_refl _) ?_
  have hd : 2 ≤ 2 := Nat.le_refl _
  refine oe_iload_n (pc := 0) d_X12_isFlow_0 rfl ?_
  refine oe_i2l (pc := 1) d_X12_isFlow_1 ?_
  refine oe_lconst (pc := 2) (v := 0) d_X12_isFlow_2 rfl ?_
  refine oe_ldc2 (pc := 3) d_X12_isFlow_3 co_X12_208 ?_
  obtain ⟨v1, M2, q3, h⟩ := oB2_some h
  cases v1 with
  | true =>
    replace h := oCt h
    refine oe_callS (pc := 6) d_X12_isFlow_6 (v_X12_within hK  q3) (by omega) ml_X12_145 jJ_X12_within rfl rfl (Nat.le_of_ble_eq_true rfl) ⟨Nat.le_refl _, Nat.le_refl _⟩ ⟨Nat.le_refl _, Nat.le_refl _⟩ ?_
    obtain ⟨rfl, rfl⟩ := oRes h
    exact oe_iret (pc := 9) d_X12_isFlow_9 ⟨_, rfl, rfl⟩
  | false =>
    replace h := oCf h
    refine oe_callS (pc := 6) d_X12_isFlow_6 (v_X12_within hK  q3) (by omega) ml_X12_145 jJ_X12_within rfl rfl (Nat.le_of_ble_eq_true rfl) ⟨Nat.le_refl _, Nat.le_refl _⟩ ⟨Nat.le_refl _, Nat.le_refl _⟩ ?_
    obtain ⟨rfl, rfl⟩ := oRes h
    exact oe_iret (pc := 9) d_X12_isFlow_9 ⟨_, rfl, rfl⟩
theorem d_X12_loses_0 : decode J_X12_loses.2.1 0 = .ok (.iload_n 1, 1) := by decide +kernel
theorem d_X12_loses_1 : decode J_X12_loses.2.1 1 = .ok (.invokestatic 169, 3) := by decide +kernel
theorem d_X12_loses_4 : decode J_X12_loses.2.1 4 = .ok (.ifCond .eq 19, 3) := by decide +kernel
theorem d_X12_loses_7 : decode J_X12_loses.2.1 7 = .ok (.iload_n 2, 1) := by decide +kernel
theorem d_X12_loses_8 : decode J_X12_loses.2.1 8 = .ok (.invokestatic 210, 3) := by decide +kernel
theorem d_X12_loses_11 : decode J_X12_loses.2.1 11 = .ok (.ifCond .eq 12, 3) := by decide +kernel
theorem d_X12_loses_14 : decode J_X12_loses.2.1 14 = .ok (.aload_n 0, 1) := by decide +kernel
theorem d_X12_loses_15 : decode J_X12_loses.2.1 15 = .ok (.iload_n 1, 1) := by decide +kernel
theorem d_X12_loses_16 : decode J_X12_loses.2.1 16 = .ok (.iload_n 2, 1) := by decide +kernel
theorem d_X12_loses_17 : decode J_X12_loses.2.1 17 = .ok (.invokevirtual 213, 3) := by decide +kernel
theorem d_X12_loses_20 : decode J_X12_loses.2.1 20 = .ok (.goto 4, 3) := by decide +kernel
theorem d_X12_loses_23 : decode J_X12_loses.2.1 23 = .ok (.iconst (-1), 1) := by decide +kernel
theorem d_X12_loses_24 : decode J_X12_loses.2.1 24 = .ok (.ireturn, 1) := by decide +kernel
def f_X12_loses (N : Nat) (K : oK) (p1 : Int32) (p2 : Int32) (M : oM) : Option (Int32 × oM) :=
  oB2 (f_X12_isBore N K p1 M) (fun v1 M2 => cond v1 (oB2 (f_X12_isFlow N K p2 M2) (fun v4 M5 => cond v4 (oB2 (f_X12_losesAt N K p1 p2 M5) (fun v7 M8 => some (v7, M8))) (some ((-1), M5)))) (some ((-1), M2)))
set_option maxRecDepth 20000 in
theorem v_X12_loses {X : oX} {N : Nat} {K : oK} {p1 : Int32} {p2 : Int32} {M : oM} {v : Int32} {M' : oM} (hK : oSR K)  (h : f_X12_loses N K p1 p2 M = some (v, M')) : oMet X 3 J_X12_loses [(.ref 59), (.int p1), (.int p2)] K M (some (.int v)) K M' := by
  unfold f_X12_loses at h
  refine oMet_of (L := [some (.ref 59), some (.int p1), some (.int p2)]) jJ_X12_loses.1 rfl (Nat.le_of_ble_eq_true rfl) rfl (Nat.le_refl _) (Nat.le_refl _) ?_
  have hd : 3 ≤ 3 := Nat.le_refl _
  refine oe_iload_n (pc := 0) d_X12_loses_0 rfl ?_
  obtain ⟨v1, M2, q3, h⟩ := oB2_some h
  cases v1 with
  | true =>
    replace h := oCt h
    refine oe_callS (pc := 1) d_X12_loses_1 (v_X12_isBore hK  q3) (by omega) ml_X12_169 jJ_X12_isBore rfl rfl (Nat.le_of_ble_eq_true rfl) ⟨Nat.le_refl _, Nat.le_refl _⟩ ⟨Nat.le_refl _, Nat.le_refl _⟩ ?_
    refine oe_if_eq (pc := 4) (tgt := 23) d_X12_loses_4 (by decide) (fun c => absurd c (by decide)) (fun _ => ?_)
    refine oe_iload_n (pc := 7) d_X12_loses_7 rfl ?_
    obtain ⟨v4, M5, q6, h⟩ := oB2_some h
    cases v4 with
    | true =>
      replace h := oCt h
      refine oe_callS (pc := 8) d_X12_loses_8 (v_X12_isFlow hK  q6) (by omega) ml_X12_210 jJ_X12_isFlow rfl rfl (Nat.le_of_ble_eq_true rfl) ⟨Nat.le_refl _, Nat.le_refl _⟩ ⟨Nat.le_refl _, Nat.le_refl _⟩ ?_
      refine oe_if_eq (pc := 11) (tgt := 23) d_X12_loses_11 (by decide) (fun c => absurd c (by decide)) (fun _ => ?_)
      refine oe_aload_n (pc := 14) d_X12_loses_14 rfl ?_
      refine oe_iload_n (pc := 15) d_X12_loses_15 rfl ?_
      refine oe_iload_n (pc := 16) d_X12_loses_16 rfl ?_
      obtain ⟨v7, M8, q9, h⟩ := oB2_some h
      refine oe_callV (pc := 17) (ci := 12) d_X12_loses_17 (v_X12_losesAt hK  q9) (by omega) ml_X12_213 jJ_X12_losesAt rfl rfl (oLt hK (a := 59) (Nat.le_of_ble_eq_true rfl)) (oSho hK (a := 59) (Nat.le_of_ble_eq_true rfl) rfl) ock12 rfl (Nat.le_of_ble_eq_true rfl) ⟨Nat.le_refl _, Nat.le_refl _⟩ ⟨Nat.le_refl _, Nat.le_refl _⟩ ?_
      refine oe_goto (pc := 20) (tgt := 24) d_X12_loses_20 (by decide) ?_
      obtain ⟨rfl, rfl⟩ := oRes h
      exact oe_iret (pc := 24) d_X12_loses_24 ⟨_, rfl, rfl⟩
    | false =>
      replace h := oCf h
      refine oe_callS (pc := 8) d_X12_loses_8 (v_X12_isFlow hK  q6) (by omega) ml_X12_210 jJ_X12_isFlow rfl rfl (Nat.le_of_ble_eq_true rfl) ⟨Nat.le_refl _, Nat.le_refl _⟩ ⟨Nat.le_refl _, Nat.le_refl _⟩ ?_
      refine oe_if_eq (pc := 11) (tgt := 23) d_X12_loses_11 (by decide) (fun _ => ?_) (fun c => absurd (by decide) c)
      refine oe_iconst (pc := 23) (v := (-1)) d_X12_loses_23 rfl ?_
      obtain ⟨rfl, rfl⟩ := oRes h
      exact oe_iret (pc := 24) d_X12_loses_24 ⟨_, rfl, rfl⟩
  | false =>
    replace h := oCf h
    refine oe_callS (pc := 1) d_X12_loses_1 (v_X12_isBore hK  q3) (by omega) ml_X12_169 jJ_X12_isBore rfl rfl (Nat.le_of_ble_eq_true rfl) ⟨Nat.le_refl _, Nat.le_refl _⟩ ⟨Nat.le_refl _, Nat.le_refl _⟩ ?_
    refine oe_if_eq (pc := 4) (tgt := 23) d_X12_loses_4 (by decide) (fun _ => ?_) (fun c => absurd (by decide) c)
    refine oe_iconst (pc := 23) (v := (-1)) d_X12_loses_23 rfl ?_
    obtain ⟨rfl, rfl⟩ := oRes h
    exact oe_iret (pc := 24) d_X12_loses_24 ⟨_, rfl, rfl⟩
theorem d_X12_lifts_0 : decode J_X12_lifts.2.1 0 = .ok (.aload_n 0, 1) := by decide +kernel
theorem d_X12_lifts_1 : decode J_X12_lifts.2.1 1 = .ok (.iload_n 1, 1) := by decide +kernel
theorem d_X12_lifts_2 : decode J_X12_lifts.2.1 2 = .ok (.invokevirtual 216, 3) := by decide +kernel
theorem d_X12_lifts_5 : decode J_X12_lifts.2.1 5 = .ok (.ifCond .eq 19, 3) := by decide +kernel
theorem d_X12_lifts_8 : decode J_X12_lifts.2.1 8 = .ok (.iload_n 2, 1) := by decide +kernel
theorem d_X12_lifts_9 : decode J_X12_lifts.2.1 9 = .ok (.invokestatic 210, 3) := by decide +kernel
theorem d_X12_lifts_12 : decode J_X12_lifts.2.1 12 = .ok (.ifCond .eq 12, 3) := by decide +kernel
theorem d_X12_lifts_15 : decode J_X12_lifts.2.1 15 = .ok (.aload_n 0, 1) := by decide +kernel
theorem d_X12_lifts_16 : decode J_X12_lifts.2.1 16 = .ok (.iload_n 1, 1) := by decide +kernel
theorem d_X12_lifts_17 : decode J_X12_lifts.2.1 17 = .ok (.iload_n 2, 1) := by decide +kernel
theorem d_X12_lifts_18 : decode J_X12_lifts.2.1 18 = .ok (.invokevirtual 219, 3) := by decide +kernel
theorem d_X12_lifts_21 : decode J_X12_lifts.2.1 21 = .ok (.goto 4, 3) := by decide +kernel
theorem d_X12_lifts_24 : decode J_X12_lifts.2.1 24 = .ok (.iconst (-1), 1) := by decide +kernel
theorem d_X12_lifts_25 : decode J_X12_lifts.2.1 25 = .ok (.ireturn, 1) := by decide +kernel
def f_X12_lifts (N : Nat) (K : oK) (p1 : Int32) (p2 : Int32) (M : oM) : Option (Int32 × oM) :=
  oB2 (f_X12_isEngine N K p1 M) (fun v1 M2 => cond v1 (oB2 (f_X12_isFlow N K p2 M2) (fun v4 M5 => cond v4 (oB2 (f_X12_liftsAt N K p1 p2 M5) (fun v7 M8 => some (v7, M8))) (some ((-1), M5)))) (some ((-1), M2)))
set_option maxRecDepth 20000 in
theorem v_X12_lifts {X : oX} {N : Nat} {K : oK} {p1 : Int32} {p2 : Int32} {M : oM} {v : Int32} {M' : oM} (hK : oSR K)  (h : f_X12_lifts N K p1 p2 M = some (v, M')) : oMet X 3 J_X12_lifts [(.ref 59), (.int p1), (.int p2)] K M (some (.int v)) K M' := by
  unfold f_X12_lifts at h
  refine oMet_of (L := [some (.ref 59), some (.int p1), some (.int p2)]) jJ_X12_lifts.1 rfl (Nat.le_of_ble_eq_true rfl) rfl (Nat.le_refl _) (Nat.le_refl _) ?_
  have hd : 3 ≤ 3 := Nat.le_refl _
  refine oe_aload_n (pc := 0) d_X12_lifts_0 rfl ?_
  refine oe_iload_n (pc := 1) d_X12_lifts_1 rfl ?_
  obtain ⟨v1, M2, q3, h⟩ := oB2_some h
  cases v1 with
  | true =>
    replace h := oCt h
    refine oe_callV (pc := 2) (ci := 12) d_X12_lifts_2 (v_X12_isEngine hK  q3) (by omega) ml_X12_216 jJ_X12_isEngine rfl rfl (oLt hK (a := 59) (Nat.le_of_ble_eq_true rfl)) (oSho hK (a := 59) (Nat.le_of_ble_eq_true rfl) rfl) ock12 rfl (Nat.le_of_ble_eq_true rfl) ⟨Nat.le_refl _, Nat.le_refl _⟩ ⟨Nat.le_refl _, Nat.le_refl _⟩ ?_
    refine oe_if_eq (pc := 5) (tgt := 24) d_X12_lifts_5 (by decide) (fun c => absurd c (by decide)) (fun _ => ?_)
    refine oe_iload_n (pc := 8) d_X12_lifts_8 rfl ?_
    obtain ⟨v4, M5, q6, h⟩ := oB2_some h
    cases v4 with
    | true =>
      replace h := oCt h
      refine oe_callS (pc := 9) d_X12_lifts_9 (v_X12_isFlow hK  q6) (by omega) ml_X12_210 jJ_X12_isFlow rfl rfl (Nat.le_of_ble_eq_true rfl) ⟨Nat.le_refl _, Nat.le_refl _⟩ ⟨Nat.le_refl _, Nat.le_refl _⟩ ?_
      refine oe_if_eq (pc := 12) (tgt := 24) d_X12_lifts_12 (by decide) (fun c => absurd c (by decide)) (fun _ => ?_)
      refine oe_aload_n (pc := 15) d_X12_lifts_15 rfl ?_
      refine oe_iload_n (pc := 16) d_X12_lifts_16 rfl ?_
      refine oe_iload_n (pc := 17) d_X12_lifts_17 rfl ?_
      obtain ⟨v7, M8, q9, h⟩ := oB2_some h
      refine oe_callV (pc := 18) (ci := 12) d_X12_lifts_18 (v_X12_liftsAt hK  q9) (by omega) ml_X12_219 jJ_X12_liftsAt rfl rfl (oLt hK (a := 59) (Nat.le_of_ble_eq_true rfl)) (oSho hK (a := 59) (Nat.le_of_ble_eq_true rfl) rfl) ock12 rfl (Nat.le_of_ble_eq_true rfl) ⟨Nat.le_refl _, Nat.le_refl _⟩ ⟨Nat.le_refl _, Nat.le_refl _⟩ ?_
      refine oe_goto (pc := 21) (tgt := 25) d_X12_lifts_21 (by decide) ?_
      obtain ⟨rfl, rfl⟩ := oRes h
      exact oe_iret (pc := 25) d_X12_lifts_25 ⟨_, rfl, rfl⟩
    | false =>
      replace h := oCf h
      refine oe_callS (pc := 9) d_X12_lifts_9 (v_X12_isFlow hK  q6) (by omega) ml_X12_210 jJ_X12_isFlow rfl rfl (Nat.le_of_ble_eq_true rfl) ⟨Nat.le_refl _, Nat.le_refl _⟩ ⟨Nat.le_refl _, Nat.le_refl _⟩ ?_
      refine oe_if_eq (pc := 12) (tgt := 24) d_X12_lifts_12 (by decide) (fun _ => ?_) (fun c => absurd (by decide) c)
      refine oe_iconst (pc := 24) (v := (-1)) d_X12_lifts_24 rfl ?_
      obtain ⟨rfl, rfl⟩ := oRes h
      exact oe_iret (pc := 25) d_X12_lifts_25 ⟨_, rfl, rfl⟩
  | false =>
    replace h := oCf h
    refine oe_callV (pc := 2) (ci := 12) d_X12_lifts_2 (v_X12_isEngine hK  q3) (by omega) ml_X12_216 jJ_X12_isEngine rfl rfl (oLt hK (a := 59) (Nat.le_of_ble_eq_true rfl)) (oSho hK (a := 59) (Nat.le_of_ble_eq_true rfl) rfl) ock12 rfl (Nat.le_of_ble_eq_true rfl) ⟨Nat.le_refl _, Nat.le_refl _⟩ ⟨Nat.le_refl _, Nat.le_refl _⟩ ?_
    refine oe_if_eq (pc := 5) (tgt := 24) d_X12_lifts_5 (by decide) (fun _ => ?_) (fun c => absurd (by decide) c)
    refine oe_iconst (pc := 24) (v := (-1)) d_X12_lifts_24 rfl ?_
    obtain ⟨rfl, rfl⟩ := oRes h
    exact oe_iret (pc := 25) d_X12_lifts_25 ⟨_, rfl, rfl⟩
theorem d_X12_isLaying_0 : decode J_X12_isLaying.2.1 0 = .ok (.iload_n 1, 1) := by decide +kernel
theorem d_X12_isLaying_1 : decode J_X12_isLaying.2.1 1 = .ok (.i2l, 1) := by decide +kernel
theorem d_X12_isLaying_2 : decode J_X12_isLaying.2.1 2 = .ok (.lconst 0, 1) := by decide +kernel
theorem d_X12_isLaying_3 : decode J_X12_isLaying.2.1 3 = .ok (.aload_n 0, 1) := by decide +kernel
theorem d_X12_isLaying_4 : decode J_X12_isLaying.2.1 4 = .ok (.getfield 222, 3) := by decide +kernel
theorem d_X12_isLaying_7 : decode J_X12_isLaying.2.1 7 = .ok (.iconst 1, 1) := by decide +kernel
theorem d_X12_isLaying_8 : decode J_X12_isLaying.2.1 8 = .ok (.isub, 1) := by decide +kernel
theorem d_X12_isLaying_9 : decode J_X12_isLaying.2.1 9 = .ok (.i2l, 1) := by decide +kernel
theorem d_X12_isLaying_10 : decode J_X12_isLaying.2.1 10 = .ok (.invokestatic 145, 3) := by decide +kernel
theorem d_X12_isLaying_13 : decode J_X12_isLaying.2.1 13 = .ok (.ireturn, 1) := by decide +kernel
def f_X12_isLaying (N : Nat) (K : oK) (p1 : Int32) (M : oM) : Option (Bool × oM) :=
  oB2 (f_X12_within N K ((p1 : Int32).toInt64) 0 ((((M.1 59 20) - 1) : Int32).toInt64) M) (fun v1 M2 => cond v1 (some (true, M2)) (some (false, M2)))
set_option maxRecDepth 20000 in
theorem v_X12_isLaying {X : oX} {N : Nat} {K : oK} {p1 : Int32} {M : oM} {v : Bool} {M' : oM} (hK : oSR K)  (h : f_X12_isLaying N K p1 M = some (v, M')) : oMet X 2 J_X12_isLaying [(.ref 59), (.int p1)] K M (some (.int (oBi v))) K M' := by
  unfold f_X12_isLaying at h
  refine oMet_of (L := [some (.ref 59), some (.int p1)]) jJ_X12_isLaying.1 rfl (Nat.le_of_ble_eq_true rfl) rfl (Nat.le_refl _) (Nat.le_refl _) ?_
  have hd : 2 ≤ 2 := Nat.le_refl _
  refine oe_iload_n (pc := 0) d_X12_isLaying_0 rfl ?_
  refine oe_i2l (pc := 1) d_X12_isLaying_1 ?_
  refine oe_lconst (pc := 2) (v := 0) d_X12_isLaying_2 rfl ?_
  refine oe_aload_n (pc := 3) d_X12_isLaying_3 rfl ?_
  refine oe_getf (pc := 4) d_X12_isLaying_4 fl_X12_222 ock12 (k := 20) (Nat.le_of_ble_eq_true rfl) rfl (oLt hK (a := 59) (Nat.le_of_ble_eq_true rfl)) (oSho hK (a := 59) (Nat.le_of_ble_eq_true rfl) rfl) ?_
  refine oe_iconst (pc := 7) (v := 1) d_X12_isLaying_7 rfl ?_
  refine oe_isub (pc := 8) d_X12_isLaying_8 ?_
  refine oe_i2l (pc := 9) d_X12_isLaying_9 ?_
  obtain ⟨v1, M2, q3, h⟩ := oB2_some h
  cases v1 with
  | true =>
    replace h := oCt h
    refine oe_callS (pc := 10) d_X12_isLaying_10 (v_X12_within hK  q3) (by omega) ml_X12_145 jJ_X12_within rfl rfl (Nat.le_of_ble_eq_true rfl) ⟨Nat.le_refl _, Nat.le_refl _⟩ ⟨Nat.le_refl _, Nat.le_refl _⟩ ?_
    obtain ⟨rfl, rfl⟩ := oRes h
    exact oe_iret (pc := 13) d_X12_isLaying_13 ⟨_, rfl, rfl⟩
  | false =>
    replace h := oCf h
    refine oe_callS (pc := 10) d_X12_isLaying_10 (v_X12_within hK  q3) (by omega) ml_X12_145 jJ_X12_within rfl rfl (Nat.le_of_ble_eq_true rfl) ⟨Nat.le_refl _, Nat.le_refl _⟩ ⟨Nat.le_refl _, Nat.le_refl _⟩ ?_
    obtain ⟨rfl, rfl⟩ := oRes h
    exact oe_iret (pc := 13) d_X12_isLaying_13 ⟨_, rfl, rfl⟩
theorem d_X12_kindOf_0 : decode J_X12_kindOf.2.1 0 = .ok (.aload_n 0, 1) := by decide +kernel
theorem d_X12_kindOf_1 : decode J_X12_kindOf.2.1 1 = .ok (.getfield 49, 3) := by decide +kernel
theorem d_X12_kindOf_4 : decode J_X12_kindOf.2.1 4 = .ok (.iload_n 1, 1) := by decide +kernel
theorem d_X12_kindOf_5 : decode J_X12_kindOf.2.1 5 = .ok (.iaload, 1) := by decide +kernel
theorem d_X12_kindOf_6 : decode J_X12_kindOf.2.1 6 = .ok (.ireturn, 1) := by decide +kernel
def f_X12_kindOf (N : Nat) (K : oK) (p1 : Int32) (M : oM) : Option (Int32 × oM) :=
  oIx (p1) 20 (some ((M.1 73 (p1 : Int32).toNatClampNeg), M))
set_option maxRecDepth 20000 in
theorem v_X12_kindOf {X : oX} {N : Nat} {K : oK} {p1 : Int32} {M : oM} {v : Int32} {M' : oM} (hK : oSR K)  (h : f_X12_kindOf N K p1 M = some (v, M')) : oMet X 1 J_X12_kindOf [(.ref 59), (.int p1)] K M (some (.int v)) K M' := by
  unfold f_X12_kindOf at h
  refine oMet_of (L := [some (.ref 59), some (.int p1)]) jJ_X12_kindOf.1 rfl (Nat.le_of_ble_eq_true rfl) rfl (Nat.le_refl _) (Nat.le_refl _) ?_
  have hd : 1 ≤ 1 := Nat.le_refl _
  refine oe_aload_n (pc := 0) d_X12_kindOf_0 rfl ?_
  refine oe_getr (pc := 1) d_X12_kindOf_1 fl_X12_49 ock12 (k := 21) (b := 73) (Nat.le_of_ble_eq_true rfl) (by decide) (oLt hK (a := 59) (Nat.le_of_ble_eq_true rfl)) (oSho hK (a := 59) (Nat.le_of_ble_eq_true rfl) rfl) (oRfK hK rfl) ?_
  refine oe_iload_n (pc := 4) d_X12_kindOf_4 rfl ?_
  obtain ⟨i1, h⟩ := oIx_some h
  refine oe_iald (pc := 5) d_X12_kindOf_5 (oLt hK (a := 73) (Nat.le_of_ble_eq_true rfl)) (oSha hK (a := 73) (Nat.le_of_ble_eq_true rfl) rfl) i1 ?_
  obtain ⟨rfl, rfl⟩ := oRes h
  exact oe_iret (pc := 6) d_X12_kindOf_6 ⟨_, rfl, rfl⟩
theorem d_X12_laying_0 : decode J_X12_laying.2.1 0 = .ok (.iload_n 1, 1) := by decide +kernel
theorem d_X12_laying_1 : decode J_X12_laying.2.1 1 = .ok (.i2l, 1) := by decide +kernel
theorem d_X12_laying_2 : decode J_X12_laying.2.1 2 = .ok (.lconst 0, 1) := by decide +kernel
theorem d_X12_laying_3 : decode J_X12_laying.2.1 3 = .ok (.ldc2_w 225, 3) := by decide +kernel
theorem d_X12_laying_6 : decode J_X12_laying.2.1 6 = .ok (.invokestatic 145, 3) := by decide +kernel
theorem d_X12_laying_9 : decode J_X12_laying.2.1 9 = .ok (.ifCond .eq 11, 3) := by decide +kernel
theorem d_X12_laying_12 : decode J_X12_laying.2.1 12 = .ok (.aload_n 0, 1) := by decide +kernel
theorem d_X12_laying_13 : decode J_X12_laying.2.1 13 = .ok (.iload_n 2, 1) := by decide +kernel
theorem d_X12_laying_14 : decode J_X12_laying.2.1 14 = .ok (.invokevirtual 159, 3) := by decide +kernel
theorem d_X12_laying_17 : decode J_X12_laying.2.1 17 = .ok (.ifCond .ne 5, 3) := by decide +kernel
theorem d_X12_laying_20 : decode J_X12_laying.2.1 20 = .ok (.iconst (-1), 1) := by decide +kernel
theorem d_X12_laying_21 : decode J_X12_laying.2.1 21 = .ok (.ireturn, 1) := by decide +kernel
theorem d_X12_laying_22 : decode J_X12_laying.2.1 22 = .ok (.aload_n 0, 1) := by decide +kernel
theorem d_X12_laying_23 : decode J_X12_laying.2.1 23 = .ok (.getfield 222, 3) := by decide +kernel
theorem d_X12_laying_26 : decode J_X12_laying.2.1 26 = .ok (.bipush 20, 2) := by decide +kernel
theorem d_X12_laying_28 : decode J_X12_laying.2.1 28 = .ok (.if_icmp .ne 6, 3) := by decide +kernel
theorem d_X12_laying_31 : decode J_X12_laying.2.1 31 = .ok (.bipush (-3), 2) := by decide +kernel
theorem d_X12_laying_33 : decode J_X12_laying.2.1 33 = .ok (.ireturn, 1) := by decide +kernel
theorem d_X12_laying_34 : decode J_X12_laying.2.1 34 = .ok (.aload_n 0, 1) := by decide +kernel
theorem d_X12_laying_35 : decode J_X12_laying.2.1 35 = .ok (.getfield 49, 3) := by decide +kernel
theorem d_X12_laying_38 : decode J_X12_laying.2.1 38 = .ok (.aload_n 0, 1) := by decide +kernel
theorem d_X12_laying_39 : decode J_X12_laying.2.1 39 = .ok (.getfield 222, 3) := by decide +kernel
theorem d_X12_laying_42 : decode J_X12_laying.2.1 42 = .ok (.iload_n 1, 1) := by decide +kernel
theorem d_X12_laying_43 : decode J_X12_laying.2.1 43 = .ok (.iastore, 1) := by decide +kernel
theorem d_X12_laying_44 : decode J_X12_laying.2.1 44 = .ok (.aload_n 0, 1) := by decide +kernel
theorem d_X12_laying_45 : decode J_X12_laying.2.1 45 = .ok (.getfield 52, 3) := by decide +kernel
theorem d_X12_laying_48 : decode J_X12_laying.2.1 48 = .ok (.aload_n 0, 1) := by decide +kernel
theorem d_X12_laying_49 : decode J_X12_laying.2.1 49 = .ok (.getfield 222, 3) := by decide +kernel
theorem d_X12_laying_52 : decode J_X12_laying.2.1 52 = .ok (.iload_n 2, 1) := by decide +kernel
theorem d_X12_laying_53 : decode J_X12_laying.2.1 53 = .ok (.iastore, 1) := by decide +kernel
theorem d_X12_laying_54 : decode J_X12_laying.2.1 54 = .ok (.aload_n 0, 1) := by decide +kernel
theorem d_X12_laying_55 : decode J_X12_laying.2.1 55 = .ok (.getfield 55, 3) := by decide +kernel
theorem d_X12_laying_58 : decode J_X12_laying.2.1 58 = .ok (.aload_n 0, 1) := by decide +kernel
theorem d_X12_laying_59 : decode J_X12_laying.2.1 59 = .ok (.getfield 222, 3) := by decide +kernel
theorem d_X12_laying_62 : decode J_X12_laying.2.1 62 = .ok (.iload_n 2, 1) := by decide +kernel
theorem d_X12_laying_63 : decode J_X12_laying.2.1 63 = .ok (.iastore, 1) := by decide +kernel
theorem d_X12_laying_64 : decode J_X12_laying.2.1 64 = .ok (.aload_n 0, 1) := by decide +kernel
theorem d_X12_laying_65 : decode J_X12_laying.2.1 65 = .ok (.dup, 1) := by decide +kernel
theorem d_X12_laying_66 : decode J_X12_laying.2.1 66 = .ok (.getfield 222, 3) := by decide +kernel
theorem d_X12_laying_69 : decode J_X12_laying.2.1 69 = .ok (.iconst 1, 1) := by decide +kernel
theorem d_X12_laying_70 : decode J_X12_laying.2.1 70 = .ok (.iadd, 1) := by decide +kernel
theorem d_X12_laying_71 : decode J_X12_laying.2.1 71 = .ok (.putfield 222, 3) := by decide +kernel
theorem d_X12_laying_74 : decode J_X12_laying.2.1 74 = .ok (.aload_n 0, 1) := by decide +kernel
theorem d_X12_laying_75 : decode J_X12_laying.2.1 75 = .ok (.getfield 222, 3) := by decide +kernel
theorem d_X12_laying_78 : decode J_X12_laying.2.1 78 = .ok (.iconst 1, 1) := by decide +kernel
theorem d_X12_laying_79 : decode J_X12_laying.2.1 79 = .ok (.isub, 1) := by decide +kernel
theorem d_X12_laying_80 : decode J_X12_laying.2.1 80 = .ok (.ireturn, 1) := by decide +kernel
def f_X12_laying (N : Nat) (K : oK) (p1 : Int32) (p2 : Int32) (M : oM) : Option (Int32 × oM) :=
  oB2 (f_X12_within N K ((p1 : Int32).toInt64) 0 5 M) (fun v1 M2 => cond v1 (oB2 (f_X12_isPoint N K p2 M2) (fun v4 M5 => cond v4 ((if (M5.1 59 20) = 20 then some ((-3), M5) else oIx ((M5.1 59 20)) 20 (oIx (((oUp M5 73 ((M5.1 59 20) : Int32).toNatClampNeg p1).1 59 20)) 20 (oIx (((oUp (oUp M5 73 ((M5.1 59 20) : Int32).toNatClampNeg p1) 74 (((oUp M5 73 ((M5.1 59 20) : Int32).toNatClampNeg p1).1 59 20) : Int32).toNatClampNeg p2).1 59 20)) 20 (some ((((oUp (oUp (oUp (oUp M5 73 ((M5.1 59 20) : Int32).toNatClampNeg p1) 74 (((oUp M5 73 ((M5.1 59 20) : Int32).toNatClampNeg p1).1 59 20) : Int32).toNatClampNeg p2) 75 (((oUp (oUp M5 73 ((M5.1 59 20) : Int32).toNatClampNeg p1) 74 (((oUp M5 73 ((M5.1 59 20) : Int32).toNatClampNeg p1).1 59 20) : Int32).toNatClampNeg p2).1 59 20) : Int32).toNatClampNeg p2) 59 20 (((oUp (oUp (oUp M5 73 ((M5.1 59 20) : Int32).toNatClampNeg p1) 74 (((oUp M5 73 ((M5.1 59 20) : Int32).toNatClampNeg p1).1 59 20) : Int32).toNatClampNeg p2) 75 (((oUp (oUp M5 73 ((M5.1 59 20) : Int32).toNatClampNeg p1) 74 (((oUp M5 73 ((M5.1 59 20) : Int32).toNatClampNeg p1).1 59 20) : Int32).toNatClampNeg p2).1 59 20) : Int32).toNatClampNeg p2).1 59 20) + 1)).1 59 20) - 1), (oUp (oUp (oUp (oUp M5 73 ((M5.1 59 20) : Int32).toNatClampNeg p1) 74 (((oUp M5 73 ((M5.1 59 20) : Int32).toNatClampNeg p1).1 59 20) : Int32).toNatClampNeg p2) 75 (((oUp (oUp M5 73 ((M5.1 59 20) : Int32).toNatClampNeg p1) 74 (((oUp M5 73 ((M5.1 59 20) : Int32).toNatClampNeg p1).1 59 20) : Int32).toNatClampNeg p2).1 59 20) : Int32).toNatClampNeg p2) 59 20 (((oUp (oUp (oUp M5 73 ((M5.1 59 20) : Int32).toNatClampNeg p1) 74 (((oUp M5 73 ((M5.1 59 20) : Int32).toNatClampNeg p1).1 59 20) : Int32).toNatClampNeg p2) 75 (((oUp (oUp M5 73 ((M5.1 59 20) : Int32).toNatClampNeg p1) 74 (((oUp M5 73 ((M5.1 59 20) : Int32).toNatClampNeg p1).1 59 20) : Int32).toNatClampNeg p2).1 59 20) : Int32).toNatClampNeg p2).1 59 20) + 1)))))))) (some ((-1), M5)))) (some ((-1), M2)))
set_option maxRecDepth 20000 in
theorem v_X12_laying {X : oX} {N : Nat} {K : oK} {p1 : Int32} {p2 : Int32} {M : oM} {v : Int32} {M' : oM} (hK : oSR K)  (h : f_X12_laying N K p1 p2 M = some (v, M')) : oMet X 3 J_X12_laying [(.ref 59), (.int p1), (.int p2)] K M (some (.int v)) K M' := by
  unfold f_X12_laying at h
  refine oMet_of (L := [some (.ref 59), some (.int p1), some (.int p2)]) jJ_X12_laying.1 rfl (Nat.le_of_ble_eq_true rfl) rfl (Nat.le_refl _) (Nat.le_refl _) ?_
  have hd : 3 ≤ 3 := Nat.le_refl _
  refine oe_iload_n (pc := 0) d_X12_laying_0 rfl ?_
  refine oe_i2l (pc := 1) d_X12_laying_1 ?_
  refine oe_lconst (pc := 2) (v := 0) d_X12_laying_2 rfl ?_
  refine oe_ldc2 (pc := 3) d_X12_laying_3 co_X12_225 ?_
  obtain ⟨v1, M2, q3, h⟩ := oB2_some h
  cases v1 with
  | true =>
    replace h := oCt h
    refine oe_callS (pc := 6) d_X12_laying_6 (v_X12_within hK  q3) (by omega) ml_X12_145 jJ_X12_within rfl rfl (Nat.le_of_ble_eq_true rfl) ⟨Nat.le_refl _, Nat.le_refl _⟩ ⟨Nat.le_refl _, Nat.le_refl _⟩ ?_
    refine oe_if_eq (pc := 9) (tgt := 20) d_X12_laying_9 (by decide) (fun c => absurd c (by decide)) (fun _ => ?_)
    refine oe_aload_n (pc := 12) d_X12_laying_12 rfl ?_
    refine oe_iload_n (pc := 13) d_X12_laying_13 rfl ?_
    obtain ⟨v4, M5, q6, h⟩ := oB2_some h
    cases v4 with
    | true =>
      replace h := oCt h
      refine oe_callV (pc := 14) (ci := 12) d_X12_laying_14 (v_X12_isPoint hK  q6) (by omega) ml_X12_159 jJ_X12_isPoint rfl rfl (oLt hK (a := 59) (Nat.le_of_ble_eq_true rfl)) (oSho hK (a := 59) (Nat.le_of_ble_eq_true rfl) rfl) ock12 rfl (Nat.le_of_ble_eq_true rfl) ⟨Nat.le_refl _, Nat.le_refl _⟩ ⟨Nat.le_refl _, Nat.le_refl _⟩ ?_
      refine oe_if_ne (pc := 17) (tgt := 22) d_X12_laying_17 (by decide) (fun _ => ?_) (fun c => absurd c (by decide))
      refine oe_aload_n (pc := 22) d_X12_laying_22 rfl ?_
      refine oe_getf (pc := 23) d_X12_laying_23 fl_X12_222 ock12 (k := 20) (Nat.le_of_ble_eq_true rfl) rfl (oLt hK (a := 59) (Nat.le_of_ble_eq_true rfl)) (oSho hK (a := 59) (Nat.le_of_ble_eq_true rfl) rfl) ?_
      refine oe_bipush (pc := 26) (v := 20) d_X12_laying_26 rfl ?_
      refine oe_icmp_ne (pc := 28) (tgt := 34) d_X12_laying_28 (by decide) (fun c7 => ?_) (fun c7 => ?_)
      · replace h := (if_neg c7).symm.trans h
        refine oe_aload_n (pc := 34) d_X12_laying_34 rfl ?_
        refine oe_getr (pc := 35) d_X12_laying_35 fl_X12_49 ock12 (k := 21) (b := 73) (Nat.le_of_ble_eq_true rfl) (by decide) (oLt hK (a := 59) (Nat.le_of_ble_eq_true rfl)) (oSho hK (a := 59) (Nat.le_of_ble_eq_true rfl) rfl) (oRfK hK rfl) ?_
        refine oe_aload_n (pc := 38) d_X12_laying_38 rfl ?_
        refine oe_getf (pc := 39) d_X12_laying_39 fl_X12_222 ock12 (k := 20) (Nat.le_of_ble_eq_true rfl) rfl (oLt hK (a := 59) (Nat.le_of_ble_eq_true rfl)) (oSho hK (a := 59) (Nat.le_of_ble_eq_true rfl) rfl) ?_
        refine oe_iload_n (pc := 42) d_X12_laying_42 rfl ?_
        obtain ⟨i8, h⟩ := oIx_some h
        refine oe_iast (pc := 43) d_X12_laying_43 (oLt hK (a := 73) (Nat.le_of_ble_eq_true rfl)) (oSha hK (a := 73) (Nat.le_of_ble_eq_true rfl) rfl) i8 ?_
        refine oe_aload_n (pc := 44) d_X12_laying_44 rfl ?_
        refine oe_getr (pc := 45) d_X12_laying_45 fl_X12_52 ock12 (k := 22) (b := 74) (Nat.le_of_ble_eq_true rfl) (by decide) (oLt hK (a := 59) (Nat.le_of_ble_eq_true rfl)) (oSho hK (a := 59) (Nat.le_of_ble_eq_true rfl) rfl) (oRfK hK rfl) ?_
        refine oe_aload_n (pc := 48) d_X12_laying_48 rfl ?_
        refine oe_getf (pc := 49) d_X12_laying_49 fl_X12_222 ock12 (k := 20) (Nat.le_of_ble_eq_true rfl) rfl (oLt hK (a := 59) (Nat.le_of_ble_eq_true rfl)) (oSho hK (a := 59) (Nat.le_of_ble_eq_true rfl) rfl) ?_
        refine oe_iload_n (pc := 52) d_X12_laying_52 rfl ?_
        obtain ⟨i9, h⟩ := oIx_some h
        refine oe_iast (pc := 53) d_X12_laying_53 (oLt hK (a := 74) (Nat.le_of_ble_eq_true rfl)) (oSha hK (a := 74) (Nat.le_of_ble_eq_true rfl) rfl) i9 ?_
        refine oe_aload_n (pc := 54) d_X12_laying_54 rfl ?_
        refine oe_getr (pc := 55) d_X12_laying_55 fl_X12_55 ock12 (k := 23) (b := 75) (Nat.le_of_ble_eq_true rfl) (by decide) (oLt hK (a := 59) (Nat.le_of_ble_eq_true rfl)) (oSho hK (a := 59) (Nat.le_of_ble_eq_true rfl) rfl) (oRfK hK rfl) ?_
        refine oe_aload_n (pc := 58) d_X12_laying_58 rfl ?_
        refine oe_getf (pc := 59) d_X12_laying_59 fl_X12_222 ock12 (k := 20) (Nat.le_of_ble_eq_true rfl) rfl (oLt hK (a := 59) (Nat.le_of_ble_eq_true rfl)) (oSho hK (a := 59) (Nat.le_of_ble_eq_true rfl) rfl) ?_
        refine oe_iload_n (pc := 62) d_X12_laying_62 rfl ?_
        obtain ⟨i10, h⟩ := oIx_some h
        refine oe_iast (pc := 63) d_X12_laying_63 (oLt hK (a := 75) (Nat.le_of_ble_eq_true rfl)) (oSha hK (a := 75) (Nat.le_of_ble_eq_true rfl) rfl) i10 ?_
        refine oe_aload_n (pc := 64) d_X12_laying_64 rfl ?_
        refine oe_dup (pc := 65) d_X12_laying_65 rfl ?_
        refine oe_getf (pc := 66) d_X12_laying_66 fl_X12_222 ock12 (k := 20) (Nat.le_of_ble_eq_true rfl) rfl (oLt hK (a := 59) (Nat.le_of_ble_eq_true rfl)) (oSho hK (a := 59) (Nat.le_of_ble_eq_true rfl) rfl) ?_
        refine oe_iconst (pc := 69) (v := 1) d_X12_laying_69 rfl ?_
        refine oe_iadd (pc := 70) d_X12_laying_70 ?_
        refine oe_putf (pc := 71) d_X12_laying_71 fl_X12_222 ock12 (k := 20) (Nat.le_of_ble_eq_true rfl) rfl rfl (oLt hK (a := 59) (Nat.le_of_ble_eq_true rfl)) (oSho hK (a := 59) (Nat.le_of_ble_eq_true rfl) rfl) ?_
        refine oe_aload_n (pc := 74) d_X12_laying_74 rfl ?_
        refine oe_getf (pc := 75) d_X12_laying_75 fl_X12_222 ock12 (k := 20) (Nat.le_of_ble_eq_true rfl) rfl (oLt hK (a := 59) (Nat.le_of_ble_eq_true rfl)) (oSho hK (a := 59) (Nat.le_of_ble_eq_true rfl) rfl) ?_
        refine oe_iconst (pc := 78) (v := 1) d_X12_laying_78 rfl ?_
        refine oe_isub (pc := 79) d_X12_laying_79 ?_
        obtain ⟨rfl, rfl⟩ := oRes h
        exact oe_iret (pc := 80) d_X12_laying_80 ⟨_, rfl, rfl⟩
      · replace h := (if_pos c7).symm.trans h
        refine oe_bipush (pc := 31) (v := (-3)) d_X12_laying_31 rfl ?_
        obtain ⟨rfl, rfl⟩ := oRes h
        exact oe_iret (pc := 33) d_X12_laying_33 ⟨_, rfl, rfl⟩
    | false =>
      replace h := oCf h
      refine oe_callV (pc := 14) (ci := 12) d_X12_laying_14 (v_X12_isPoint hK  q6) (by omega) ml_X12_159 jJ_X12_isPoint rfl rfl (oLt hK (a := 59) (Nat.le_of_ble_eq_true rfl)) (oSho hK (a := 59) (Nat.le_of_ble_eq_true rfl) rfl) ock12 rfl (Nat.le_of_ble_eq_true rfl) ⟨Nat.le_refl _, Nat.le_refl _⟩ ⟨Nat.le_refl _, Nat.le_refl _⟩ ?_
      refine oe_if_ne (pc := 17) (tgt := 22) d_X12_laying_17 (by decide) (fun c => absurd (by decide) c) (fun _ => ?_)
      refine oe_iconst (pc := 20) (v := (-1)) d_X12_laying_20 rfl ?_
      obtain ⟨rfl, rfl⟩ := oRes h
      exact oe_iret (pc := 21) d_X12_laying_21 ⟨_, rfl, rfl⟩
  | false =>
    replace h := oCf h
    refine oe_callS (pc := 6) d_X12_laying_6 (v_X12_within hK  q3) (by omega) ml_X12_145 jJ_X12_within rfl rfl (Nat.le_of_ble_eq_true rfl) ⟨Nat.le_refl _, Nat.le_refl _⟩ ⟨Nat.le_refl _, Nat.le_refl _⟩ ?_
    refine oe_if_eq (pc := 9) (tgt := 20) d_X12_laying_9 (by decide) (fun _ => ?_) (fun c => absurd (by decide) c)
    refine oe_iconst (pc := 20) (v := (-1)) d_X12_laying_20 rfl ?_
    obtain ⟨rfl, rfl⟩ := oRes h
    exact oe_iret (pc := 21) d_X12_laying_21 ⟨_, rfl, rfl⟩
theorem d_X12_leadsOn_0 : decode J_X12_leadsOn.2.1 0 = .ok (.aload_n 0, 1) := by decide +kernel
theorem d_X12_leadsOn_1 : decode J_X12_leadsOn.2.1 1 = .ok (.iload_n 1, 1) := by decide +kernel
theorem d_X12_leadsOn_2 : decode J_X12_leadsOn.2.1 2 = .ok (.invokevirtual 227, 3) := by decide +kernel
theorem d_X12_leadsOn_5 : decode J_X12_leadsOn.2.1 5 = .ok (.ifCond .eq 27, 3) := by decide +kernel
theorem d_X12_leadsOn_8 : decode J_X12_leadsOn.2.1 8 = .ok (.aload_n 0, 1) := by decide +kernel
theorem d_X12_leadsOn_9 : decode J_X12_leadsOn.2.1 9 = .ok (.getfield 22, 3) := by decide +kernel
theorem d_X12_leadsOn_12 : decode J_X12_leadsOn.2.1 12 = .ok (.iload_n 1, 1) := by decide +kernel
theorem d_X12_leadsOn_13 : decode J_X12_leadsOn.2.1 13 = .ok (.iaload, 1) := by decide +kernel
theorem d_X12_leadsOn_14 : decode J_X12_leadsOn.2.1 14 = .ok (.iload_n 2, 1) := by decide +kernel
theorem d_X12_leadsOn_15 : decode J_X12_leadsOn.2.1 15 = .ok (.if_icmp .eq 13, 3) := by decide +kernel
theorem d_X12_leadsOn_18 : decode J_X12_leadsOn.2.1 18 = .ok (.aload_n 0, 1) := by decide +kernel
theorem d_X12_leadsOn_19 : decode J_X12_leadsOn.2.1 19 = .ok (.getfield 25, 3) := by decide +kernel
theorem d_X12_leadsOn_22 : decode J_X12_leadsOn.2.1 22 = .ok (.iload_n 1, 1) := by decide +kernel
theorem d_X12_leadsOn_23 : decode J_X12_leadsOn.2.1 23 = .ok (.iaload, 1) := by decide +kernel
theorem d_X12_leadsOn_24 : decode J_X12_leadsOn.2.1 24 = .ok (.iload_n 2, 1) := by decide +kernel
theorem d_X12_leadsOn_25 : decode J_X12_leadsOn.2.1 25 = .ok (.if_icmp .ne 7, 3) := by decide +kernel
theorem d_X12_leadsOn_28 : decode J_X12_leadsOn.2.1 28 = .ok (.iconst 1, 1) := by decide +kernel
theorem d_X12_leadsOn_29 : decode J_X12_leadsOn.2.1 29 = .ok (.goto 4, 3) := by decide +kernel
theorem d_X12_leadsOn_32 : decode J_X12_leadsOn.2.1 32 = .ok (.iconst 0, 1) := by decide +kernel
theorem d_X12_leadsOn_33 : decode J_X12_leadsOn.2.1 33 = .ok (.ireturn, 1) := by decide +kernel
def f_X12_leadsOn (N : Nat) (K : oK) (p1 : Int32) (p2 : Int32) (M : oM) : Option (Bool × oM) :=
  oB2 (f_X12_isWay N K p1 M) (fun v1 M2 => cond v1 (oIx (p1) 20 ((if (M2.1 64 (p1 : Int32).toNatClampNeg) = p2 then some (true, M2) else oIx (p1) 20 ((if (M2.1 65 (p1 : Int32).toNatClampNeg) = p2 then some (true, M2) else some (false, M2)))))) (some (false, M2)))
set_option maxRecDepth 20000 in
theorem v_X12_leadsOn {X : oX} {N : Nat} {K : oK} {p1 : Int32} {p2 : Int32} {M : oM} {v : Bool} {M' : oM} (hK : oSR K)  (h : f_X12_leadsOn N K p1 p2 M = some (v, M')) : oMet X 3 J_X12_leadsOn [(.ref 59), (.int p1), (.int p2)] K M (some (.int (oBi v))) K M' := by
  unfold f_X12_leadsOn at h
  refine oMet_of (L := [some (.ref 59), some (.int p1), some (.int p2)]) jJ_X12_leadsOn.1 rfl (Nat.le_of_ble_eq_true rfl) rfl (Nat.le_refl _) (Nat.le_refl _) ?_
  have hd : 3 ≤ 3 := Nat.le_refl _
  refine oe_aload_n (pc := 0) d_X12_leadsOn_0 rfl ?_
  refine oe_iload_n (pc := 1) d_X12_leadsOn_1 rfl ?_
  obtain ⟨v1, M2, q3, h⟩ := oB2_some h
  cases v1 with
  | true =>
    replace h := oCt h
    refine oe_callV (pc := 2) (ci := 12) d_X12_leadsOn_2 (v_X12_isWay hK  q3) (by omega) ml_X12_227 jJ_X12_isWay rfl rfl (oLt hK (a := 59) (Nat.le_of_ble_eq_true rfl)) (oSho hK (a := 59) (Nat.le_of_ble_eq_true rfl) rfl) ock12 rfl (Nat.le_of_ble_eq_true rfl) ⟨Nat.le_refl _, Nat.le_refl _⟩ ⟨Nat.le_refl _, Nat.le_refl _⟩ ?_
    refine oe_if_eq (pc := 5) (tgt := 32) d_X12_leadsOn_5 (by decide) (fun c => absurd c (by decide)) (fun _ => ?_)
    refine oe_aload_n (pc := 8) d_X12_leadsOn_8 rfl ?_
    refine oe_getr (pc := 9) d_X12_leadsOn_9 fl_X12_22 ock12 (k := 8) (b := 64) (Nat.le_of_ble_eq_true rfl) (by decide) (oLt hK (a := 59) (Nat.le_of_ble_eq_true rfl)) (oSho hK (a := 59) (Nat.le_of_ble_eq_true rfl) rfl) (oRfK hK rfl) ?_
    refine oe_iload_n (pc := 12) d_X12_leadsOn_12 rfl ?_
    obtain ⟨i4, h⟩ := oIx_some h
    refine oe_iald (pc := 13) d_X12_leadsOn_13 (oLt hK (a := 64) (Nat.le_of_ble_eq_true rfl)) (oSha hK (a := 64) (Nat.le_of_ble_eq_true rfl) rfl) i4 ?_
    refine oe_iload_n (pc := 14) d_X12_leadsOn_14 rfl ?_
    refine oe_icmp_eq (pc := 15) (tgt := 28) d_X12_leadsOn_15 (by decide) (fun c5 => ?_) (fun c5 => ?_)
    · replace h := (if_pos c5).symm.trans h
      refine oe_iconst (pc := 28) (v := 1) d_X12_leadsOn_28 rfl ?_
      refine oe_goto (pc := 29) (tgt := 33) d_X12_leadsOn_29 (by decide) ?_
      obtain ⟨rfl, rfl⟩ := oRes h
      exact oe_iret (pc := 33) d_X12_leadsOn_33 ⟨_, rfl, rfl⟩
    · replace h := (if_neg c5).symm.trans h
      refine oe_aload_n (pc := 18) d_X12_leadsOn_18 rfl ?_
      refine oe_getr (pc := 19) d_X12_leadsOn_19 fl_X12_25 ock12 (k := 9) (b := 65) (Nat.le_of_ble_eq_true rfl) (by decide) (oLt hK (a := 59) (Nat.le_of_ble_eq_true rfl)) (oSho hK (a := 59) (Nat.le_of_ble_eq_true rfl) rfl) (oRfK hK rfl) ?_
      refine oe_iload_n (pc := 22) d_X12_leadsOn_22 rfl ?_
      obtain ⟨i6, h⟩ := oIx_some h
      refine oe_iald (pc := 23) d_X12_leadsOn_23 (oLt hK (a := 65) (Nat.le_of_ble_eq_true rfl)) (oSha hK (a := 65) (Nat.le_of_ble_eq_true rfl) rfl) i6 ?_
      refine oe_iload_n (pc := 24) d_X12_leadsOn_24 rfl ?_
      refine oe_icmp_ne (pc := 25) (tgt := 32) d_X12_leadsOn_25 (by decide) (fun c7 => ?_) (fun c7 => ?_)
      · replace h := (if_neg c7).symm.trans h
        refine oe_iconst (pc := 32) (v := 0) d_X12_leadsOn_32 rfl ?_
        obtain ⟨rfl, rfl⟩ := oRes h
        exact oe_iret (pc := 33) d_X12_leadsOn_33 ⟨_, rfl, rfl⟩
      · replace h := (if_pos c7).symm.trans h
        refine oe_iconst (pc := 28) (v := 1) d_X12_leadsOn_28 rfl ?_
        refine oe_goto (pc := 29) (tgt := 33) d_X12_leadsOn_29 (by decide) ?_
        obtain ⟨rfl, rfl⟩ := oRes h
        exact oe_iret (pc := 33) d_X12_leadsOn_33 ⟨_, rfl, rfl⟩
  | false =>
    replace h := oCf h
    refine oe_callV (pc := 2) (ci := 12) d_X12_leadsOn_2 (v_X12_isWay hK  q3) (by omega) ml_X12_227 jJ_X12_isWay rfl rfl (oLt hK (a := 59) (Nat.le_of_ble_eq_true rfl)) (oSho hK (a := 59) (Nat.le_of_ble_eq_true rfl) rfl) ock12 rfl (Nat.le_of_ble_eq_true rfl) ⟨Nat.le_refl _, Nat.le_refl _⟩ ⟨Nat.le_refl _, Nat.le_refl _⟩ ?_
    refine oe_if_eq (pc := 5) (tgt := 32) d_X12_leadsOn_5 (by decide) (fun _ => ?_) (fun c => absurd (by decide) c)
    refine oe_iconst (pc := 32) (v := 0) d_X12_leadsOn_32 rfl ?_
    obtain ⟨rfl, rfl⟩ := oRes h
    exact oe_iret (pc := 33) d_X12_leadsOn_33 ⟨_, rfl, rfl⟩
theorem d_X12_part_0 : decode J_X12_part.2.1 0 = .ok (.aload_n 0, 1) := by decide +kernel
theorem d_X12_part_1 : decode J_X12_part.2.1 1 = .ok (.iload_n 1, 1) := by decide +kernel
theorem d_X12_part_2 : decode J_X12_part.2.1 2 = .ok (.invokevirtual 230, 3) := by decide +kernel
theorem d_X12_part_5 : decode J_X12_part.2.1 5 = .ok (.ifCond .eq 15, 3) := by decide +kernel
theorem d_X12_part_8 : decode J_X12_part.2.1 8 = .ok (.iload_n 2, 1) := by decide +kernel
theorem d_X12_part_9 : decode J_X12_part.2.1 9 = .ok (.i2l, 1) := by decide +kernel
theorem d_X12_part_10 : decode J_X12_part.2.1 10 = .ok (.lconst 0, 1) := by decide +kernel
theorem d_X12_part_11 : decode J_X12_part.2.1 11 = .ok (.ldc2_w 152, 3) := by decide +kernel
theorem d_X12_part_14 : decode J_X12_part.2.1 14 = .ok (.invokestatic 145, 3) := by decide +kernel
theorem d_X12_part_17 : decode J_X12_part.2.1 17 = .ok (.ifCond .ne 5, 3) := by decide +kernel
theorem d_X12_part_20 : decode J_X12_part.2.1 20 = .ok (.iconst (-1), 1) := by decide +kernel
theorem d_X12_part_21 : decode J_X12_part.2.1 21 = .ok (.ireturn, 1) := by decide +kernel
theorem d_X12_part_22 : decode J_X12_part.2.1 22 = .ok (.iload_n 2, 1) := by decide +kernel
theorem d_X12_part_23 : decode J_X12_part.2.1 23 = .ok (.ifCond .ne 11, 3) := by decide +kernel
theorem d_X12_part_26 : decode J_X12_part.2.1 26 = .ok (.aload_n 0, 1) := by decide +kernel
theorem d_X12_part_27 : decode J_X12_part.2.1 27 = .ok (.iload_n 3, 1) := by decide +kernel
theorem d_X12_part_28 : decode J_X12_part.2.1 28 = .ok (.invokevirtual 216, 3) := by decide +kernel
theorem d_X12_part_31 : decode J_X12_part.2.1 31 = .ok (.goto 53, 3) := by decide +kernel
theorem d_X12_part_34 : decode J_X12_part.2.1 34 = .ok (.iload_n 2, 1) := by decide +kernel
theorem d_X12_part_35 : decode J_X12_part.2.1 35 = .ok (.iconst 1, 1) := by decide +kernel
theorem d_X12_part_36 : decode J_X12_part.2.1 36 = .ok (.if_icmp .ne 33, 3) := by decide +kernel
theorem d_X12_part_39 : decode J_X12_part.2.1 39 = .ok (.aload_n 0, 1) := by decide +kernel
theorem d_X12_part_40 : decode J_X12_part.2.1 40 = .ok (.iload_n 3, 1) := by decide +kernel
theorem d_X12_part_41 : decode J_X12_part.2.1 41 = .ok (.aload_n 0, 1) := by decide +kernel
theorem d_X12_part_42 : decode J_X12_part.2.1 42 = .ok (.getfield 55, 3) := by decide +kernel
theorem d_X12_part_45 : decode J_X12_part.2.1 45 = .ok (.iload_n 1, 1) := by decide +kernel
theorem d_X12_part_46 : decode J_X12_part.2.1 46 = .ok (.iaload, 1) := by decide +kernel
theorem d_X12_part_47 : decode J_X12_part.2.1 47 = .ok (.invokevirtual 233, 3) := by decide +kernel
theorem d_X12_part_50 : decode J_X12_part.2.1 50 = .ok (.ifCond .eq 15, 3) := by decide +kernel
theorem d_X12_part_53 : decode J_X12_part.2.1 53 = .ok (.iload 4, 2) := by decide +kernel
theorem d_X12_part_55 : decode J_X12_part.2.1 55 = .ok (.invokestatic 169, 3) := by decide +kernel
theorem d_X12_part_58 : decode J_X12_part.2.1 58 = .ok (.ifCond .eq 7, 3) := by decide +kernel
theorem d_X12_part_61 : decode J_X12_part.2.1 61 = .ok (.iconst 1, 1) := by decide +kernel
theorem d_X12_part_62 : decode J_X12_part.2.1 62 = .ok (.goto 22, 3) := by decide +kernel
theorem d_X12_part_65 : decode J_X12_part.2.1 65 = .ok (.iconst 0, 1) := by decide +kernel
theorem d_X12_part_66 : decode J_X12_part.2.1 66 = .ok (.goto 18, 3) := by decide +kernel
theorem d_X12_part_69 : decode J_X12_part.2.1 69 = .ok (.aload_n 0, 1) := by decide +kernel
theorem d_X12_part_70 : decode J_X12_part.2.1 70 = .ok (.getfield 49, 3) := by decide +kernel
theorem d_X12_part_73 : decode J_X12_part.2.1 73 = .ok (.iload_n 1, 1) := by decide +kernel
theorem d_X12_part_74 : decode J_X12_part.2.1 74 = .ok (.iaload, 1) := by decide +kernel
theorem d_X12_part_75 : decode J_X12_part.2.1 75 = .ok (.iconst 3, 1) := by decide +kernel
theorem d_X12_part_76 : decode J_X12_part.2.1 76 = .ok (.if_icmp .ne 7, 3) := by decide +kernel
theorem d_X12_part_79 : decode J_X12_part.2.1 79 = .ok (.iconst 1, 1) := by decide +kernel
theorem d_X12_part_80 : decode J_X12_part.2.1 80 = .ok (.goto 4, 3) := by decide +kernel
theorem d_X12_part_83 : decode J_X12_part.2.1 83 = .ok (.iconst 0, 1) := by decide +kernel
theorem d_X12_part_84 : decode J_X12_part.2.1 84 = .ok (.istore 5, 2) := by decide +kernel
theorem d_X12_part_86 : decode J_X12_part.2.1 86 = .ok (.iload 5, 2) := by decide +kernel
theorem d_X12_part_88 : decode J_X12_part.2.1 88 = .ok (.ifCond .ne 5, 3) := by decide +kernel
theorem d_X12_part_91 : decode J_X12_part.2.1 91 = .ok (.iconst (-1), 1) := by decide +kernel
theorem d_X12_part_92 : decode J_X12_part.2.1 92 = .ok (.ireturn, 1) := by decide +kernel
theorem d_X12_part_93 : decode J_X12_part.2.1 93 = .ok (.iload_n 2, 1) := by decide +kernel
theorem d_X12_part_94 : decode J_X12_part.2.1 94 = .ok (.ifCond .ne 15, 3) := by decide +kernel
theorem d_X12_part_97 : decode J_X12_part.2.1 97 = .ok (.aload_n 0, 1) := by decide +kernel
theorem d_X12_part_98 : decode J_X12_part.2.1 98 = .ok (.getfield 70, 3) := by decide +kernel
theorem d_X12_part_101 : decode J_X12_part.2.1 101 = .ok (.iload_n 3, 1) := by decide +kernel
theorem d_X12_part_102 : decode J_X12_part.2.1 102 = .ok (.baload, 1) := by decide +kernel
theorem d_X12_part_103 : decode J_X12_part.2.1 103 = .ok (.ifCond .eq 6, 3) := by decide +kernel
theorem d_X12_part_106 : decode J_X12_part.2.1 106 = .ok (.bipush (-5), 2) := by decide +kernel
theorem d_X12_part_108 : decode J_X12_part.2.1 108 = .ok (.ireturn, 1) := by decide +kernel
theorem d_X12_part_109 : decode J_X12_part.2.1 109 = .ok (.aload_n 0, 1) := by decide +kernel
theorem d_X12_part_110 : decode J_X12_part.2.1 110 = .ok (.getfield 58, 3) := by decide +kernel
theorem d_X12_part_113 : decode J_X12_part.2.1 113 = .ok (.iload_n 1, 1) := by decide +kernel
theorem d_X12_part_114 : decode J_X12_part.2.1 114 = .ok (.iaload, 1) := by decide +kernel
theorem d_X12_part_115 : decode J_X12_part.2.1 115 = .ok (.bipush 24, 2) := by decide +kernel
theorem d_X12_part_117 : decode J_X12_part.2.1 117 = .ok (.if_icmp .ne 6, 3) := by decide +kernel
theorem d_X12_part_120 : decode J_X12_part.2.1 120 = .ok (.bipush (-3), 2) := by decide +kernel
theorem d_X12_part_122 : decode J_X12_part.2.1 122 = .ok (.ireturn, 1) := by decide +kernel
theorem d_X12_part_123 : decode J_X12_part.2.1 123 = .ok (.bipush 24, 2) := by decide +kernel
theorem d_X12_part_125 : decode J_X12_part.2.1 125 = .ok (.iload_n 1, 1) := by decide +kernel
theorem d_X12_part_126 : decode J_X12_part.2.1 126 = .ok (.imul, 1) := by decide +kernel
theorem d_X12_part_127 : decode J_X12_part.2.1 127 = .ok (.aload_n 0, 1) := by decide +kernel
theorem d_X12_part_128 : decode J_X12_part.2.1 128 = .ok (.getfield 58, 3) := by decide +kernel
theorem d_X12_part_131 : decode J_X12_part.2.1 131 = .ok (.iload_n 1, 1) := by decide +kernel
theorem d_X12_part_132 : decode J_X12_part.2.1 132 = .ok (.iaload, 1) := by decide +kernel
theorem d_X12_part_133 : decode J_X12_part.2.1 133 = .ok (.iadd, 1) := by decide +kernel
theorem d_X12_part_134 : decode J_X12_part.2.1 134 = .ok (.istore 6, 2) := by decide +kernel
theorem d_X12_part_136 : decode J_X12_part.2.1 136 = .ok (.aload_n 0, 1) := by decide +kernel
theorem d_X12_part_137 : decode J_X12_part.2.1 137 = .ok (.getfield 61, 3) := by decide +kernel
theorem d_X12_part_140 : decode J_X12_part.2.1 140 = .ok (.iload 6, 2) := by decide +kernel
theorem d_X12_part_142 : decode J_X12_part.2.1 142 = .ok (.iload_n 2, 1) := by decide +kernel
theorem d_X12_part_143 : decode J_X12_part.2.1 143 = .ok (.iastore, 1) := by decide +kernel
theorem d_X12_part_144 : decode J_X12_part.2.1 144 = .ok (.aload_n 0, 1) := by decide +kernel
theorem d_X12_part_145 : decode J_X12_part.2.1 145 = .ok (.getfield 64, 3) := by decide +kernel
theorem d_X12_part_148 : decode J_X12_part.2.1 148 = .ok (.iload 6, 2) := by decide +kernel
theorem d_X12_part_150 : decode J_X12_part.2.1 150 = .ok (.iload_n 2, 1) := by decide +kernel
theorem d_X12_part_151 : decode J_X12_part.2.1 151 = .ok (.iconst 2, 1) := by decide +kernel
theorem d_X12_part_152 : decode J_X12_part.2.1 152 = .ok (.if_icmp .ne 7, 3) := by decide +kernel
theorem d_X12_part_155 : decode J_X12_part.2.1 155 = .ok (.iconst (-1), 1) := by decide +kernel
theorem d_X12_part_156 : decode J_X12_part.2.1 156 = .ok (.goto 4, 3) := by decide +kernel
theorem d_X12_part_159 : decode J_X12_part.2.1 159 = .ok (.iload_n 3, 1) := by decide +kernel
theorem d_X12_part_160 : decode J_X12_part.2.1 160 = .ok (.iastore, 1) := by decide +kernel
theorem d_X12_part_161 : decode J_X12_part.2.1 161 = .ok (.aload_n 0, 1) := by decide +kernel
theorem d_X12_part_162 : decode J_X12_part.2.1 162 = .ok (.getfield 67, 3) := by decide +kernel
theorem d_X12_part_165 : decode J_X12_part.2.1 165 = .ok (.iload 6, 2) := by decide +kernel
theorem d_X12_part_167 : decode J_X12_part.2.1 167 = .ok (.iload_n 2, 1) := by decide +kernel
theorem d_X12_part_168 : decode J_X12_part.2.1 168 = .ok (.iconst 1, 1) := by decide +kernel
theorem d_X12_part_169 : decode J_X12_part.2.1 169 = .ok (.if_icmp .ne 8, 3) := by decide +kernel
theorem d_X12_part_172 : decode J_X12_part.2.1 172 = .ok (.iload 4, 2) := by decide +kernel
theorem d_X12_part_174 : decode J_X12_part.2.1 174 = .ok (.goto 4, 3) := by decide +kernel
theorem d_X12_part_177 : decode J_X12_part.2.1 177 = .ok (.iconst (-1), 1) := by decide +kernel
theorem d_X12_part_178 : decode J_X12_part.2.1 178 = .ok (.iastore, 1) := by decide +kernel
theorem d_X12_part_179 : decode J_X12_part.2.1 179 = .ok (.aload_n 0, 1) := by decide +kernel
theorem d_X12_part_180 : decode J_X12_part.2.1 180 = .ok (.getfield 58, 3) := by decide +kernel
theorem d_X12_part_183 : decode J_X12_part.2.1 183 = .ok (.iload_n 1, 1) := by decide +kernel
theorem d_X12_part_184 : decode J_X12_part.2.1 184 = .ok (.dup2, 1) := by decide +kernel
theorem d_X12_part_185 : decode J_X12_part.2.1 185 = .ok (.iaload, 1) := by decide +kernel
theorem d_X12_part_186 : decode J_X12_part.2.1 186 = .ok (.iconst 1, 1) := by decide +kernel
theorem d_X12_part_187 : decode J_X12_part.2.1 187 = .ok (.iadd, 1) := by decide +kernel
theorem d_X12_part_188 : decode J_X12_part.2.1 188 = .ok (.iastore, 1) := by decide +kernel
theorem d_X12_part_189 : decode J_X12_part.2.1 189 = .ok (.iload_n 2, 1) := by decide +kernel
theorem d_X12_part_190 : decode J_X12_part.2.1 190 = .ok (.ifCond .ne 10, 3) := by decide +kernel
theorem d_X12_part_193 : decode J_X12_part.2.1 193 = .ok (.aload_n 0, 1) := by decide +kernel
theorem d_X12_part_194 : decode J_X12_part.2.1 194 = .ok (.getfield 70, 3) := by decide +kernel
theorem d_X12_part_197 : decode J_X12_part.2.1 197 = .ok (.iload_n 3, 1) := by decide +kernel
theorem d_X12_part_198 : decode J_X12_part.2.1 198 = .ok (.iconst 1, 1) := by decide +kernel
theorem d_X12_part_199 : decode J_X12_part.2.1 199 = .ok (.bastore, 1) := by decide +kernel
theorem d_X12_part_200 : decode J_X12_part.2.1 200 = .ok (.iload_n 2, 1) := by decide +kernel
theorem d_X12_part_201 : decode J_X12_part.2.1 201 = .ok (.iconst 1, 1) := by decide +kernel
theorem d_X12_part_202 : decode J_X12_part.2.1 202 = .ok (.if_icmp .ne 39, 3) := by decide +kernel
theorem d_X12_part_205 : decode J_X12_part.2.1 205 = .ok (.aload_n 0, 1) := by decide +kernel
theorem d_X12_part_206 : decode J_X12_part.2.1 206 = .ok (.getfield 55, 3) := by decide +kernel
theorem d_X12_part_209 : decode J_X12_part.2.1 209 = .ok (.iload_n 1, 1) := by decide +kernel
theorem d_X12_part_210 : decode J_X12_part.2.1 210 = .ok (.aload_n 0, 1) := by decide +kernel
theorem d_X12_part_211 : decode J_X12_part.2.1 211 = .ok (.getfield 22, 3) := by decide +kernel
theorem d_X12_part_214 : decode J_X12_part.2.1 214 = .ok (.iload_n 3, 1) := by decide +kernel
theorem d_X12_part_215 : decode J_X12_part.2.1 215 = .ok (.iaload, 1) := by decide +kernel
theorem d_X12_part_216 : decode J_X12_part.2.1 216 = .ok (.aload_n 0, 1) := by decide +kernel
theorem d_X12_part_217 : decode J_X12_part.2.1 217 = .ok (.getfield 55, 3) := by decide +kernel
theorem d_X12_part_220 : decode J_X12_part.2.1 220 = .ok (.iload_n 1, 1) := by decide +kernel
theorem d_X12_part_221 : decode J_X12_part.2.1 221 = .ok (.iaload, 1) := by decide +kernel
theorem d_X12_part_222 : decode J_X12_part.2.1 222 = .ok (.if_icmp .ne 12, 3) := by decide +kernel
theorem d_X12_part_225 : decode J_X12_part.2.1 225 = .ok (.aload_n 0, 1) := by decide +kernel
theorem d_X12_part_226 : decode J_X12_part.2.1 226 = .ok (.getfield 25, 3) := by decide +kernel
theorem d_X12_part_229 : decode J_X12_part.2.1 229 = .ok (.iload_n 3, 1) := by decide +kernel
theorem d_X12_part_230 : decode J_X12_part.2.1 230 = .ok (.iaload, 1) := by decide +kernel
theorem d_X12_part_231 : decode J_X12_part.2.1 231 = .ok (.goto 9, 3) := by decide +kernel
theorem d_X12_part_234 : decode J_X12_part.2.1 234 = .ok (.aload_n 0, 1) := by decide +kernel
theorem d_X12_part_235 : decode J_X12_part.2.1 235 = .ok (.getfield 22, 3) := by decide +kernel
theorem d_X12_part_238 : decode J_X12_part.2.1 238 = .ok (.iload_n 3, 1) := by decide +kernel
theorem d_X12_part_239 : decode J_X12_part.2.1 239 = .ok (.iaload, 1) := by decide +kernel
theorem d_X12_part_240 : decode J_X12_part.2.1 240 = .ok (.iastore, 1) := by decide +kernel
theorem d_X12_part_241 : decode J_X12_part.2.1 241 = .ok (.aload_n 0, 1) := by decide +kernel
theorem d_X12_part_242 : decode J_X12_part.2.1 242 = .ok (.getfield 58, 3) := by decide +kernel
theorem d_X12_part_245 : decode J_X12_part.2.1 245 = .ok (.iload_n 1, 1) := by decide +kernel
theorem d_X12_part_246 : decode J_X12_part.2.1 246 = .ok (.iaload, 1) := by decide +kernel
theorem d_X12_part_247 : decode J_X12_part.2.1 247 = .ok (.ireturn, 1) := by decide +kernel
def f_X12_part_241 (N : Nat) (K : oK)  (p1 : Int32) (M : oM) : Option (Int32 × oM) :=
  oIx (p1) 20 (some ((M.1 76 (p1 : Int32).toNatClampNeg), M))
set_option maxRecDepth 20000 in
theorem v_X12_part_241 {X : oX} {d N : Nat} {K : oK}  {p1 : Int32} {M : oM} {v : Int32} {M' : oM}  (hd : 4 ≤ d) (hK : oSR K)   (h : f_X12_part_241 N K  p1 M = some (v, M')) : oEv X d J_X12_part 241 [some (.ref 59), some (.int p1), none, none, none, none, none] [] K M (some (.int v)) K M' := by
  unfold f_X12_part_241 at h
  refine oe_aload_n (pc := 241) d_X12_part_241 rfl ?_
  refine oe_getr (pc := 242) d_X12_part_242 fl_X12_58 ock12 (k := 24) (b := 76) (Nat.le_of_ble_eq_true rfl) (by decide) (oLt hK (a := 59) (Nat.le_of_ble_eq_true rfl)) (oSho hK (a := 59) (Nat.le_of_ble_eq_true rfl) rfl) (oRfK hK rfl) ?_
  refine oe_iload_n (pc := 245) d_X12_part_245 rfl ?_
  obtain ⟨i25, h⟩ := oIx_some h
  refine oe_iald (pc := 246) d_X12_part_246 (oLt hK (a := 76) (Nat.le_of_ble_eq_true rfl)) (oSha hK (a := 76) (Nat.le_of_ble_eq_true rfl) rfl) i25 ?_
  obtain ⟨rfl, rfl⟩ := oRes h
  exact oe_iret (pc := 247) d_X12_part_247 ⟨_, rfl, rfl⟩
def f_X12_part_240 (N : Nat) (K : oK)  (p1 : Int32) (s0 : Int32) (s1 : Int32) (M : oM) : Option (Int32 × oM) :=
  oIx (s1) 20 ((f_X12_part_241 N K  p1 (oUp M 75 (s1 : Int32).toNatClampNeg s0)))
set_option maxRecDepth 20000 in
theorem v_X12_part_240 {X : oX} {d N : Nat} {K : oK}  {p1 : Int32} {s0 : Int32} {s1 : Int32} {M : oM} {v : Int32} {M' : oM}  (hd : 4 ≤ d) (hK : oSR K)   (h : f_X12_part_240 N K  p1 s0 s1 M = some (v, M')) : oEv X d J_X12_part 240 [some (.ref 59), some (.int p1), none, none, none, none, none] [(.int s0), (.int s1), (.ref 75)] K M (some (.int v)) K M' := by
  unfold f_X12_part_240 at h
  obtain ⟨i30, h⟩ := oIx_some h
  refine oe_iast (pc := 240) d_X12_part_240 (oLt hK (a := 75) (Nat.le_of_ble_eq_true rfl)) (oSha hK (a := 75) (Nat.le_of_ble_eq_true rfl) rfl) i30 ?_
  exact v_X12_part_241 hd hK   h
def f_X12_part_200 (N : Nat) (K : oK)  (p1 : Int32) (p2 : Int32) (p3 : Int32) (M : oM) : Option (Int32 × oM) :=
  (if p2 = 1 then oIx (p3) 20 (oIx (p1) 20 ((if (M.1 64 (p3 : Int32).toNatClampNeg) = (M.1 75 (p1 : Int32).toNatClampNeg) then oIx (p3) 20 ((f_X12_part_240 N K  p1 (M.1 65 (p3 : Int32).toNatClampNeg) p1 M)) else oIx (p3) 20 ((f_X12_part_240 N K  p1 (M.1 64 (p3 : Int32).toNatClampNeg) p1 M))))) else (f_X12_part_241 N K  p1 M))
set_option maxRecDepth 20000 in
theorem v_X12_part_200 {X : oX} {d N : Nat} {K : oK}  {p1 : Int32} {p2 : Int32} {p3 : Int32} {M : oM} {v : Int32} {M' : oM}  (hd : 4 ≤ d) (hK : oSR K)   (h : f_X12_part_200 N K  p1 p2 p3 M = some (v, M')) : oEv X d J_X12_part 200 [some (.ref 59), some (.int p1), some (.int p2), some (.int p3), none, none, none] [] K M (some (.int v)) K M' := by
  unfold f_X12_part_200 at h
  refine oe_iload_n (pc := 200) d_X12_part_200 rfl ?_
  refine oe_iconst (pc := 201) (v := 1) d_X12_part_201 rfl ?_
  refine oe_icmp_ne (pc := 202) (tgt := 241) d_X12_part_202 (by decide) (fun c24 => ?_) (fun c24 => ?_)
  · replace h := (if_neg c24).symm.trans h
    refine oEv.fg [true, true, false, false, false, false, false] ?_
    exact v_X12_part_241 hd hK   h
  · replace h := (if_pos c24).symm.trans h
    refine oe_aload_n (pc := 205) d_X12_part_205 rfl ?_
    refine oe_getr (pc := 206) d_X12_part_206 fl_X12_55 ock12 (k := 23) (b := 75) (Nat.le_of_ble_eq_true rfl) (by decide) (oLt hK (a := 59) (Nat.le_of_ble_eq_true rfl)) (oSho hK (a := 59) (Nat.le_of_ble_eq_true rfl) rfl) (oRfK hK rfl) ?_
    refine oe_iload_n (pc := 209) d_X12_part_209 rfl ?_
    refine oe_aload_n (pc := 210) d_X12_part_210 rfl ?_
    refine oe_getr (pc := 211) d_X12_part_211 fl_X12_22 ock12 (k := 8) (b := 64) (Nat.le_of_ble_eq_true rfl) (by decide) (oLt hK (a := 59) (Nat.le_of_ble_eq_true rfl)) (oSho hK (a := 59) (Nat.le_of_ble_eq_true rfl) rfl) (oRfK hK rfl) ?_
    refine oe_iload_n (pc := 214) d_X12_part_214 rfl ?_
    obtain ⟨i26, h⟩ := oIx_some h
    refine oe_iald (pc := 215) d_X12_part_215 (oLt hK (a := 64) (Nat.le_of_ble_eq_true rfl)) (oSha hK (a := 64) (Nat.le_of_ble_eq_true rfl) rfl) i26 ?_
    refine oe_aload_n (pc := 216) d_X12_part_216 rfl ?_
    refine oe_getr (pc := 217) d_X12_part_217 fl_X12_55 ock12 (k := 23) (b := 75) (Nat.le_of_ble_eq_true rfl) (by decide) (oLt hK (a := 59) (Nat.le_of_ble_eq_true rfl)) (oSho hK (a := 59) (Nat.le_of_ble_eq_true rfl) rfl) (oRfK hK rfl) ?_
    refine oe_iload_n (pc := 220) d_X12_part_220 rfl ?_
    obtain ⟨i27, h⟩ := oIx_some h
    refine oe_iald (pc := 221) d_X12_part_221 (oLt hK (a := 75) (Nat.le_of_ble_eq_true rfl)) (oSha hK (a := 75) (Nat.le_of_ble_eq_true rfl) rfl) i27 ?_
    refine oe_icmp_ne (pc := 222) (tgt := 234) d_X12_part_222 (by decide) (fun c28 => ?_) (fun c28 => ?_)
    · replace h := (if_neg c28).symm.trans h
      refine oe_aload_n (pc := 234) d_X12_part_234 rfl ?_
      refine oe_getr (pc := 235) d_X12_part_235 fl_X12_22 ock12 (k := 8) (b := 64) (Nat.le_of_ble_eq_true rfl) (by decide) (oLt hK (a := 59) (Nat.le_of_ble_eq_true rfl)) (oSho hK (a := 59) (Nat.le_of_ble_eq_true rfl) rfl) (oRfK hK rfl) ?_
      refine oe_iload_n (pc := 238) d_X12_part_238 rfl ?_
      obtain ⟨i29, h⟩ := oIx_some h
      refine oe_iald (pc := 239) d_X12_part_239 (oLt hK (a := 64) (Nat.le_of_ble_eq_true rfl)) (oSha hK (a := 64) (Nat.le_of_ble_eq_true rfl) rfl) i29 ?_
      refine oEv.fg [true, true, false, false, false, false, false] ?_
      exact v_X12_part_240 hd hK   h
    · replace h := (if_pos c28).symm.trans h
      refine oe_aload_n (pc := 225) d_X12_part_225 rfl ?_
      refine oe_getr (pc := 226) d_X12_part_226 fl_X12_25 ock12 (k := 9) (b := 65) (Nat.le_of_ble_eq_true rfl) (by decide) (oLt hK (a := 59) (Nat.le_of_ble_eq_true rfl)) (oSho hK (a := 59) (Nat.le_of_ble_eq_true rfl) rfl) (oRfK hK rfl) ?_
      refine oe_iload_n (pc := 229) d_X12_part_229 rfl ?_
      obtain ⟨i31, h⟩ := oIx_some h
      refine oe_iald (pc := 230) d_X12_part_230 (oLt hK (a := 65) (Nat.le_of_ble_eq_true rfl)) (oSha hK (a := 65) (Nat.le_of_ble_eq_true rfl) rfl) i31 ?_
      refine oe_goto (pc := 231) (tgt := 240) d_X12_part_231 (by decide) ?_
      refine oEv.fg [true, true, false, false, false, false, false] ?_
      exact v_X12_part_240 hd hK   h
def f_X12_part_178 (N : Nat) (K : oK)  (p1 : Int32) (p2 : Int32) (p3 : Int32) (s0 : Int32) (s1 : Int32) (M : oM) : Option (Int32 × oM) :=
  oIx (s1) 480 (oIx (p1) 20 (oIx (p1) 20 ((if p2 = 0 then oIx (p3) 6 ((f_X12_part_200 N K  p1 p2 p3 (oUp (oUp (oUp M 79 (s1 : Int32).toNatClampNeg s0) 76 (p1 : Int32).toNatClampNeg (((oUp M 79 (s1 : Int32).toNatClampNeg s0).1 76 (p1 : Int32).toNatClampNeg) + 1)) 80 (p3 : Int32).toNatClampNeg (vp_nar .boolean (1 : Int32))))) else (f_X12_part_200 N K  p1 p2 p3 (oUp (oUp M 79 (s1 : Int32).toNatClampNeg s0) 76 (p1 : Int32).toNatClampNeg (((oUp M 79 (s1 : Int32).toNatClampNeg s0).1 76 (p1 : Int32).toNatClampNeg) + 1)))))))
set_option maxRecDepth 20000 in
theorem v_X12_part_178 {X : oX} {d N : Nat} {K : oK}  {p1 : Int32} {p2 : Int32} {p3 : Int32} {s0 : Int32} {s1 : Int32} {M : oM} {v : Int32} {M' : oM}  (hd : 4 ≤ d) (hK : oSR K)   (h : f_X12_part_178 N K  p1 p2 p3 s0 s1 M = some (v, M')) : oEv X d J_X12_part 178 [some (.ref 59), some (.int p1), some (.int p2), some (.int p3), none, none, none] [(.int s0), (.int s1), (.ref 79)] K M (some (.int v)) K M' := by
  unfold f_X12_part_178 at h
  obtain ⟨i20, h⟩ := oIx_some h
  refine oe_iast (pc := 178) d_X12_part_178 (oLt hK (a := 79) (Nat.le_of_ble_eq_true rfl)) (oSha hK (a := 79) (Nat.le_of_ble_eq_true rfl) rfl) i20 ?_
  refine oe_aload_n (pc := 179) d_X12_part_179 rfl ?_
  refine oe_getr (pc := 180) d_X12_part_180 fl_X12_58 ock12 (k := 24) (b := 76) (Nat.le_of_ble_eq_true rfl) (by decide) (oLt hK (a := 59) (Nat.le_of_ble_eq_true rfl)) (oSho hK (a := 59) (Nat.le_of_ble_eq_true rfl) rfl) (oRfK hK rfl) ?_
  refine oe_iload_n (pc := 183) d_X12_part_183 rfl ?_
  refine oe_dup2 (pc := 184) d_X12_part_184 rfl rfl ?_
  obtain ⟨i21, h⟩ := oIx_some h
  refine oe_iald (pc := 185) d_X12_part_185 (oLt hK (a := 76) (Nat.le_of_ble_eq_true rfl)) (oSha hK (a := 76) (Nat.le_of_ble_eq_true rfl) rfl) i21 ?_
  refine oe_iconst (pc := 186) (v := 1) d_X12_part_186 rfl ?_
  refine oe_iadd (pc := 187) d_X12_part_187 ?_
  obtain ⟨i22, h⟩ := oIx_some h
  refine oe_iast (pc := 188) d_X12_part_188 (oLt hK (a := 76) (Nat.le_of_ble_eq_true rfl)) (oSha hK (a := 76) (Nat.le_of_ble_eq_true rfl) rfl) i22 ?_
  refine oe_iload_n (pc := 189) d_X12_part_189 rfl ?_
  refine oe_if_ne (pc := 190) (tgt := 200) d_X12_part_190 (by decide) (fun c23 => ?_) (fun c23 => ?_)
  · replace h := (if_neg c23).symm.trans h
    exact v_X12_part_200 hd hK   h
  · replace h := (if_pos c23).symm.trans h
    refine oe_aload_n (pc := 193) d_X12_part_193 rfl ?_
    refine oe_getr (pc := 194) d_X12_part_194 fl_X12_70 ock12 (k := 28) (b := 80) (Nat.le_of_ble_eq_true rfl) (by decide) (oLt hK (a := 59) (Nat.le_of_ble_eq_true rfl)) (oSho hK (a := 59) (Nat.le_of_ble_eq_true rfl) rfl) (oRfK hK rfl) ?_
    refine oe_iload_n (pc := 197) d_X12_part_197 rfl ?_
    refine oe_iconst (pc := 198) (v := 1) d_X12_part_198 rfl ?_
    obtain ⟨i32, h⟩ := oIx_some h
    refine oe_zast (pc := 199) d_X12_part_199 (oLt hK (a := 80) (Nat.le_of_ble_eq_true rfl)) (oSha hK (a := 80) (Nat.le_of_ble_eq_true rfl) rfl) i32 ?_
    exact v_X12_part_200 hd hK   h
def f_X12_part_160 (N : Nat) (K : oK)  (p1 : Int32) (p2 : Int32) (p3 : Int32) (p4 : Int32) (p6 : Int32) (s0 : Int32) (s1 : Int32) (M : oM) : Option (Int32 × oM) :=
  oIx (s1) 480 ((if p2 = 1 then (f_X12_part_178 N K  p1 p2 p3 p4 p6 (oUp M 78 (s1 : Int32).toNatClampNeg s0)) else (f_X12_part_178 N K  p1 p2 p3 (-1) p6 (oUp M 78 (s1 : Int32).toNatClampNeg s0))))
set_option maxRecDepth 20000 in
theorem v_X12_part_160 {X : oX} {d N : Nat} {K : oK}  {p1 : Int32} {p2 : Int32} {p3 : Int32} {p4 : Int32} {p6 : Int32} {s0 : Int32} {s1 : Int32} {M : oM} {v : Int32} {M' : oM}  (hd : 4 ≤ d) (hK : oSR K)   (h : f_X12_part_160 N K  p1 p2 p3 p4 p6 s0 s1 M = some (v, M')) : oEv X d J_X12_part 160 [some (.ref 59), some (.int p1), some (.int p2), some (.int p3), some (.int p4), none, some (.int p6)] [(.int s0), (.int s1), (.ref 78)] K M (some (.int v)) K M' := by
  unfold f_X12_part_160 at h
  obtain ⟨i18, h⟩ := oIx_some h
  refine oe_iast (pc := 160) d_X12_part_160 (oLt hK (a := 78) (Nat.le_of_ble_eq_true rfl)) (oSha hK (a := 78) (Nat.le_of_ble_eq_true rfl) rfl) i18 ?_
  refine oe_aload_n (pc := 161) d_X12_part_161 rfl ?_
  refine oe_getr (pc := 162) d_X12_part_162 fl_X12_67 ock12 (k := 27) (b := 79) (Nat.le_of_ble_eq_true rfl) (by decide) (oLt hK (a := 59) (Nat.le_of_ble_eq_true rfl)) (oSho hK (a := 59) (Nat.le_of_ble_eq_true rfl) rfl) (oRfK hK rfl) ?_
  refine oe_iload (pc := 165) d_X12_part_165 rfl ?_
  refine oe_iload_n (pc := 167) d_X12_part_167 rfl ?_
  refine oe_iconst (pc := 168) (v := 1) d_X12_part_168 rfl ?_
  refine oe_icmp_ne (pc := 169) (tgt := 177) d_X12_part_169 (by decide) (fun c19 => ?_) (fun c19 => ?_)
  · replace h := (if_neg c19).symm.trans h
    refine oe_iconst (pc := 177) (v := (-1)) d_X12_part_177 rfl ?_
    refine oEv.fg [true, true, true, true, false, false, false] ?_
    exact v_X12_part_178 hd hK   h
  · replace h := (if_pos c19).symm.trans h
    refine oe_iload (pc := 172) d_X12_part_172 rfl ?_
    refine oe_goto (pc := 174) (tgt := 178) d_X12_part_174 (by decide) ?_
    refine oEv.fg [true, true, true, true, false, false, false] ?_
    exact v_X12_part_178 hd hK   h
def f_X12_part_109 (N : Nat) (K : oK)  (p1 : Int32) (p2 : Int32) (p3 : Int32) (p4 : Int32) (M : oM) : Option (Int32 × oM) :=
  oIx (p1) 20 ((if (M.1 76 (p1 : Int32).toNatClampNeg) = 24 then some ((-3), M) else oIx (p1) 20 (oIx ((((24 : Int32) * p1) + (M.1 76 (p1 : Int32).toNatClampNeg))) 480 ((if p2 = 2 then (f_X12_part_160 N K  p1 p2 p3 p4 (((24 : Int32) * p1) + (M.1 76 (p1 : Int32).toNatClampNeg)) (-1) (((24 : Int32) * p1) + (M.1 76 (p1 : Int32).toNatClampNeg)) (oUp M 77 ((((24 : Int32) * p1) + (M.1 76 (p1 : Int32).toNatClampNeg)) : Int32).toNatClampNeg p2)) else (f_X12_part_160 N K  p1 p2 p3 p4 (((24 : Int32) * p1) + (M.1 76 (p1 : Int32).toNatClampNeg)) p3 (((24 : Int32) * p1) + (M.1 76 (p1 : Int32).toNatClampNeg)) (oUp M 77 ((((24 : Int32) * p1) + (M.1 76 (p1 : Int32).toNatClampNeg)) : Int32).toNatClampNeg p2)))))))
set_option maxRecDepth 20000 in
theorem v_X12_part_109 {X : oX} {d N : Nat} {K : oK}  {p1 : Int32} {p2 : Int32} {p3 : Int32} {p4 : Int32} {M : oM} {v : Int32} {M' : oM}  (hd : 4 ≤ d) (hK : oSR K)   (h : f_X12_part_109 N K  p1 p2 p3 p4 M = some (v, M')) : oEv X d J_X12_part 109 [some (.ref 59), some (.int p1), some (.int p2), some (.int p3), some (.int p4), none, none] [] K M (some (.int v)) K M' := by
  unfold f_X12_part_109 at h
  refine oe_aload_n (pc := 109) d_X12_part_109 rfl ?_
  refine oe_getr (pc := 110) d_X12_part_110 fl_X12_58 ock12 (k := 24) (b := 76) (Nat.le_of_ble_eq_true rfl) (by decide) (oLt hK (a := 59) (Nat.le_of_ble_eq_true rfl)) (oSho hK (a := 59) (Nat.le_of_ble_eq_true rfl) rfl) (oRfK hK rfl) ?_
  refine oe_iload_n (pc := 113) d_X12_part_113 rfl ?_
  obtain ⟨i13, h⟩ := oIx_some h
  refine oe_iald (pc := 114) d_X12_part_114 (oLt hK (a := 76) (Nat.le_of_ble_eq_true rfl)) (oSha hK (a := 76) (Nat.le_of_ble_eq_true rfl) rfl) i13 ?_
  refine oe_bipush (pc := 115) (v := 24) d_X12_part_115 rfl ?_
  refine oe_icmp_ne (pc := 117) (tgt := 123) d_X12_part_117 (by decide) (fun c14 => ?_) (fun c14 => ?_)
  · replace h := (if_neg c14).symm.trans h
    refine oe_bipush (pc := 123) (v := 24) d_X12_part_123 rfl ?_
    refine oe_iload_n (pc := 125) d_X12_part_125 rfl ?_
    refine oe_imul (pc := 126) d_X12_part_126 ?_
    refine oe_aload_n (pc := 127) d_X12_part_127 rfl ?_
    refine oe_getr (pc := 128) d_X12_part_128 fl_X12_58 ock12 (k := 24) (b := 76) (Nat.le_of_ble_eq_true rfl) (by decide) (oLt hK (a := 59) (Nat.le_of_ble_eq_true rfl)) (oSho hK (a := 59) (Nat.le_of_ble_eq_true rfl) rfl) (oRfK hK rfl) ?_
    refine oe_iload_n (pc := 131) d_X12_part_131 rfl ?_
    obtain ⟨i15, h⟩ := oIx_some h
    refine oe_iald (pc := 132) d_X12_part_132 (oLt hK (a := 76) (Nat.le_of_ble_eq_true rfl)) (oSha hK (a := 76) (Nat.le_of_ble_eq_true rfl) rfl) i15 ?_
    refine oe_iadd (pc := 133) d_X12_part_133 ?_
    refine oe_istore (pc := 134) (L2 := [_, _, _, _, _, _, _]) d_X12_part_134 rfl (Nat.le_of_ble_eq_true rfl) rfl ?_
    refine oe_aload_n (pc := 136) d_X12_part_136 rfl ?_
    refine oe_getr (pc := 137) d_X12_part_137 fl_X12_61 ock12 (k := 25) (b := 77) (Nat.le_of_ble_eq_true rfl) (by decide) (oLt hK (a := 59) (Nat.le_of_ble_eq_true rfl)) (oSho hK (a := 59) (Nat.le_of_ble_eq_true rfl) rfl) (oRfK hK rfl) ?_
    refine oe_iload (pc := 140) d_X12_part_140 rfl ?_
    refine oe_iload_n (pc := 142) d_X12_part_142 rfl ?_
    obtain ⟨i16, h⟩ := oIx_some h
    refine oe_iast (pc := 143) d_X12_part_143 (oLt hK (a := 77) (Nat.le_of_ble_eq_true rfl)) (oSha hK (a := 77) (Nat.le_of_ble_eq_true rfl) rfl) i16 ?_
    refine oe_aload_n (pc := 144) d_X12_part_144 rfl ?_
    refine oe_getr (pc := 145) d_X12_part_145 fl_X12_64 ock12 (k := 26) (b := 78) (Nat.le_of_ble_eq_true rfl) (by decide) (oLt hK (a := 59) (Nat.le_of_ble_eq_true rfl)) (oSho hK (a := 59) (Nat.le_of_ble_eq_true rfl) rfl) (oRfK hK rfl) ?_
    refine oe_iload (pc := 148) d_X12_part_148 rfl ?_
    refine oe_iload_n (pc := 150) d_X12_part_150 rfl ?_
    refine oe_iconst (pc := 151) (v := 2) d_X12_part_151 rfl ?_
    refine oe_icmp_ne (pc := 152) (tgt := 159) d_X12_part_152 (by decide) (fun c17 => ?_) (fun c17 => ?_)
    · replace h := (if_neg c17).symm.trans h
      refine oe_iload_n (pc := 159) d_X12_part_159 rfl ?_
      exact v_X12_part_160 hd hK   h
    · replace h := (if_pos c17).symm.trans h
      refine oe_iconst (pc := 155) (v := (-1)) d_X12_part_155 rfl ?_
      refine oe_goto (pc := 156) (tgt := 160) d_X12_part_156 (by decide) ?_
      exact v_X12_part_160 hd hK   h
  · replace h := (if_pos c14).symm.trans h
    refine oe_bipush (pc := 120) (v := (-3)) d_X12_part_120 rfl ?_
    obtain ⟨rfl, rfl⟩ := oRes h
    exact oe_iret (pc := 122) d_X12_part_122 ⟨_, rfl, rfl⟩
def f_X12_part_84 (N : Nat) (K : oK)  (p1 : Int32) (p2 : Int32) (p3 : Int32) (p4 : Int32) (s0 : Int32) (M : oM) : Option (Int32 × oM) :=
  (if s0 = 0 then some ((-1), M) else (if p2 = 0 then oIx (p3) 6 ((if (M.1 80 (p3 : Int32).toNatClampNeg) = 0 then (f_X12_part_109 N K  p1 p2 p3 p4 M) else some ((-5), M))) else (f_X12_part_109 N K  p1 p2 p3 p4 M)))
set_option maxRecDepth 20000 in
theorem v_X12_part_84 {X : oX} {d N : Nat} {K : oK}  {p1 : Int32} {p2 : Int32} {p3 : Int32} {p4 : Int32} {s0 : Int32} {M : oM} {v : Int32} {M' : oM}  (hd : 4 ≤ d) (hK : oSR K)   (h : f_X12_part_84 N K  p1 p2 p3 p4 s0 M = some (v, M')) : oEv X d J_X12_part 84 [some (.ref 59), some (.int p1), some (.int p2), some (.int p3), some (.int p4), none, none] [(.int s0)] K M (some (.int v)) K M' := by
  unfold f_X12_part_84 at h
  refine oe_istore (pc := 84) (L2 := [_, _, _, _, _, _, _]) d_X12_part_84 rfl (Nat.le_of_ble_eq_true rfl) rfl ?_
  refine oe_iload (pc := 86) d_X12_part_86 rfl ?_
  refine oe_if_ne (pc := 88) (tgt := 93) d_X12_part_88 (by decide) (fun c11 => ?_) (fun c11 => ?_)
  · replace h := (if_neg c11).symm.trans h
    refine oe_iload_n (pc := 93) d_X12_part_93 rfl ?_
    refine oe_if_ne (pc := 94) (tgt := 109) d_X12_part_94 (by decide) (fun c12 => ?_) (fun c12 => ?_)
    · replace h := (if_neg c12).symm.trans h
      refine oEv.fg [true, true, true, true, true, false, false] ?_
      exact v_X12_part_109 hd hK   h
    · replace h := (if_pos c12).symm.trans h
      refine oe_aload_n (pc := 97) d_X12_part_97 rfl ?_
      refine oe_getr (pc := 98) d_X12_part_98 fl_X12_70 ock12 (k := 28) (b := 80) (Nat.le_of_ble_eq_true rfl) (by decide) (oLt hK (a := 59) (Nat.le_of_ble_eq_true rfl)) (oSho hK (a := 59) (Nat.le_of_ble_eq_true rfl) rfl) (oRfK hK rfl) ?_
      refine oe_iload_n (pc := 101) d_X12_part_101 rfl ?_
      obtain ⟨i33, h⟩ := oIx_some h
      refine oe_zald (pc := 102) d_X12_part_102 (oLt hK (a := 80) (Nat.le_of_ble_eq_true rfl)) (oSha hK (a := 80) (Nat.le_of_ble_eq_true rfl) rfl) i33 ?_
      refine oe_if_eq (pc := 103) (tgt := 109) d_X12_part_103 (by decide) (fun c34 => ?_) (fun c34 => ?_)
      · replace h := (if_pos c34).symm.trans h
        refine oEv.fg [true, true, true, true, true, false, false] ?_
        exact v_X12_part_109 hd hK   h
      · replace h := (if_neg c34).symm.trans h
        refine oe_bipush (pc := 106) (v := (-5)) d_X12_part_106 rfl ?_
        obtain ⟨rfl, rfl⟩ := oRes h
        exact oe_iret (pc := 108) d_X12_part_108 ⟨_, rfl, rfl⟩
  · replace h := (if_pos c11).symm.trans h
    refine oe_iconst (pc := 91) (v := (-1)) d_X12_part_91 rfl ?_
    obtain ⟨rfl, rfl⟩ := oRes h
    exact oe_iret (pc := 92) d_X12_part_92 ⟨_, rfl, rfl⟩
def f_X12_part_65 (N : Nat) (K : oK)  (p1 : Int32) (p2 : Int32) (p3 : Int32) (p4 : Int32) (M : oM) : Option (Int32 × oM) :=
  (f_X12_part_84 N K  p1 p2 p3 p4 0 M)
set_option maxRecDepth 20000 in
theorem v_X12_part_65 {X : oX} {d N : Nat} {K : oK}  {p1 : Int32} {p2 : Int32} {p3 : Int32} {p4 : Int32} {M : oM} {v : Int32} {M' : oM}  (hd : 4 ≤ d) (hK : oSR K)   (h : f_X12_part_65 N K  p1 p2 p3 p4 M = some (v, M')) : oEv X d J_X12_part 65 [some (.ref 59), some (.int p1), some (.int p2), some (.int p3), some (.int p4), none, none] [] K M (some (.int v)) K M' := by
  unfold f_X12_part_65 at h
  refine oe_iconst (pc := 65) (v := 0) d_X12_part_65 rfl ?_
  refine oe_goto (pc := 66) (tgt := 84) d_X12_part_66 (by decide) ?_
  exact v_X12_part_84 hd hK   h
def f_X12_part (N : Nat) (K : oK) (p1 : Int32) (p2 : Int32) (p3 : Int32) (p4 : Int32) (M : oM) : Option (Int32 × oM) :=
  oB2 (f_X12_isLaying N K p1 M) (fun v1 M2 => cond v1 (oB2 (f_X12_within N K ((p2 : Int32).toInt64) 0 2 M2) (fun v4 M5 => cond v4 ((if p2 = 0 then oB2 (f_X12_isEngine N K p3 M5) (fun v42 M43 => cond v42 ((f_X12_part_84 N K  p1 p2 p3 p4 1 M43)) ((f_X12_part_84 N K  p1 p2 p3 p4 0 M43))) else (if p2 = 1 then oIx (p1) 20 (oB2 (f_X12_leadsOn N K p3 (M5.1 75 (p1 : Int32).toNatClampNeg) M5) (fun v36 M37 => cond v36 (oB2 (f_X12_isBore N K p4 M37) (fun v39 M40 => cond v39 ((f_X12_part_84 N K  p1 p2 p3 p4 1 M40)) ((f_X12_part_65 N K  p1 p2 p3 p4 M40)))) ((f_X12_part_65 N K  p1 p2 p3 p4 M37)))) else oIx (p1) 20 ((if (M5.1 73 (p1 : Int32).toNatClampNeg) = 3 then (f_X12_part_84 N K  p1 p2 p3 p4 1 M5) else (f_X12_part_84 N K  p1 p2 p3 p4 0 M5)))))) (some ((-1), M5)))) (some ((-1), M2)))
set_option maxRecDepth 20000 in
theorem v_X12_part {X : oX} {N : Nat} {K : oK} {p1 : Int32} {p2 : Int32} {p3 : Int32} {p4 : Int32} {M : oM} {v : Int32} {M' : oM} (hK : oSR K)  (h : f_X12_part N K p1 p2 p3 p4 M = some (v, M')) : oMet X 4 J_X12_part [(.ref 59), (.int p1), (.int p2), (.int p3), (.int p4)] K M (some (.int v)) K M' := by
  unfold f_X12_part at h
  refine oMet_of (L := [some (.ref 59), some (.int p1), some (.int p2), some (.int p3), some (.int p4), none, none]) jJ_X12_part.1 rfl (Nat.le_of_ble_eq_true rfl) rfl (Nat.le_refl _) (Nat.le_refl _) ?_
  have hd : 4 ≤ 4 := Nat.le_refl _
  refine oe_aload_n (pc := 0) d_X12_part_0 rfl ?_
  refine oe_iload_n (pc := 1) d_X12_part_1 rfl ?_
  obtain ⟨v1, M2, q3, h⟩ := oB2_some h
  cases v1 with
  | true =>
    replace h := oCt h
    refine oe_callV (pc := 2) (ci := 12) d_X12_part_2 (v_X12_isLaying hK  q3) (by omega) ml_X12_230 jJ_X12_isLaying rfl rfl (oLt hK (a := 59) (Nat.le_of_ble_eq_true rfl)) (oSho hK (a := 59) (Nat.le_of_ble_eq_true rfl) rfl) ock12 rfl (Nat.le_of_ble_eq_true rfl) ⟨Nat.le_refl _, Nat.le_refl _⟩ ⟨Nat.le_refl _, Nat.le_refl _⟩ ?_
    refine oe_if_eq (pc := 5) (tgt := 20) d_X12_part_5 (by decide) (fun c => absurd c (by decide)) (fun _ => ?_)
    refine oe_iload_n (pc := 8) d_X12_part_8 rfl ?_
    refine oe_i2l (pc := 9) d_X12_part_9 ?_
    refine oe_lconst (pc := 10) (v := 0) d_X12_part_10 rfl ?_
    refine oe_ldc2 (pc := 11) d_X12_part_11 co_X12_152 ?_
    obtain ⟨v4, M5, q6, h⟩ := oB2_some h
    cases v4 with
    | true =>
      replace h := oCt h
      refine oe_callS (pc := 14) d_X12_part_14 (v_X12_within hK  q6) (by omega) ml_X12_145 jJ_X12_within rfl rfl (Nat.le_of_ble_eq_true rfl) ⟨Nat.le_refl _, Nat.le_refl _⟩ ⟨Nat.le_refl _, Nat.le_refl _⟩ ?_
      refine oe_if_ne (pc := 17) (tgt := 22) d_X12_part_17 (by decide) (fun _ => ?_) (fun c => absurd c (by decide))
      refine oe_iload_n (pc := 22) d_X12_part_22 rfl ?_
      refine oe_if_ne (pc := 23) (tgt := 34) d_X12_part_23 (by decide) (fun c7 => ?_) (fun c7 => ?_)
      · replace h := (if_neg c7).symm.trans h
        refine oe_iload_n (pc := 34) d_X12_part_34 rfl ?_
        refine oe_iconst (pc := 35) (v := 1) d_X12_part_35 rfl ?_
        refine oe_icmp_ne (pc := 36) (tgt := 69) d_X12_part_36 (by decide) (fun c8 => ?_) (fun c8 => ?_)
        · replace h := (if_neg c8).symm.trans h
          refine oe_aload_n (pc := 69) d_X12_part_69 rfl ?_
          refine oe_getr (pc := 70) d_X12_part_70 fl_X12_49 ock12 (k := 21) (b := 73) (Nat.le_of_ble_eq_true rfl) (by decide) (oLt hK (a := 59) (Nat.le_of_ble_eq_true rfl)) (oSho hK (a := 59) (Nat.le_of_ble_eq_true rfl) rfl) (oRfK hK rfl) ?_
          refine oe_iload_n (pc := 73) d_X12_part_73 rfl ?_
          obtain ⟨i9, h⟩ := oIx_some h
          refine oe_iald (pc := 74) d_X12_part_74 (oLt hK (a := 73) (Nat.le_of_ble_eq_true rfl)) (oSha hK (a := 73) (Nat.le_of_ble_eq_true rfl) rfl) i9 ?_
          refine oe_iconst (pc := 75) (v := 3) d_X12_part_75 rfl ?_
          refine oe_icmp_ne (pc := 76) (tgt := 83) d_X12_part_76 (by decide) (fun c10 => ?_) (fun c10 => ?_)
          · replace h := (if_neg c10).symm.trans h
            refine oe_iconst (pc := 83) (v := 0) d_X12_part_83 rfl ?_
            exact v_X12_part_84 hd hK   h
          · replace h := (if_pos c10).symm.trans h
            refine oe_iconst (pc := 79) (v := 1) d_X12_part_79 rfl ?_
            refine oe_goto (pc := 80) (tgt := 84) d_X12_part_80 (by decide) ?_
            exact v_X12_part_84 hd hK   h
        · replace h := (if_pos c8).symm.trans h
          refine oe_aload_n (pc := 39) d_X12_part_39 rfl ?_
          refine oe_iload_n (pc := 40) d_X12_part_40 rfl ?_
          refine oe_aload_n (pc := 41) d_X12_part_41 rfl ?_
          refine oe_getr (pc := 42) d_X12_part_42 fl_X12_55 ock12 (k := 23) (b := 75) (Nat.le_of_ble_eq_true rfl) (by decide) (oLt hK (a := 59) (Nat.le_of_ble_eq_true rfl)) (oSho hK (a := 59) (Nat.le_of_ble_eq_true rfl) rfl) (oRfK hK rfl) ?_
          refine oe_iload_n (pc := 45) d_X12_part_45 rfl ?_
          obtain ⟨i35, h⟩ := oIx_some h
          refine oe_iald (pc := 46) d_X12_part_46 (oLt hK (a := 75) (Nat.le_of_ble_eq_true rfl)) (oSha hK (a := 75) (Nat.le_of_ble_eq_true rfl) rfl) i35 ?_
          obtain ⟨v36, M37, q38, h⟩ := oB2_some h
          cases v36 with
          | true =>
            replace h := oCt h
            refine oe_callV (pc := 47) (ci := 12) d_X12_part_47 (v_X12_leadsOn hK  q38) (by omega) ml_X12_233 jJ_X12_leadsOn rfl rfl (oLt hK (a := 59) (Nat.le_of_ble_eq_true rfl)) (oSho hK (a := 59) (Nat.le_of_ble_eq_true rfl) rfl) ock12 rfl (Nat.le_of_ble_eq_true rfl) ⟨Nat.le_refl _, Nat.le_refl _⟩ ⟨Nat.le_refl _, Nat.le_refl _⟩ ?_
            refine oe_if_eq (pc := 50) (tgt := 65) d_X12_part_50 (by decide) (fun c => absurd c (by decide)) (fun _ => ?_)
            refine oe_iload (pc := 53) d_X12_part_53 rfl ?_
            obtain ⟨v39, M40, q41, h⟩ := oB2_some h
            cases v39 with
            | true =>
              replace h := oCt h
              refine oe_callS (pc := 55) d_X12_part_55 (v_X12_isBore hK  q41) (by omega) ml_X12_169 jJ_X12_isBore rfl rfl (Nat.le_of_ble_eq_true rfl) ⟨Nat.le_refl _, Nat.le_refl _⟩ ⟨Nat.le_refl _, Nat.le_refl _⟩ ?_
              refine oe_if_eq (pc := 58) (tgt := 65) d_X12_part_58 (by decide) (fun c => absurd c (by decide)) (fun _ => ?_)
              refine oe_iconst (pc := 61) (v := 1) d_X12_part_61 rfl ?_
              refine oe_goto (pc := 62) (tgt := 84) d_X12_part_62 (by decide) ?_
              exact v_X12_part_84 hd hK   h
            | false =>
              replace h := oCf h
              refine oe_callS (pc := 55) d_X12_part_55 (v_X12_isBore hK  q41) (by omega) ml_X12_169 jJ_X12_isBore rfl rfl (Nat.le_of_ble_eq_true rfl) ⟨Nat.le_refl _, Nat.le_refl _⟩ ⟨Nat.le_refl _, Nat.le_refl _⟩ ?_
              refine oe_if_eq (pc := 58) (tgt := 65) d_X12_part_58 (by decide) (fun _ => ?_) (fun c => absurd (by decide) c)
              exact v_X12_part_65 hd hK   h
          | false =>
            replace h := oCf h
            refine oe_callV (pc := 47) (ci := 12) d_X12_part_47 (v_X12_leadsOn hK  q38) (by omega) ml_X12_233 jJ_X12_leadsOn rfl rfl (oLt hK (a := 59) (Nat.le_of_ble_eq_true rfl)) (oSho hK (a := 59) (Nat.le_of_ble_eq_true rfl) rfl) ock12 rfl (Nat.le_of_ble_eq_true rfl) ⟨Nat.le_refl _, Nat.le_refl _⟩ ⟨Nat.le_refl _, Nat.le_refl _⟩ ?_
            refine oe_if_eq (pc := 50) (tgt := 65) d_X12_part_50 (by decide) (fun _ => ?_) (fun c => absurd (by decide) c)
            exact v_X12_part_65 hd hK   h
      · replace h := (if_pos c7).symm.trans h
        refine oe_aload_n (pc := 26) d_X12_part_26 rfl ?_
        refine oe_iload_n (pc := 27) d_X12_part_27 rfl ?_
        obtain ⟨v42, M43, q44, h⟩ := oB2_some h
        cases v42 with
        | true =>
          replace h := oCt h
          refine oe_callV (pc := 28) (ci := 12) d_X12_part_28 (v_X12_isEngine hK  q44) (by omega) ml_X12_216 jJ_X12_isEngine rfl rfl (oLt hK (a := 59) (Nat.le_of_ble_eq_true rfl)) (oSho hK (a := 59) (Nat.le_of_ble_eq_true rfl) rfl) ock12 rfl (Nat.le_of_ble_eq_true rfl) ⟨Nat.le_refl _, Nat.le_refl _⟩ ⟨Nat.le_refl _, Nat.le_refl _⟩ ?_
          refine oe_goto (pc := 31) (tgt := 84) d_X12_part_31 (by decide) ?_
          exact v_X12_part_84 hd hK   h
        | false =>
          replace h := oCf h
          refine oe_callV (pc := 28) (ci := 12) d_X12_part_28 (v_X12_isEngine hK  q44) (by omega) ml_X12_216 jJ_X12_isEngine rfl rfl (oLt hK (a := 59) (Nat.le_of_ble_eq_true rfl)) (oSho hK (a := 59) (Nat.le_of_ble_eq_true rfl) rfl) ock12 rfl (Nat.le_of_ble_eq_true rfl) ⟨Nat.le_refl _, Nat.le_refl _⟩ ⟨Nat.le_refl _, Nat.le_refl _⟩ ?_
          refine oe_goto (pc := 31) (tgt := 84) d_X12_part_31 (by decide) ?_
          exact v_X12_part_84 hd hK   h
    | false =>
      replace h := oCf h
      refine oe_callS (pc := 14) d_X12_part_14 (v_X12_within hK  q6) (by omega) ml_X12_145 jJ_X12_within rfl rfl (Nat.le_of_ble_eq_true rfl) ⟨Nat.le_refl _, Nat.le_refl _⟩ ⟨Nat.le_refl _, Nat.le_refl _⟩ ?_
      refine oe_if_ne (pc := 17) (tgt := 22) d_X12_part_17 (by decide) (fun c => absurd (by decide) c) (fun _ => ?_)
      refine oe_iconst (pc := 20) (v := (-1)) d_X12_part_20 rfl ?_
      obtain ⟨rfl, rfl⟩ := oRes h
      exact oe_iret (pc := 21) d_X12_part_21 ⟨_, rfl, rfl⟩
  | false =>
    replace h := oCf h
    refine oe_callV (pc := 2) (ci := 12) d_X12_part_2 (v_X12_isLaying hK  q3) (by omega) ml_X12_230 jJ_X12_isLaying rfl rfl (oLt hK (a := 59) (Nat.le_of_ble_eq_true rfl)) (oSho hK (a := 59) (Nat.le_of_ble_eq_true rfl) rfl) ock12 rfl (Nat.le_of_ble_eq_true rfl) ⟨Nat.le_refl _, Nat.le_refl _⟩ ⟨Nat.le_refl _, Nat.le_refl _⟩ ?_
    refine oe_if_eq (pc := 5) (tgt := 20) d_X12_part_5 (by decide) (fun _ => ?_) (fun c => absurd (by decide) c)
    refine oe_iconst (pc := 20) (v := (-1)) d_X12_part_20 rfl ?_
    obtain ⟨rfl, rfl⟩ := oRes h
    exact oe_iret (pc := 21) d_X12_part_21 ⟨_, rfl, rfl⟩
