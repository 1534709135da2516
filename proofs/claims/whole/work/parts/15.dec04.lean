/-! walked by program: X7_take, X7_weigh, J6_bitCount_0f7a4, X7_mayStand, X7_behindTub, X7_lines, X7_drop, X7_standsAhead, X7_raisedAhead, X7_setFloors -/
theorem d_X7_take_0 : decode J_X7_take.2.1 0 = .ok (.aload_n 0, 1) := by decide +kernel
theorem d_X7_take_1 : decode J_X7_take.2.1 1 = .ok (.aload_n 1, 1) := by decide +kernel
theorem d_X7_take_2 : decode J_X7_take.2.1 2 = .ok (.getfield 45, 3) := by decide +kernel
theorem d_X7_take_5 : decode J_X7_take.2.1 5 = .ok (.putfield 51, 3) := by decide +kernel
theorem d_X7_take_8 : decode J_X7_take.2.1 8 = .ok (.aload_n 0, 1) := by decide +kernel
theorem d_X7_take_9 : decode J_X7_take.2.1 9 = .ok (.iconst 0, 1) := by decide +kernel
theorem d_X7_take_10 : decode J_X7_take.2.1 10 = .ok (.putfield 52, 3) := by decide +kernel
theorem d_X7_take_13 : decode J_X7_take.2.1 13 = .ok (.aload_n 0, 1) := by decide +kernel
theorem d_X7_take_14 : decode J_X7_take.2.1 14 = .ok (.iconst 0, 1) := by decide +kernel
theorem d_X7_take_15 : decode J_X7_take.2.1 15 = .ok (.putfield 55, 3) := by decide +kernel
theorem d_X7_take_18 : decode J_X7_take.2.1 18 = .ok (.aload_n 0, 1) := by decide +kernel
theorem d_X7_take_19 : decode J_X7_take.2.1 19 = .ok (.getfield 18, 3) := by decide +kernel
theorem d_X7_take_22 : decode J_X7_take.2.1 22 = .ok (.iconst 0, 1) := by decide +kernel
theorem d_X7_take_23 : decode J_X7_take.2.1 23 = .ok (.iconst 0, 1) := by decide +kernel
theorem d_X7_take_24 : decode J_X7_take.2.1 24 = .ok (.bastore, 1) := by decide +kernel
theorem d_X7_take_25 : decode J_X7_take.2.1 25 = .ok (.iconst 0, 1) := by decide +kernel
theorem d_X7_take_26 : decode J_X7_take.2.1 26 = .ok (.istore_n 2, 1) := by decide +kernel
theorem d_X7_take_27 : decode J_X7_take.2.1 27 = .ok (.iload_n 2, 1) := by decide +kernel
theorem d_X7_take_28 : decode J_X7_take.2.1 28 = .ok (.aload_n 1, 1) := by decide +kernel
theorem d_X7_take_29 : decode J_X7_take.2.1 29 = .ok (.getfield 58, 3) := by decide +kernel
theorem d_X7_take_32 : decode J_X7_take.2.1 32 = .ok (.if_icmp .ge 20, 3) := by decide +kernel
theorem d_X7_take_35 : decode J_X7_take.2.1 35 = .ok (.aload_n 0, 1) := by decide +kernel
theorem d_X7_take_36 : decode J_X7_take.2.1 36 = .ok (.aload_n 1, 1) := by decide +kernel
theorem d_X7_take_37 : decode J_X7_take.2.1 37 = .ok (.iload_n 2, 1) := by decide +kernel
theorem d_X7_take_38 : decode J_X7_take.2.1 38 = .ok (.invokevirtual 61, 3) := by decide +kernel
theorem d_X7_take_41 : decode J_X7_take.2.1 41 = .ok (.ifCond .ne 5, 3) := by decide +kernel
theorem d_X7_take_44 : decode J_X7_take.2.1 44 = .ok (.iconst 0, 1) := by decide +kernel
theorem d_X7_take_45 : decode J_X7_take.2.1 45 = .ok (.ireturn, 1) := by decide +kernel
theorem d_X7_take_46 : decode J_X7_take.2.1 46 = .ok (.iinc 2 1, 3) := by decide +kernel
theorem d_X7_take_49 : decode J_X7_take.2.1 49 = .ok (.goto (-22), 3) := by decide +kernel
theorem d_X7_take_52 : decode J_X7_take.2.1 52 = .ok (.iconst 1, 1) := by decide +kernel
theorem d_X7_take_53 : decode J_X7_take.2.1 53 = .ok (.ireturn, 1) := by decide +kernel
def f_X7_take_27 (N : Nat) (K : oK)  : Nat → Nat → Int32 → oM → Option (Bool × oM)
  | 0, _, _, _ => none
  | n + 1, p1, p2, M => (fun r27 => (if (M.1 p1 7) ≤ p2 then some (true, M) else oB2 (f_X7_takePart N K p1 p2 M) (fun v3 M4 => cond v3 ((r27 p1 (p2 + 1) M4)) (some (false, M4))))) (f_X7_take_27 N K  n)
set_option maxRecDepth 20000 in
theorem v_X7_take_27_L {X : oX} {d N : Nat} {K : oK}  (hd : 4 ≤ d) (hK : oSR K)  : ∀ (n : Nat) (p1 : Nat) (p2 : Int32) (M : oM) (v : Bool) (M' : oM)  (hh_p1 : oLS K p1), f_X7_take_27 N K  n p1 p2 M = some (v, M') → oEv X d J_X7_take 27 [some (.ref 28), some (.ref p1), some (.int p2)] [] K M (some (.int (oBi v))) K M' := by
  intro n
  induction n with
  | zero =>
    intro p1 p2 M v M'  hh_p1 h
    cases h
  | succ n hr27 =>
    intro p1 p2 M v M'  hh_p1 h
    refine oe_iload_n (pc := 27) d_X7_take_27 rfl ?_
    refine oe_aload_n (pc := 28) d_X7_take_28 rfl ?_
    refine oe_getf (pc := 29) d_X7_take_29 fl_X7_58 ock6 (k := 7) (Nat.le_of_ble_eq_true rfl) rfl (oLSa hh_p1 (j := 0) (Nat.le_of_ble_eq_true rfl)) (oLSo hh_p1) ?_
    refine oe_icmp_ge (pc := 32) (tgt := 52) d_X7_take_32 (by decide) (fun c2 => ?_) (fun c2 => ?_)
    · replace h := (if_pos c2).symm.trans h
      refine oe_iconst (pc := 52) (v := 1) d_X7_take_52 rfl ?_
      obtain ⟨rfl, rfl⟩ := oRes h
      exact oe_iret (pc := 53) d_X7_take_53 ⟨_, rfl, rfl⟩
    · replace h := (if_neg c2).symm.trans h
      refine oe_aload_n (pc := 35) d_X7_take_35 rfl ?_
      refine oe_aload_n (pc := 36) d_X7_take_36 rfl ?_
      refine oe_iload_n (pc := 37) d_X7_take_37 rfl ?_
      obtain ⟨v3, M4, q5, h⟩ := oB2_some h
      cases v3 with
      | true =>
        replace h := oCt h
        refine oe_callV (pc := 38) (ci := 7) d_X7_take_38 (v_X7_takePart hK hh_p1 q5) (by omega) ml_X7_61 jJ_X7_takePart rfl rfl (oLt hK (a := 28) (Nat.le_of_ble_eq_true rfl)) (oSho hK (a := 28) (Nat.le_of_ble_eq_true rfl) rfl) ock7 rfl (Nat.le_of_ble_eq_true rfl) ⟨Nat.le_refl _, Nat.le_refl _⟩ ⟨Nat.le_refl _, Nat.le_refl _⟩ ?_
        refine oe_if_ne (pc := 41) (tgt := 46) d_X7_take_41 (by decide) (fun _ => ?_) (fun c => absurd c (by decide))
        refine oe_iinc (pc := 46) (v := (p2 + 1)) (L2 := [_, _, _]) d_X7_take_46 rfl rfl rfl (Nat.le_of_ble_eq_true rfl) rfl ?_
        refine oe_goto (pc := 49) (tgt := 27) d_X7_take_49 (by decide) ?_
        exact hr27 _ _ _ _ _ hh_p1 h
      | false =>
        replace h := oCf h
        refine oe_callV (pc := 38) (ci := 7) d_X7_take_38 (v_X7_takePart hK hh_p1 q5) (by omega) ml_X7_61 jJ_X7_takePart rfl rfl (oLt hK (a := 28) (Nat.le_of_ble_eq_true rfl)) (oSho hK (a := 28) (Nat.le_of_ble_eq_true rfl) rfl) ock7 rfl (Nat.le_of_ble_eq_true rfl) ⟨Nat.le_refl _, Nat.le_refl _⟩ ⟨Nat.le_refl _, Nat.le_refl _⟩ ?_
        refine oe_if_ne (pc := 41) (tgt := 46) d_X7_take_41 (by decide) (fun c => absurd (by decide) c) (fun _ => ?_)
        refine oe_iconst (pc := 44) (v := 0) d_X7_take_44 rfl ?_
        obtain ⟨rfl, rfl⟩ := oRes h
        exact oe_iret (pc := 45) d_X7_take_45 ⟨_, rfl, rfl⟩
theorem v_X7_take_27 {X : oX} {d N : Nat} {K : oK}  {p1 : Nat} {p2 : Int32} {M : oM} {v : Bool} {M' : oM}  (hd : 4 ≤ d) (hK : oSR K) (hh_p1 : oLS K p1)  (h : f_X7_take_27 N K  N p1 p2 M = some (v, M')) : oEv X d J_X7_take 27 [some (.ref 28), some (.ref p1), some (.int p2)] [] K M (some (.int (oBi v))) K M' := v_X7_take_27_L hd hK  N p1 p2 M v M'  hh_p1 h
def f_X7_take (N : Nat) (K : oK) (p1 : Nat) (M : oM) : Option (Bool × oM) :=
  oIx (0) 7 ((f_X7_take_27 N K  N p1 0 (oUp (oUp (oUp (oUp M 28 10 (M.1 p1 1)) 28 11 (0 : Int32)) 28 12 (0 : Int32)) 31 (0 : Int32).toNatClampNeg (vp_nar .boolean (0 : Int32)))))
set_option maxRecDepth 20000 in
theorem v_X7_take {X : oX} {N : Nat} {K : oK} {p1 : Nat} {M : oM} {v : Bool} {M' : oM} (hK : oSR K) (hh_p1 : oLS K p1) (h : f_X7_take N K p1 M = some (v, M')) : oMet X 4 J_X7_take [(.ref 28), (.ref p1)] K M (some (.int (oBi v))) K M' := by
  unfold f_X7_take at h
  refine oMet_of (L := [some (.ref 28), some (.ref p1), none]) jJ_X7_take.1 rfl (Nat.le_of_ble_eq_true rfl) rfl (Nat.le_refl _) (Nat.le_refl _) ?_
  have hd : 4 ≤ 4 := Nat.le_refl _
  refine oe_aload_n (pc := 0) d_X7_take_0 rfl ?_
  refine oe_aload_n (pc := 1) d_X7_take_1 rfl ?_
  refine oe_getf (pc := 2) d_X7_take_2 fl_X7_45 ock6 (k := 1) (Nat.le_of_ble_eq_true rfl) rfl (oLSa hh_p1 (j := 0) (Nat.le_of_ble_eq_true rfl)) (oLSo hh_p1) ?_
  refine oe_putf (pc := 5) d_X7_take_5 fl_X7_51 ock7 (k := 10) (Nat.le_of_ble_eq_true rfl) rfl rfl (oLt hK (a := 28) (Nat.le_of_ble_eq_true rfl)) (oSho hK (a := 28) (Nat.le_of_ble_eq_true rfl) rfl) ?_
  refine oe_aload_n (pc := 8) d_X7_take_8 rfl ?_
  refine oe_iconst (pc := 9) (v := 0) d_X7_take_9 rfl ?_
  refine oe_putf (pc := 10) d_X7_take_10 fl_X7_52 ock7 (k := 11) (Nat.le_of_ble_eq_true rfl) rfl rfl (oLt hK (a := 28) (Nat.le_of_ble_eq_true rfl)) (oSho hK (a := 28) (Nat.le_of_ble_eq_true rfl) rfl) ?_
  refine oe_aload_n (pc := 13) d_X7_take_13 rfl ?_
  refine oe_iconst (pc := 14) (v := 0) d_X7_take_14 rfl ?_
  refine oe_putf (pc := 15) d_X7_take_15 fl_X7_55 ock7 (k := 12) (Nat.le_of_ble_eq_true rfl) rfl rfl (oLt hK (a := 28) (Nat.le_of_ble_eq_true rfl)) (oSho hK (a := 28) (Nat.le_of_ble_eq_true rfl) rfl) ?_
  refine oe_aload_n (pc := 18) d_X7_take_18 rfl ?_
  refine oe_getr (pc := 19) d_X7_take_19 fl_X7_18 ock7 (k := 4) (b := 31) (Nat.le_of_ble_eq_true rfl) (by decide) (oLt hK (a := 28) (Nat.le_of_ble_eq_true rfl)) (oSho hK (a := 28) (Nat.le_of_ble_eq_true rfl) rfl) (oRfK hK rfl) ?_
  refine oe_iconst (pc := 22) (v := 0) d_X7_take_22 rfl ?_
  refine oe_iconst (pc := 23) (v := 0) d_X7_take_23 rfl ?_
  obtain ⟨i1, h⟩ := oIx_some h
  refine oe_zast (pc := 24) d_X7_take_24 (oLt hK (a := 31) (Nat.le_of_ble_eq_true rfl)) (oSha hK (a := 31) (Nat.le_of_ble_eq_true rfl) rfl) i1 ?_
  refine oe_iconst (pc := 25) (v := 0) d_X7_take_25 rfl ?_
  refine oe_istore_n (pc := 26) (L2 := [_, _, _]) d_X7_take_26 rfl rfl (Nat.le_of_ble_eq_true rfl) rfl ?_
  exact v_X7_take_27 hd hK hh_p1  h
theorem d_X7_weigh_0 : decode J_X7_weigh.2.1 0 = .ok (.iconst 0, 1) := by decide +kernel
theorem d_X7_weigh_1 : decode J_X7_weigh.2.1 1 = .ok (.istore_n 2, 1) := by decide +kernel
theorem d_X7_weigh_2 : decode J_X7_weigh.2.1 2 = .ok (.iload_n 2, 1) := by decide +kernel
theorem d_X7_weigh_3 : decode J_X7_weigh.2.1 3 = .ok (.aload_n 0, 1) := by decide +kernel
theorem d_X7_weigh_4 : decode J_X7_weigh.2.1 4 = .ok (.getfield 55, 3) := by decide +kernel
theorem d_X7_weigh_7 : decode J_X7_weigh.2.1 7 = .ok (.if_icmp .ge 29, 3) := by decide +kernel
theorem d_X7_weigh_10 : decode J_X7_weigh.2.1 10 = .ok (.aload_n 0, 1) := by decide +kernel
theorem d_X7_weigh_11 : decode J_X7_weigh.2.1 11 = .ok (.getfield 25, 3) := by decide +kernel
theorem d_X7_weigh_14 : decode J_X7_weigh.2.1 14 = .ok (.iload_n 2, 1) := by decide +kernel
theorem d_X7_weigh_15 : decode J_X7_weigh.2.1 15 = .ok (.aload_n 0, 1) := by decide +kernel
theorem d_X7_weigh_16 : decode J_X7_weigh.2.1 16 = .ok (.getfield 41, 3) := by decide +kernel
theorem d_X7_weigh_19 : decode J_X7_weigh.2.1 19 = .ok (.aload_n 0, 1) := by decide +kernel
theorem d_X7_weigh_20 : decode J_X7_weigh.2.1 20 = .ok (.getfield 22, 3) := by decide +kernel
theorem d_X7_weigh_23 : decode J_X7_weigh.2.1 23 = .ok (.iload_n 2, 1) := by decide +kernel
theorem d_X7_weigh_24 : decode J_X7_weigh.2.1 24 = .ok (.iaload, 1) := by decide +kernel
theorem d_X7_weigh_25 : decode J_X7_weigh.2.1 25 = .ok (.iload_n 1, 1) := by decide +kernel
theorem d_X7_weigh_26 : decode J_X7_weigh.2.1 26 = .ok (.invokevirtual 126, 3) := by decide +kernel
theorem d_X7_weigh_29 : decode J_X7_weigh.2.1 29 = .ok (.iastore, 1) := by decide +kernel
theorem d_X7_weigh_30 : decode J_X7_weigh.2.1 30 = .ok (.iinc 2 1, 3) := by decide +kernel
theorem d_X7_weigh_33 : decode J_X7_weigh.2.1 33 = .ok (.goto (-31), 3) := by decide +kernel
theorem d_X7_weigh_36 : decode J_X7_weigh.2.1 36 = .ok (.iconst 0, 1) := by decide +kernel
theorem d_X7_weigh_37 : decode J_X7_weigh.2.1 37 = .ok (.istore_n 2, 1) := by decide +kernel
theorem d_X7_weigh_38 : decode J_X7_weigh.2.1 38 = .ok (.iload_n 2, 1) := by decide +kernel
theorem d_X7_weigh_39 : decode J_X7_weigh.2.1 39 = .ok (.iconst 3, 1) := by decide +kernel
theorem d_X7_weigh_40 : decode J_X7_weigh.2.1 40 = .ok (.if_icmp .ge 131, 3) := by decide +kernel
theorem d_X7_weigh_43 : decode J_X7_weigh.2.1 43 = .ok (.aload_n 0, 1) := by decide +kernel
theorem d_X7_weigh_44 : decode J_X7_weigh.2.1 44 = .ok (.getfield 34, 3) := by decide +kernel
theorem d_X7_weigh_47 : decode J_X7_weigh.2.1 47 = .ok (.iload_n 2, 1) := by decide +kernel
theorem d_X7_weigh_48 : decode J_X7_weigh.2.1 48 = .ok (.aload_n 0, 1) := by decide +kernel
theorem d_X7_weigh_49 : decode J_X7_weigh.2.1 49 = .ok (.getfield 41, 3) := by decide +kernel
theorem d_X7_weigh_52 : decode J_X7_weigh.2.1 52 = .ok (.getfield 131, 3) := by decide +kernel
theorem d_X7_weigh_55 : decode J_X7_weigh.2.1 55 = .ok (.iconst 3, 1) := by decide +kernel
theorem d_X7_weigh_56 : decode J_X7_weigh.2.1 56 = .ok (.iload_n 2, 1) := by decide +kernel
theorem d_X7_weigh_57 : decode J_X7_weigh.2.1 57 = .ok (.iadd, 1) := by decide +kernel
theorem d_X7_weigh_58 : decode J_X7_weigh.2.1 58 = .ok (.invokevirtual 135, 3) := by decide +kernel
theorem d_X7_weigh_61 : decode J_X7_weigh.2.1 61 = .ok (.iastore, 1) := by decide +kernel
theorem d_X7_weigh_62 : decode J_X7_weigh.2.1 62 = .ok (.aload_n 0, 1) := by decide +kernel
theorem d_X7_weigh_63 : decode J_X7_weigh.2.1 63 = .ok (.getfield 41, 3) := by decide +kernel
theorem d_X7_weigh_66 : decode J_X7_weigh.2.1 66 = .ok (.iload_n 2, 1) := by decide +kernel
theorem d_X7_weigh_67 : decode J_X7_weigh.2.1 67 = .ok (.iload_n 1, 1) := by decide +kernel
theorem d_X7_weigh_68 : decode J_X7_weigh.2.1 68 = .ok (.invokevirtual 140, 3) := by decide +kernel
theorem d_X7_weigh_71 : decode J_X7_weigh.2.1 71 = .ok (.istore_n 3, 1) := by decide +kernel
theorem d_X7_weigh_72 : decode J_X7_weigh.2.1 72 = .ok (.aload_n 0, 1) := by decide +kernel
theorem d_X7_weigh_73 : decode J_X7_weigh.2.1 73 = .ok (.getfield 41, 3) := by decide +kernel
theorem d_X7_weigh_76 : decode J_X7_weigh.2.1 76 = .ok (.iload_n 2, 1) := by decide +kernel
theorem d_X7_weigh_77 : decode J_X7_weigh.2.1 77 = .ok (.iload_n 1, 1) := by decide +kernel
theorem d_X7_weigh_78 : decode J_X7_weigh.2.1 78 = .ok (.iconst 1, 1) := by decide +kernel
theorem d_X7_weigh_79 : decode J_X7_weigh.2.1 79 = .ok (.iadd, 1) := by decide +kernel
theorem d_X7_weigh_80 : decode J_X7_weigh.2.1 80 = .ok (.iconst 2, 1) := by decide +kernel
theorem d_X7_weigh_81 : decode J_X7_weigh.2.1 81 = .ok (.idiv, 1) := by decide +kernel
theorem d_X7_weigh_82 : decode J_X7_weigh.2.1 82 = .ok (.invokevirtual 140, 3) := by decide +kernel
theorem d_X7_weigh_85 : decode J_X7_weigh.2.1 85 = .ok (.istore 4, 2) := by decide +kernel
theorem d_X7_weigh_87 : decode J_X7_weigh.2.1 87 = .ok (.iconst 0, 1) := by decide +kernel
theorem d_X7_weigh_88 : decode J_X7_weigh.2.1 88 = .ok (.istore 5, 2) := by decide +kernel
theorem d_X7_weigh_90 : decode J_X7_weigh.2.1 90 = .ok (.iload 5, 2) := by decide +kernel
theorem d_X7_weigh_92 : decode J_X7_weigh.2.1 92 = .ok (.aload_n 0, 1) := by decide +kernel
theorem d_X7_weigh_93 : decode J_X7_weigh.2.1 93 = .ok (.getfield 52, 3) := by decide +kernel
theorem d_X7_weigh_96 : decode J_X7_weigh.2.1 96 = .ok (.if_icmp .ge 69, 3) := by decide +kernel
theorem d_X7_weigh_99 : decode J_X7_weigh.2.1 99 = .ok (.aload_n 0, 1) := by decide +kernel
theorem d_X7_weigh_100 : decode J_X7_weigh.2.1 100 = .ok (.getfield 28, 3) := by decide +kernel
theorem d_X7_weigh_103 : decode J_X7_weigh.2.1 103 = .ok (.iload 5, 2) := by decide +kernel
theorem d_X7_weigh_105 : decode J_X7_weigh.2.1 105 = .ok (.iconst 3, 1) := by decide +kernel
theorem d_X7_weigh_106 : decode J_X7_weigh.2.1 106 = .ok (.imul, 1) := by decide +kernel
theorem d_X7_weigh_107 : decode J_X7_weigh.2.1 107 = .ok (.iload_n 2, 1) := by decide +kernel
theorem d_X7_weigh_108 : decode J_X7_weigh.2.1 108 = .ok (.iadd, 1) := by decide +kernel
theorem d_X7_weigh_109 : decode J_X7_weigh.2.1 109 = .ok (.aload_n 0, 1) := by decide +kernel
theorem d_X7_weigh_110 : decode J_X7_weigh.2.1 110 = .ok (.getfield 11, 3) := by decide +kernel
theorem d_X7_weigh_113 : decode J_X7_weigh.2.1 113 = .ok (.iload 5, 2) := by decide +kernel
theorem d_X7_weigh_115 : decode J_X7_weigh.2.1 115 = .ok (.iaload, 1) := by decide +kernel
theorem d_X7_weigh_116 : decode J_X7_weigh.2.1 116 = .ok (.iload_n 3, 1) := by decide +kernel
theorem d_X7_weigh_117 : decode J_X7_weigh.2.1 117 = .ok (.imul, 1) := by decide +kernel
theorem d_X7_weigh_118 : decode J_X7_weigh.2.1 118 = .ok (.aload_n 0, 1) := by decide +kernel
theorem d_X7_weigh_119 : decode J_X7_weigh.2.1 119 = .ok (.getfield 15, 3) := by decide +kernel
theorem d_X7_weigh_122 : decode J_X7_weigh.2.1 122 = .ok (.iload 5, 2) := by decide +kernel
theorem d_X7_weigh_124 : decode J_X7_weigh.2.1 124 = .ok (.iaload, 1) := by decide +kernel
theorem d_X7_weigh_125 : decode J_X7_weigh.2.1 125 = .ok (.iadd, 1) := by decide +kernel
theorem d_X7_weigh_126 : decode J_X7_weigh.2.1 126 = .ok (.iastore, 1) := by decide +kernel
theorem d_X7_weigh_127 : decode J_X7_weigh.2.1 127 = .ok (.aload_n 0, 1) := by decide +kernel
theorem d_X7_weigh_128 : decode J_X7_weigh.2.1 128 = .ok (.getfield 28, 3) := by decide +kernel
theorem d_X7_weigh_131 : decode J_X7_weigh.2.1 131 = .ok (.bipush 6, 2) := by decide +kernel
theorem d_X7_weigh_133 : decode J_X7_weigh.2.1 133 = .ok (.iload 5, 2) := by decide +kernel
theorem d_X7_weigh_135 : decode J_X7_weigh.2.1 135 = .ok (.iadd, 1) := by decide +kernel
theorem d_X7_weigh_136 : decode J_X7_weigh.2.1 136 = .ok (.iconst 3, 1) := by decide +kernel
theorem d_X7_weigh_137 : decode J_X7_weigh.2.1 137 = .ok (.imul, 1) := by decide +kernel
theorem d_X7_weigh_138 : decode J_X7_weigh.2.1 138 = .ok (.iload_n 2, 1) := by decide +kernel
theorem d_X7_weigh_139 : decode J_X7_weigh.2.1 139 = .ok (.iadd, 1) := by decide +kernel
theorem d_X7_weigh_140 : decode J_X7_weigh.2.1 140 = .ok (.aload_n 0, 1) := by decide +kernel
theorem d_X7_weigh_141 : decode J_X7_weigh.2.1 141 = .ok (.getfield 11, 3) := by decide +kernel
theorem d_X7_weigh_144 : decode J_X7_weigh.2.1 144 = .ok (.iload 5, 2) := by decide +kernel
theorem d_X7_weigh_146 : decode J_X7_weigh.2.1 146 = .ok (.iaload, 1) := by decide +kernel
theorem d_X7_weigh_147 : decode J_X7_weigh.2.1 147 = .ok (.iload 4, 2) := by decide +kernel
theorem d_X7_weigh_149 : decode J_X7_weigh.2.1 149 = .ok (.imul, 1) := by decide +kernel
theorem d_X7_weigh_150 : decode J_X7_weigh.2.1 150 = .ok (.aload_n 0, 1) := by decide +kernel
theorem d_X7_weigh_151 : decode J_X7_weigh.2.1 151 = .ok (.getfield 15, 3) := by decide +kernel
theorem d_X7_weigh_154 : decode J_X7_weigh.2.1 154 = .ok (.iload 5, 2) := by decide +kernel
theorem d_X7_weigh_156 : decode J_X7_weigh.2.1 156 = .ok (.iaload, 1) := by decide +kernel
theorem d_X7_weigh_157 : decode J_X7_weigh.2.1 157 = .ok (.iadd, 1) := by decide +kernel
theorem d_X7_weigh_158 : decode J_X7_weigh.2.1 158 = .ok (.iastore, 1) := by decide +kernel
theorem d_X7_weigh_159 : decode J_X7_weigh.2.1 159 = .ok (.iinc 5 1, 3) := by decide +kernel
theorem d_X7_weigh_162 : decode J_X7_weigh.2.1 162 = .ok (.goto (-72), 3) := by decide +kernel
theorem d_X7_weigh_165 : decode J_X7_weigh.2.1 165 = .ok (.iinc 2 1, 3) := by decide +kernel
theorem d_X7_weigh_168 : decode J_X7_weigh.2.1 168 = .ok (.goto (-130), 3) := by decide +kernel
theorem d_X7_weigh_171 : decode J_X7_weigh.2.1 171 = .ok (.return_, 1) := by decide +kernel
def f_X7_weigh_90 (N : Nat) (K : oK) (r38 : (Int32 → Int32 → oM → Option (Unit × oM))) : Nat → Int32 → Int32 → Int32 → Int32 → Int32 → oM → Option (Unit × oM)
  | 0, _, _, _, _, _, _ => none
  | n + 1, p1, p2, p3, p4, p5, M => (fun r90 => (if (M.1 28 11) ≤ p5 then (r38 p1 (p2 + 1) M) else oIx (p5) 6 (oIx (p5) 6 (oIx (((p5 * 3) + p2)) 36 (oIx (p5) 6 (oIx (p5) 6 (oIx (((((6 : Int32) + p5) * 3) + p2)) 36 ((r90 p1 p2 p3 p4 (p5 + 1) (oUp (oUp M 34 (((p5 * 3) + p2) : Int32).toNatClampNeg (((M.1 29 (p5 : Int32).toNatClampNeg) * p3) + (M.1 30 (p5 : Int32).toNatClampNeg))) 34 (((((6 : Int32) + p5) * 3) + p2) : Int32).toNatClampNeg ((((oUp M 34 (((p5 * 3) + p2) : Int32).toNatClampNeg (((M.1 29 (p5 : Int32).toNatClampNeg) * p3) + (M.1 30 (p5 : Int32).toNatClampNeg))).1 29 (p5 : Int32).toNatClampNeg) * p4) + ((oUp M 34 (((p5 * 3) + p2) : Int32).toNatClampNeg (((M.1 29 (p5 : Int32).toNatClampNeg) * p3) + (M.1 30 (p5 : Int32).toNatClampNeg))).1 30 (p5 : Int32).toNatClampNeg)))))))))))) (f_X7_weigh_90 N K r38 n)
set_option maxRecDepth 20000 in
theorem v_X7_weigh_90_L {X : oX} {d N : Nat} {K : oK} {r38 : (Int32 → Int32 → oM → Option (Unit × oM))} (hd : 3 ≤ d) (hK : oSR K) (hr38 : ∀ (p1 : Int32) (p2 : Int32) (M : oM) (v : Unit) (M' : oM) , r38 p1 p2 M = some (v, M') → oEv X d J_X7_weigh 38 [some (.ref 28), some (.int p1), some (.int p2), none, none, none] [] K M none K M') : ∀ (n : Nat) (p1 : Int32) (p2 : Int32) (p3 : Int32) (p4 : Int32) (p5 : Int32) (M : oM) (v : Unit) (M' : oM)  , f_X7_weigh_90 N K r38 n p1 p2 p3 p4 p5 M = some (v, M') → oEv X d J_X7_weigh 90 [some (.ref 28), some (.int p1), some (.int p2), some (.int p3), some (.int p4), some (.int p5)] [] K M none K M' := by
  intro n
  induction n with
  | zero =>
    intro p1 p2 p3 p4 p5 M v M'   h
    cases h
  | succ n hr90 =>
    intro p1 p2 p3 p4 p5 M v M'   h
    refine oe_iload (pc := 90) d_X7_weigh_90 rfl ?_
    refine oe_aload_n (pc := 92) d_X7_weigh_92 rfl ?_
    refine oe_getf (pc := 93) d_X7_weigh_93 fl_X7_52 ock7 (k := 11) (Nat.le_of_ble_eq_true rfl) rfl (oLt hK (a := 28) (Nat.le_of_ble_eq_true rfl)) (oSho hK (a := 28) (Nat.le_of_ble_eq_true rfl) rfl) ?_
    refine oe_icmp_ge (pc := 96) (tgt := 165) d_X7_weigh_96 (by decide) (fun c13 => ?_) (fun c13 => ?_)
    · replace h := (if_pos c13).symm.trans h
      refine oe_iinc (pc := 165) (v := (p2 + 1)) (L2 := [_, _, _, _, _, _]) d_X7_weigh_165 rfl rfl rfl (Nat.le_of_ble_eq_true rfl) rfl ?_
      refine oe_goto (pc := 168) (tgt := 38) d_X7_weigh_168 (by decide) ?_
      refine oEv.fg [true, true, true, false, false, false] ?_
      exact hr38 _ _ _ _ _ h
    · replace h := (if_neg c13).symm.trans h
      refine oe_aload_n (pc := 99) d_X7_weigh_99 rfl ?_
      refine oe_getr (pc := 100) d_X7_weigh_100 fl_X7_28 ock7 (k := 7) (b := 34) (Nat.le_of_ble_eq_true rfl) (by decide) (oLt hK (a := 28) (Nat.le_of_ble_eq_true rfl)) (oSho hK (a := 28) (Nat.le_of_ble_eq_true rfl) rfl) (oRfK hK rfl) ?_
      refine oe_iload (pc := 103) d_X7_weigh_103 rfl ?_
      refine oe_iconst (pc := 105) (v := 3) d_X7_weigh_105 rfl ?_
      refine oe_imul (pc := 106) d_X7_weigh_106 ?_
      refine oe_iload_n (pc := 107) d_X7_weigh_107 rfl ?_
      refine oe_iadd (pc := 108) d_X7_weigh_108 ?_
      refine oe_aload_n (pc := 109) d_X7_weigh_109 rfl ?_
      refine oe_getr (pc := 110) d_X7_weigh_110 fl_X7_11 ock7 (k := 2) (b := 29) (Nat.le_of_ble_eq_true rfl) (by decide) (oLt hK (a := 28) (Nat.le_of_ble_eq_true rfl)) (oSho hK (a := 28) (Nat.le_of_ble_eq_true rfl) rfl) (oRfK hK rfl) ?_
      refine oe_iload (pc := 113) d_X7_weigh_113 rfl ?_
      obtain ⟨i14, h⟩ := oIx_some h
      refine oe_iald (pc := 115) d_X7_weigh_115 (oLt hK (a := 29) (Nat.le_of_ble_eq_true rfl)) (oSha hK (a := 29) (Nat.le_of_ble_eq_true rfl) rfl) i14 ?_
      refine oe_iload_n (pc := 116) d_X7_weigh_116 rfl ?_
      refine oe_imul (pc := 117) d_X7_weigh_117 ?_
      refine oe_aload_n (pc := 118) d_X7_weigh_118 rfl ?_
      refine oe_getr (pc := 119) d_X7_weigh_119 fl_X7_15 ock7 (k := 3) (b := 30) (Nat.le_of_ble_eq_true rfl) (by decide) (oLt hK (a := 28) (Nat.le_of_ble_eq_true rfl)) (oSho hK (a := 28) (Nat.le_of_ble_eq_true rfl) rfl) (oRfK hK rfl) ?_
      refine oe_iload (pc := 122) d_X7_weigh_122 rfl ?_
      obtain ⟨i15, h⟩ := oIx_some h
      refine oe_iald (pc := 124) d_X7_weigh_124 (oLt hK (a := 30) (Nat.le_of_ble_eq_true rfl)) (oSha hK (a := 30) (Nat.le_of_ble_eq_true rfl) rfl) i15 ?_
      refine oe_iadd (pc := 125) d_X7_weigh_125 ?_
      obtain ⟨i16, h⟩ := oIx_some h
      refine oe_iast (pc := 126) d_X7_weigh_126 (oLt hK (a := 34) (Nat.le_of_ble_eq_true rfl)) (oSha hK (a := 34) (Nat.le_of_ble_eq_true rfl) rfl) i16 ?_
      refine oe_aload_n (pc := 127) d_X7_weigh_127 rfl ?_
      refine oe_getr (pc := 128) d_X7_weigh_128 fl_X7_28 ock7 (k := 7) (b := 34) (Nat.le_of_ble_eq_true rfl) (by decide) (oLt hK (a := 28) (Nat.le_of_ble_eq_true rfl)) (oSho hK (a := 28) (Nat.le_of_ble_eq_true rfl) rfl) (oRfK hK rfl) ?_
      refine oe_bipush (pc := 131) (v := 6) d_X7_weigh_131 rfl ?_
      refine oe_iload (pc := 133) d_X7_weigh_133 rfl ?_
      refine oe_iadd (pc := 135) d_X7_weigh_135 ?_
      refine oe_iconst (pc := 136) (v := 3) d_X7_weigh_136 rfl ?_
      refine oe_imul (pc := 137) d_X7_weigh_137 ?_
      refine oe_iload_n (pc := 138) d_X7_weigh_138 rfl ?_
      refine oe_iadd (pc := 139) d_X7_weigh_139 ?_
      refine oe_aload_n (pc := 140) d_X7_weigh_140 rfl ?_
      refine oe_getr (pc := 141) d_X7_weigh_141 fl_X7_11 ock7 (k := 2) (b := 29) (Nat.le_of_ble_eq_true rfl) (by decide) (oLt hK (a := 28) (Nat.le_of_ble_eq_true rfl)) (oSho hK (a := 28) (Nat.le_of_ble_eq_true rfl) rfl) (oRfK hK rfl) ?_
      refine oe_iload (pc := 144) d_X7_weigh_144 rfl ?_
      obtain ⟨i17, h⟩ := oIx_some h
      refine oe_iald (pc := 146) d_X7_weigh_146 (oLt hK (a := 29) (Nat.le_of_ble_eq_true rfl)) (oSha hK (a := 29) (Nat.le_of_ble_eq_true rfl) rfl) i17 ?_
      refine oe_iload (pc := 147) d_X7_weigh_147 rfl ?_
      refine oe_imul (pc := 149) d_X7_weigh_149 ?_
      refine oe_aload_n (pc := 150) d_X7_weigh_150 rfl ?_
      refine oe_getr (pc := 151) d_X7_weigh_151 fl_X7_15 ock7 (k := 3) (b := 30) (Nat.le_of_ble_eq_true rfl) (by decide) (oLt hK (a := 28) (Nat.le_of_ble_eq_true rfl)) (oSho hK (a := 28) (Nat.le_of_ble_eq_true rfl) rfl) (oRfK hK rfl) ?_
      refine oe_iload (pc := 154) d_X7_weigh_154 rfl ?_
      obtain ⟨i18, h⟩ := oIx_some h
      refine oe_iald (pc := 156) d_X7_weigh_156 (oLt hK (a := 30) (Nat.le_of_ble_eq_true rfl)) (oSha hK (a := 30) (Nat.le_of_ble_eq_true rfl) rfl) i18 ?_
      refine oe_iadd (pc := 157) d_X7_weigh_157 ?_
      obtain ⟨i19, h⟩ := oIx_some h
      refine oe_iast (pc := 158) d_X7_weigh_158 (oLt hK (a := 34) (Nat.le_of_ble_eq_true rfl)) (oSha hK (a := 34) (Nat.le_of_ble_eq_true rfl) rfl) i19 ?_
      refine oe_iinc (pc := 159) (v := (p5 + 1)) (L2 := [_, _, _, _, _, _]) d_X7_weigh_159 rfl rfl rfl (Nat.le_of_ble_eq_true rfl) rfl ?_
      refine oe_goto (pc := 162) (tgt := 90) d_X7_weigh_162 (by decide) ?_
      exact hr90 _ _ _ _ _ _ _ _ h
theorem v_X7_weigh_90 {X : oX} {d N : Nat} {K : oK} {r38 : (Int32 → Int32 → oM → Option (Unit × oM))} {p1 : Int32} {p2 : Int32} {p3 : Int32} {p4 : Int32} {p5 : Int32} {M : oM} {v : Unit} {M' : oM}  (hd : 3 ≤ d) (hK : oSR K)  (hr38 : ∀ (p1 : Int32) (p2 : Int32) (M : oM) (v : Unit) (M' : oM) , r38 p1 p2 M = some (v, M') → oEv X d J_X7_weigh 38 [some (.ref 28), some (.int p1), some (.int p2), none, none, none] [] K M none K M') (h : f_X7_weigh_90 N K r38 N p1 p2 p3 p4 p5 M = some (v, M')) : oEv X d J_X7_weigh 90 [some (.ref 28), some (.int p1), some (.int p2), some (.int p3), some (.int p4), some (.int p5)] [] K M none K M' := v_X7_weigh_90_L hd hK hr38 N p1 p2 p3 p4 p5 M v M'   h
def f_X7_weigh_38 (N : Nat) (K : oK)  : Nat → Int32 → Int32 → oM → Option (Unit × oM)
  | 0, _, _, _ => none
  | n + 1, p1, p2, M => (fun r38 => (if 3 ≤ p2 then some ((), M) else oB2 (f_X8_at N K ((3 : Int32) + p2) M) (fun v3 M4 => oIx (p2) 3 (oB2 (f_X3_lost N K p2 p1 (oUp M4 36 (p2 : Int32).toNatClampNeg v3)) (fun v7 M8 => oB2 (f_X3_lost N K p2 ((p1 + 1) / 2) M8) (fun v10 M11 => (f_X7_weigh_90 N K r38 N p1 p2 v7 v10 0 M11))))))) (f_X7_weigh_38 N K  n)
set_option maxRecDepth 20000 in
theorem v_X7_weigh_38_L {X : oX} {d N : Nat} {K : oK}  (hd : 3 ≤ d) (hK : oSR K)  : ∀ (n : Nat) (p1 : Int32) (p2 : Int32) (M : oM) (v : Unit) (M' : oM)  , f_X7_weigh_38 N K  n p1 p2 M = some (v, M') → oEv X d J_X7_weigh 38 [some (.ref 28), some (.int p1), some (.int p2), none, none, none] [] K M none K M' := by
  intro n
  induction n with
  | zero =>
    intro p1 p2 M v M'   h
    cases h
  | succ n hr38 =>
    intro p1 p2 M v M'   h
    refine oe_iload_n (pc := 38) d_X7_weigh_38 rfl ?_
    refine oe_iconst (pc := 39) (v := 3) d_X7_weigh_39 rfl ?_
    refine oe_icmp_ge (pc := 40) (tgt := 171) d_X7_weigh_40 (by decide) (fun c2 => ?_) (fun c2 => ?_)
    · replace h := (if_pos c2).symm.trans h
      obtain ⟨rfl, rfl⟩ := oRes h
      exact oe_vret (pc := 171) d_X7_weigh_171 rfl
    · replace h := (if_neg c2).symm.trans h
      refine oe_aload_n (pc := 43) d_X7_weigh_43 rfl ?_
      refine oe_getr (pc := 44) d_X7_weigh_44 fl_X7_34 ock7 (k := 9) (b := 36) (Nat.le_of_ble_eq_true rfl) (by decide) (oLt hK (a := 28) (Nat.le_of_ble_eq_true rfl)) (oSho hK (a := 28) (Nat.le_of_ble_eq_true rfl) rfl) (oRfK hK rfl) ?_
      refine oe_iload_n (pc := 47) d_X7_weigh_47 rfl ?_
      refine oe_aload_n (pc := 48) d_X7_weigh_48 rfl ?_
      refine oe_getr (pc := 49) d_X7_weigh_49 fl_X7_41 ock7 (k := 1) (b := 11) (Nat.le_of_ble_eq_true rfl) (by decide) (oLt hK (a := 28) (Nat.le_of_ble_eq_true rfl)) (oSho hK (a := 28) (Nat.le_of_ble_eq_true rfl) rfl) (oRfK hK rfl) ?_
      refine oe_getr (pc := 52) d_X7_weigh_52 fl_X7_131 ock3 (k := 0) (b := 1) (Nat.le_of_ble_eq_true rfl) (by decide) (oLt hK (a := 11) (Nat.le_of_ble_eq_true rfl)) (oSho hK (a := 11) (Nat.le_of_ble_eq_true rfl) rfl) (oRfK hK rfl) ?_
      refine oe_iconst (pc := 55) (v := 3) d_X7_weigh_55 rfl ?_
      refine oe_iload_n (pc := 56) d_X7_weigh_56 rfl ?_
      refine oe_iadd (pc := 57) d_X7_weigh_57 ?_
      obtain ⟨v3, M4, q5, h⟩ := oB2_some h
      refine oe_callV (pc := 58) (ci := 8) d_X7_weigh_58 (v_X8_at hK  q5) (by omega) ml_X7_135 jJ_X8_at rfl rfl (oLt hK (a := 1) (Nat.le_of_ble_eq_true rfl)) (oSho hK (a := 1) (Nat.le_of_ble_eq_true rfl) rfl) ock8 rfl (Nat.le_of_ble_eq_true rfl) ⟨Nat.le_refl _, Nat.le_refl _⟩ ⟨Nat.le_refl _, Nat.le_refl _⟩ ?_
      obtain ⟨i6, h⟩ := oIx_some h
      refine oe_iast (pc := 61) d_X7_weigh_61 (oLt hK (a := 36) (Nat.le_of_ble_eq_true rfl)) (oSha hK (a := 36) (Nat.le_of_ble_eq_true rfl) rfl) i6 ?_
      refine oe_aload_n (pc := 62) d_X7_weigh_62 rfl ?_
      refine oe_getr (pc := 63) d_X7_weigh_63 fl_X7_41 ock7 (k := 1) (b := 11) (Nat.le_of_ble_eq_true rfl) (by decide) (oLt hK (a := 28) (Nat.le_of_ble_eq_true rfl)) (oSho hK (a := 28) (Nat.le_of_ble_eq_true rfl) rfl) (oRfK hK rfl) ?_
      refine oe_iload_n (pc := 66) d_X7_weigh_66 rfl ?_
      refine oe_iload_n (pc := 67) d_X7_weigh_67 rfl ?_
      obtain ⟨v7, M8, q9, h⟩ := oB2_some h
      refine oe_callV (pc := 68) (ci := 3) d_X7_weigh_68 (v_X3_lost hK  q9) (by omega) ml_X7_140 jJ_X3_lost rfl rfl (oLt hK (a := 11) (Nat.le_of_ble_eq_true rfl)) (oSho hK (a := 11) (Nat.le_of_ble_eq_true rfl) rfl) ock3 rfl (Nat.le_of_ble_eq_true rfl) ⟨Nat.le_refl _, Nat.le_refl _⟩ ⟨Nat.le_refl _, Nat.le_refl _⟩ ?_
      refine oe_istore_n (pc := 71) (L2 := [_, _, _, _, _, _]) d_X7_weigh_71 rfl rfl (Nat.le_of_ble_eq_true rfl) rfl ?_
      refine oe_aload_n (pc := 72) d_X7_weigh_72 rfl ?_
      refine oe_getr (pc := 73) d_X7_weigh_73 fl_X7_41 ock7 (k := 1) (b := 11) (Nat.le_of_ble_eq_true rfl) (by decide) (oLt hK (a := 28) (Nat.le_of_ble_eq_true rfl)) (oSho hK (a := 28) (Nat.le_of_ble_eq_true rfl) rfl) (oRfK hK rfl) ?_
      refine oe_iload_n (pc := 76) d_X7_weigh_76 rfl ?_
      refine oe_iload_n (pc := 77) d_X7_weigh_77 rfl ?_
      refine oe_iconst (pc := 78) (v := 1) d_X7_weigh_78 rfl ?_
      refine oe_iadd (pc := 79) d_X7_weigh_79 ?_
      refine oe_iconst (pc := 80) (v := 2) d_X7_weigh_80 rfl ?_
      refine oe_idiv (pc := 81) d_X7_weigh_81 (by decide) ?_
      obtain ⟨v10, M11, q12, h⟩ := oB2_some h
      refine oe_callV (pc := 82) (ci := 3) d_X7_weigh_82 (v_X3_lost hK  q12) (by omega) ml_X7_140 jJ_X3_lost rfl rfl (oLt hK (a := 11) (Nat.le_of_ble_eq_true rfl)) (oSho hK (a := 11) (Nat.le_of_ble_eq_true rfl) rfl) ock3 rfl (Nat.le_of_ble_eq_true rfl) ⟨Nat.le_refl _, Nat.le_refl _⟩ ⟨Nat.le_refl _, Nat.le_refl _⟩ ?_
      refine oe_istore (pc := 85) (L2 := [_, _, _, _, _, _]) d_X7_weigh_85 rfl (Nat.le_of_ble_eq_true rfl) rfl ?_
      refine oe_iconst (pc := 87) (v := 0) d_X7_weigh_87 rfl ?_
      refine oe_istore (pc := 88) (L2 := [_, _, _, _, _, _]) d_X7_weigh_88 rfl (Nat.le_of_ble_eq_true rfl) rfl ?_
      exact v_X7_weigh_90 hd hK  hr38 h
theorem v_X7_weigh_38 {X : oX} {d N : Nat} {K : oK}  {p1 : Int32} {p2 : Int32} {M : oM} {v : Unit} {M' : oM}  (hd : 3 ≤ d) (hK : oSR K)   (h : f_X7_weigh_38 N K  N p1 p2 M = some (v, M')) : oEv X d J_X7_weigh 38 [some (.ref 28), some (.int p1), some (.int p2), none, none, none] [] K M none K M' := v_X7_weigh_38_L hd hK  N p1 p2 M v M'   h
def f_X7_weigh_2 (N : Nat) (K : oK)  : Nat → Int32 → Int32 → oM → Option (Unit × oM)
  | 0, _, _, _ => none
  | n + 1, p1, p2, M => (fun r2 => (if (M.1 28 12) ≤ p2 then (f_X7_weigh_38 N K  N p1 0 M) else oIx (p2) 4 (oB2 (f_X3_lifted N K (M.1 32 (p2 : Int32).toNatClampNeg) p1 M) (fun v21 M22 => oIx (p2) 4 ((r2 p1 (p2 + 1) (oUp M22 33 (p2 : Int32).toNatClampNeg v21))))))) (f_X7_weigh_2 N K  n)
set_option maxRecDepth 20000 in
theorem v_X7_weigh_2_L {X : oX} {d N : Nat} {K : oK}  (hd : 3 ≤ d) (hK : oSR K)  : ∀ (n : Nat) (p1 : Int32) (p2 : Int32) (M : oM) (v : Unit) (M' : oM)  , f_X7_weigh_2 N K  n p1 p2 M = some (v, M') → oEv X d J_X7_weigh 2 [some (.ref 28), some (.int p1), some (.int p2), none, none, none] [] K M none K M' := by
  intro n
  induction n with
  | zero =>
    intro p1 p2 M v M'   h
    cases h
  | succ n hr2 =>
    intro p1 p2 M v M'   h
    refine oe_iload_n (pc := 2) d_X7_weigh_2 rfl ?_
    refine oe_aload_n (pc := 3) d_X7_weigh_3 rfl ?_
    refine oe_getf (pc := 4) d_X7_weigh_4 fl_X7_55 ock7 (k := 12) (Nat.le_of_ble_eq_true rfl) rfl (oLt hK (a := 28) (Nat.le_of_ble_eq_true rfl)) (oSho hK (a := 28) (Nat.le_of_ble_eq_true rfl) rfl) ?_
    refine oe_icmp_ge (pc := 7) (tgt := 36) d_X7_weigh_7 (by decide) (fun c1 => ?_) (fun c1 => ?_)
    · replace h := (if_pos c1).symm.trans h
      refine oe_iconst (pc := 36) (v := 0) d_X7_weigh_36 rfl ?_
      refine oe_istore_n (pc := 37) (L2 := [_, _, _, _, _, _]) d_X7_weigh_37 rfl rfl (Nat.le_of_ble_eq_true rfl) rfl ?_
      exact v_X7_weigh_38 hd hK   h
    · replace h := (if_neg c1).symm.trans h
      refine oe_aload_n (pc := 10) d_X7_weigh_10 rfl ?_
      refine oe_getr (pc := 11) d_X7_weigh_11 fl_X7_25 ock7 (k := 6) (b := 33) (Nat.le_of_ble_eq_true rfl) (by decide) (oLt hK (a := 28) (Nat.le_of_ble_eq_true rfl)) (oSho hK (a := 28) (Nat.le_of_ble_eq_true rfl) rfl) (oRfK hK rfl) ?_
      refine oe_iload_n (pc := 14) d_X7_weigh_14 rfl ?_
      refine oe_aload_n (pc := 15) d_X7_weigh_15 rfl ?_
      refine oe_getr (pc := 16) d_X7_weigh_16 fl_X7_41 ock7 (k := 1) (b := 11) (Nat.le_of_ble_eq_true rfl) (by decide) (oLt hK (a := 28) (Nat.le_of_ble_eq_true rfl)) (oSho hK (a := 28) (Nat.le_of_ble_eq_true rfl) rfl) (oRfK hK rfl) ?_
      refine oe_aload_n (pc := 19) d_X7_weigh_19 rfl ?_
      refine oe_getr (pc := 20) d_X7_weigh_20 fl_X7_22 ock7 (k := 5) (b := 32) (Nat.le_of_ble_eq_true rfl) (by decide) (oLt hK (a := 28) (Nat.le_of_ble_eq_true rfl)) (oSho hK (a := 28) (Nat.le_of_ble_eq_true rfl) rfl) (oRfK hK rfl) ?_
      refine oe_iload_n (pc := 23) d_X7_weigh_23 rfl ?_
      obtain ⟨i20, h⟩ := oIx_some h
      refine oe_iald (pc := 24) d_X7_weigh_24 (oLt hK (a := 32) (Nat.le_of_ble_eq_true rfl)) (oSha hK (a := 32) (Nat.le_of_ble_eq_true rfl) rfl) i20 ?_
      refine oe_iload_n (pc := 25) d_X7_weigh_25 rfl ?_
      obtain ⟨v21, M22, q23, h⟩ := oB2_some h
      refine oe_callV (pc := 26) (ci := 3) d_X7_weigh_26 (v_X3_lifted hK  q23) (by omega) ml_X7_126 jJ_X3_lifted rfl rfl (oLt hK (a := 11) (Nat.le_of_ble_eq_true rfl)) (oSho hK (a := 11) (Nat.le_of_ble_eq_true rfl) rfl) ock3 rfl (Nat.le_of_ble_eq_true rfl) ⟨Nat.le_refl _, Nat.le_refl _⟩ ⟨Nat.le_refl _, Nat.le_refl _⟩ ?_
      obtain ⟨i24, h⟩ := oIx_some h
      refine oe_iast (pc := 29) d_X7_weigh_29 (oLt hK (a := 33) (Nat.le_of_ble_eq_true rfl)) (oSha hK (a := 33) (Nat.le_of_ble_eq_true rfl) rfl) i24 ?_
      refine oe_iinc (pc := 30) (v := (p2 + 1)) (L2 := [_, _, _, _, _, _]) d_X7_weigh_30 rfl rfl rfl (Nat.le_of_ble_eq_true rfl) rfl ?_
      refine oe_goto (pc := 33) (tgt := 2) d_X7_weigh_33 (by decide) ?_
      exact hr2 _ _ _ _ _ h
theorem v_X7_weigh_2 {X : oX} {d N : Nat} {K : oK}  {p1 : Int32} {p2 : Int32} {M : oM} {v : Unit} {M' : oM}  (hd : 3 ≤ d) (hK : oSR K)   (h : f_X7_weigh_2 N K  N p1 p2 M = some (v, M')) : oEv X d J_X7_weigh 2 [some (.ref 28), some (.int p1), some (.int p2), none, none, none] [] K M none K M' := v_X7_weigh_2_L hd hK  N p1 p2 M v M'   h
def f_X7_weigh (N : Nat) (K : oK) (p1 : Int32) (M : oM) : Option (Unit × oM) :=
  (f_X7_weigh_2 N K  N p1 0 M)
set_option maxRecDepth 20000 in
theorem v_X7_weigh {X : oX} {N : Nat} {K : oK} {p1 : Int32} {M : oM} {v : Unit} {M' : oM} (hK : oSR K)  (h : f_X7_weigh N K p1 M = some (v, M')) : oMet X 3 J_X7_weigh [(.ref 28), (.int p1)] K M none K M' := by
  unfold f_X7_weigh at h
  refine oMet_of (L := [some (.ref 28), some (.int p1), none, none, none, none]) jJ_X7_weigh.1 rfl (Nat.le_of_ble_eq_true rfl) rfl (Nat.le_refl _) (Nat.le_refl _) ?_
  have hd : 3 ≤ 3 := Nat.le_refl _
  refine oe_iconst (pc := 0) (v := 0) d_X7_weigh_0 rfl ?_
  refine oe_istore_n (pc := 1) (L2 := [_, _, _, _, _, _]) d_X7_weigh_1 rfl rfl (Nat.le_of_ble_eq_true rfl) rfl ?_
  exact v_X7_weigh_2 hd hK   h
theorem d_J6_bitCount_0f7a4_0 : decode J_J6_bitCount_0f7a4.2.1 0 = .ok (.iload_n 0, 1) := by decide +kernel
theorem d_J6_bitCount_0f7a4_1 : decode J_J6_bitCount_0f7a4.2.1 1 = .ok (.iload_n 0, 1) := by decide +kernel
theorem d_J6_bitCount_0f7a4_2 : decode J_J6_bitCount_0f7a4.2.1 2 = .ok (.iconst 1, 1) := by decide +kernel
theorem d_J6_bitCount_0f7a4_3 : decode J_J6_bitCount_0f7a4.2.1 3 = .ok (.iushr, 1) := by decide +kernel
theorem d_J6_bitCount_0f7a4_4 : decode J_J6_bitCount_0f7a4.2.1 4 = .ok (.ldc_w 265, 3) := by decide +kernel
theorem d_J6_bitCount_0f7a4_7 : decode J_J6_bitCount_0f7a4.2.1 7 = .ok (.iand, 1) := by decide +kernel
theorem d_J6_bitCount_0f7a4_8 : decode J_J6_bitCount_0f7a4.2.1 8 = .ok (.isub, 1) := by decide +kernel
theorem d_J6_bitCount_0f7a4_9 : decode J_J6_bitCount_0f7a4.2.1 9 = .ok (.istore_n 0, 1) := by decide +kernel
theorem d_J6_bitCount_0f7a4_10 : decode J_J6_bitCount_0f7a4.2.1 10 = .ok (.iload_n 0, 1) := by decide +kernel
theorem d_J6_bitCount_0f7a4_11 : decode J_J6_bitCount_0f7a4.2.1 11 = .ok (.ldc_w 266, 3) := by decide +kernel
theorem d_J6_bitCount_0f7a4_14 : decode J_J6_bitCount_0f7a4.2.1 14 = .ok (.iand, 1) := by decide +kernel
theorem d_J6_bitCount_0f7a4_15 : decode J_J6_bitCount_0f7a4.2.1 15 = .ok (.iload_n 0, 1) := by decide +kernel
theorem d_J6_bitCount_0f7a4_16 : decode J_J6_bitCount_0f7a4.2.1 16 = .ok (.iconst 2, 1) := by decide +kernel
theorem d_J6_bitCount_0f7a4_17 : decode J_J6_bitCount_0f7a4.2.1 17 = .ok (.iushr, 1) := by decide +kernel
theorem d_J6_bitCount_0f7a4_18 : decode J_J6_bitCount_0f7a4.2.1 18 = .ok (.ldc_w 266, 3) := by decide +kernel
theorem d_J6_bitCount_0f7a4_21 : decode J_J6_bitCount_0f7a4.2.1 21 = .ok (.iand, 1) := by decide +kernel
theorem d_J6_bitCount_0f7a4_22 : decode J_J6_bitCount_0f7a4.2.1 22 = .ok (.iadd, 1) := by decide +kernel
theorem d_J6_bitCount_0f7a4_23 : decode J_J6_bitCount_0f7a4.2.1 23 = .ok (.istore_n 0, 1) := by decide +kernel
theorem d_J6_bitCount_0f7a4_24 : decode J_J6_bitCount_0f7a4.2.1 24 = .ok (.iload_n 0, 1) := by decide +kernel
theorem d_J6_bitCount_0f7a4_25 : decode J_J6_bitCount_0f7a4.2.1 25 = .ok (.iload_n 0, 1) := by decide +kernel
theorem d_J6_bitCount_0f7a4_26 : decode J_J6_bitCount_0f7a4.2.1 26 = .ok (.iconst 4, 1) := by decide +kernel
theorem d_J6_bitCount_0f7a4_27 : decode J_J6_bitCount_0f7a4.2.1 27 = .ok (.iushr, 1) := by decide +kernel
theorem d_J6_bitCount_0f7a4_28 : decode J_J6_bitCount_0f7a4.2.1 28 = .ok (.iadd, 1) := by decide +kernel
theorem d_J6_bitCount_0f7a4_29 : decode J_J6_bitCount_0f7a4.2.1 29 = .ok (.ldc_w 267, 3) := by decide +kernel
theorem d_J6_bitCount_0f7a4_32 : decode J_J6_bitCount_0f7a4.2.1 32 = .ok (.iand, 1) := by decide +kernel
theorem d_J6_bitCount_0f7a4_33 : decode J_J6_bitCount_0f7a4.2.1 33 = .ok (.istore_n 0, 1) := by decide +kernel
theorem d_J6_bitCount_0f7a4_34 : decode J_J6_bitCount_0f7a4.2.1 34 = .ok (.iload_n 0, 1) := by decide +kernel
theorem d_J6_bitCount_0f7a4_35 : decode J_J6_bitCount_0f7a4.2.1 35 = .ok (.iload_n 0, 1) := by decide +kernel
theorem d_J6_bitCount_0f7a4_36 : decode J_J6_bitCount_0f7a4.2.1 36 = .ok (.bipush 8, 2) := by decide +kernel
theorem d_J6_bitCount_0f7a4_38 : decode J_J6_bitCount_0f7a4.2.1 38 = .ok (.iushr, 1) := by decide +kernel
theorem d_J6_bitCount_0f7a4_39 : decode J_J6_bitCount_0f7a4.2.1 39 = .ok (.iadd, 1) := by decide +kernel
theorem d_J6_bitCount_0f7a4_40 : decode J_J6_bitCount_0f7a4.2.1 40 = .ok (.istore_n 0, 1) := by decide +kernel
theorem d_J6_bitCount_0f7a4_41 : decode J_J6_bitCount_0f7a4.2.1 41 = .ok (.iload_n 0, 1) := by decide +kernel
theorem d_J6_bitCount_0f7a4_42 : decode J_J6_bitCount_0f7a4.2.1 42 = .ok (.iload_n 0, 1) := by decide +kernel
theorem d_J6_bitCount_0f7a4_43 : decode J_J6_bitCount_0f7a4.2.1 43 = .ok (.bipush 16, 2) := by decide +kernel
theorem d_J6_bitCount_0f7a4_45 : decode J_J6_bitCount_0f7a4.2.1 45 = .ok (.iushr, 1) := by decide +kernel
theorem d_J6_bitCount_0f7a4_46 : decode J_J6_bitCount_0f7a4.2.1 46 = .ok (.iadd, 1) := by decide +kernel
theorem d_J6_bitCount_0f7a4_47 : decode J_J6_bitCount_0f7a4.2.1 47 = .ok (.istore_n 0, 1) := by decide +kernel
theorem d_J6_bitCount_0f7a4_48 : decode J_J6_bitCount_0f7a4.2.1 48 = .ok (.iload_n 0, 1) := by decide +kernel
theorem d_J6_bitCount_0f7a4_49 : decode J_J6_bitCount_0f7a4.2.1 49 = .ok (.bipush 63, 2) := by decide +kernel
theorem d_J6_bitCount_0f7a4_51 : decode J_J6_bitCount_0f7a4.2.1 51 = .ok (.iand, 1) := by decide +kernel
theorem d_J6_bitCount_0f7a4_52 : decode J_J6_bitCount_0f7a4.2.1 52 = .ok (.ireturn, 1) := by decide +kernel
def f_J6_bitCount_0f7a4 (N : Nat) (K : oK) (p0 : Int32) (M : oM) : Option (Int32 × oM) :=
  some (((((((((p0 - (((p0).toUInt32 >>> ((1).toUInt32 &&& Int32.toUInt32 31)).toInt32 &&& 1431655765)) &&& 858993459) + ((((p0 - (((p0).toUInt32 >>> ((1).toUInt32 &&& Int32.toUInt32 31)).toInt32 &&& 1431655765))).toUInt32 >>> ((2).toUInt32 &&& Int32.toUInt32 31)).toInt32 &&& 858993459)) + (((((p0 - (((p0).toUInt32 >>> ((1).toUInt32 &&& Int32.toUInt32 31)).toInt32 &&& 1431655765)) &&& 858993459) + ((((p0 - (((p0).toUInt32 >>> ((1).toUInt32 &&& Int32.toUInt32 31)).toInt32 &&& 1431655765))).toUInt32 >>> ((2).toUInt32 &&& Int32.toUInt32 31)).toInt32 &&& 858993459))).toUInt32 >>> ((4).toUInt32 &&& Int32.toUInt32 31)).toInt32) &&& 252645135) + (((((((p0 - (((p0).toUInt32 >>> ((1).toUInt32 &&& Int32.toUInt32 31)).toInt32 &&& 1431655765)) &&& 858993459) + ((((p0 - (((p0).toUInt32 >>> ((1).toUInt32 &&& Int32.toUInt32 31)).toInt32 &&& 1431655765))).toUInt32 >>> ((2).toUInt32 &&& Int32.toUInt32 31)).toInt32 &&& 858993459)) + (((((p0 - (((p0).toUInt32 >>> ((1).toUInt32 &&& Int32.toUInt32 31)).toInt32 &&& 1431655765)) &&& 858993459) + ((((p0 - (((p0).toUInt32 >>> ((1).toUInt32 &&& Int32.toUInt32 31)).toInt32 &&& 1431655765))).toUInt32 >>> ((2).toUInt32 &&& Int32.toUInt32 31)).toInt32 &&& 858993459))).toUInt32 >>> ((4).toUInt32 &&& Int32.toUInt32 31)).toInt32) &&& 252645135)).toUInt32 >>> ((8).toUInt32 &&& Int32.toUInt32 31)).toInt32) + ((((((((p0 - (((p0).toUInt32 >>> ((1).toUInt32 &&& Int32.toUInt32 31)).toInt32 &&& 1431655765)) &&& 858993459) + ((((p0 - (((p0).toUInt32 >>> ((1).toUInt32 &&& Int32.toUInt32 31)).toInt32 &&& 1431655765))).toUInt32 >>> ((2).toUInt32 &&& Int32.toUInt32 31)).toInt32 &&& 858993459)) + (((((p0 - (((p0).toUInt32 >>> ((1).toUInt32 &&& Int32.toUInt32 31)).toInt32 &&& 1431655765)) &&& 858993459) + ((((p0 - (((p0).toUInt32 >>> ((1).toUInt32 &&& Int32.toUInt32 31)).toInt32 &&& 1431655765))).toUInt32 >>> ((2).toUInt32 &&& Int32.toUInt32 31)).toInt32 &&& 858993459))).toUInt32 >>> ((4).toUInt32 &&& Int32.toUInt32 31)).toInt32) &&& 252645135) + (((((((p0 - (((p0).toUInt32 >>> ((1).toUInt32 &&& Int32.toUInt32 31)).toInt32 &&& 1431655765)) &&& 858993459) + ((((p0 - (((p0).toUInt32 >>> ((1).toUInt32 &&& Int32.toUInt32 31)).toInt32 &&& 1431655765))).toUInt32 >>> ((2).toUInt32 &&& Int32.toUInt32 31)).toInt32 &&& 858993459)) + (((((p0 - (((p0).toUInt32 >>> ((1).toUInt32 &&& Int32.toUInt32 31)).toInt32 &&& 1431655765)) &&& 858993459) + ((((p0 - (((p0).toUInt32 >>> ((1).toUInt32 &&& Int32.toUInt32 31)).toInt32 &&& 1431655765))).toUInt32 >>> ((2).toUInt32 &&& Int32.toUInt32 31)).toInt32 &&& 858993459))).toUInt32 >>> ((4).toUInt32 &&& Int32.toUInt32 31)).toInt32) &&& 252645135)).toUInt32 >>> ((8).toUInt32 &&& Int32.toUInt32 31)).toInt32)).toUInt32 >>> ((16).toUInt32 &&& Int32.toUInt32 31)).toInt32) &&& 63), M)
set_option maxRecDepth 20000 in
theorem v_J6_bitCount_0f7a4 {X : oX} {N : Nat} {K : oK} {p0 : Int32} {M : oM} {v : Int32} {M' : oM} (hK : oSR K)  (h : f_J6_bitCount_0f7a4 N K p0 M = some (v, M')) : oMet X 1 J_J6_bitCount_0f7a4 [(.int p0)] K M (some (.int v)) K M' := by
  unfold f_J6_bitCount_0f7a4 at h
  refine oMet_of (L := [some (.int p0)]) jJ_J6_bitCount_0f7a4.1 rfl (Nat.le_of_ble_eq_true rfl) rfl (Nat.le_refl _) (Nat.le_refl _) ?_
  have hd : 1 ≤ 1 := Nat.le_refl _
  refine oe_iload_n (pc := 0) d_J6_bitCount_0f7a4_0 rfl ?_
  refine oe_iload_n (pc := 1) d_J6_bitCount_0f7a4_1 rfl ?_
  refine oe_iconst (pc := 2) (v := 1) d_J6_bitCount_0f7a4_2 rfl ?_
  refine oe_iushr (pc := 3) d_J6_bitCount_0f7a4_3 ?_
  refine oe_ldcw (pc := 4) d_J6_bitCount_0f7a4_4 co_Integer_265 ?_
  refine oe_iand (pc := 7) d_J6_bitCount_0f7a4_7 ?_
  refine oe_isub (pc := 8) d_J6_bitCount_0f7a4_8 ?_
  refine oe_istore_n (pc := 9) (L2 := [_]) d_J6_bitCount_0f7a4_9 rfl rfl (Nat.le_of_ble_eq_true rfl) rfl ?_
  refine oe_iload_n (pc := 10) d_J6_bitCount_0f7a4_10 rfl ?_
  refine oe_ldcw (pc := 11) d_J6_bitCount_0f7a4_11 co_Integer_266 ?_
  refine oe_iand (pc := 14) d_J6_bitCount_0f7a4_14 ?_
  refine oe_iload_n (pc := 15) d_J6_bitCount_0f7a4_15 rfl ?_
  refine oe_iconst (pc := 16) (v := 2) d_J6_bitCount_0f7a4_16 rfl ?_
  refine oe_iushr (pc := 17) d_J6_bitCount_0f7a4_17 ?_
  refine oe_ldcw (pc := 18) d_J6_bitCount_0f7a4_18 co_Integer_266 ?_
  refine oe_iand (pc := 21) d_J6_bitCount_0f7a4_21 ?_
  refine oe_iadd (pc := 22) d_J6_bitCount_0f7a4_22 ?_
  refine oe_istore_n (pc := 23) (L2 := [_]) d_J6_bitCount_0f7a4_23 rfl rfl (Nat.le_of_ble_eq_true rfl) rfl ?_
  refine oe_iload_n (pc := 24) d_J6_bitCount_0f7a4_24 rfl ?_
  refine oe_iload_n (pc := 25) d_J6_bitCount_0f7a4_25 rfl ?_
  refine oe_iconst (pc := 26) (v := 4) d_J6_bitCount_0f7a4_26 rfl ?_
  refine oe_iushr (pc := 27) d_J6_bitCount_0f7a4_27 ?_
  refine oe_iadd (pc := 28) d_J6_bitCount_0f7a4_28 ?_
  refine oe_ldcw (pc := 29) d_J6_bitCount_0f7a4_29 co_Integer_267 ?_
  refine oe_iand (pc := 32) d_J6_bitCount_0f7a4_32 ?_
  refine oe_istore_n (pc := 33) (L2 := [_]) d_J6_bitCount_0f7a4_33 rfl rfl (Nat.le_of_ble_eq_true rfl) rfl ?_
  refine oe_iload_n (pc := 34) d_J6_bitCount_0f7a4_34 rfl ?_
  refine oe_iload_n (pc := 35) d_J6_bitCount_0f7a4_35 rfl ?_
  refine oe_bipush (pc := 36) (v := 8) d_J6_bitCount_0f7a4_36 rfl ?_
  refine oe_iushr (pc := 38) d_J6_bitCount_0f7a4_38 ?_
  refine oe_iadd (pc := 39) d_J6_bitCount_0f7a4_39 ?_
  refine oe_istore_n (pc := 40) (L2 := [_]) d_J6_bitCount_0f7a4_40 rfl rfl (Nat.le_of_ble_eq_true rfl) rfl ?_
  refine oe_iload_n (pc := 41) d_J6_bitCount_0f7a4_41 rfl ?_
  refine oe_iload_n (pc := 42) d_J6_bitCount_0f7a4_42 rfl ?_
  refine oe_bipush (pc := 43) (v := 16) d_J6_bitCount_0f7a4_43 rfl ?_
  refine oe_iushr (pc := 45) d_J6_bitCount_0f7a4_45 ?_
  refine oe_iadd (pc := 46) d_J6_bitCount_0f7a4_46 ?_
  refine oe_istore_n (pc := 47) (L2 := [_]) d_J6_bitCount_0f7a4_47 rfl rfl (Nat.le_of_ble_eq_true rfl) rfl ?_
  refine oe_iload_n (pc := 48) d_J6_bitCount_0f7a4_48 rfl ?_
  refine oe_bipush (pc := 49) (v := 63) d_J6_bitCount_0f7a4_49 rfl ?_
  refine oe_iand (pc := 51) d_J6_bitCount_0f7a4_51 ?_
  obtain ⟨rfl, rfl⟩ := oRes h
  exact oe_iret (pc := 52) d_J6_bitCount_0f7a4_52 ⟨_, rfl, rfl⟩
theorem d_X7_mayStand_0 : decode J_X7_mayStand.2.1 0 = .ok (.aload_n 0, 1) := by decide +kernel
theorem d_X7_mayStand_1 : decode J_X7_mayStand.2.1 1 = .ok (.getfield 55, 3) := by decide +kernel
theorem d_X7_mayStand_4 : decode J_X7_mayStand.2.1 4 = .ok (.ifCond .ne 15, 3) := by decide +kernel
theorem d_X7_mayStand_7 : decode J_X7_mayStand.2.1 7 = .ok (.iload_n 1, 1) := by decide +kernel
theorem d_X7_mayStand_8 : decode J_X7_mayStand.2.1 8 = .ok (.ifCond .ne 7, 3) := by decide +kernel
theorem d_X7_mayStand_11 : decode J_X7_mayStand.2.1 11 = .ok (.iconst 1, 1) := by decide +kernel
theorem d_X7_mayStand_12 : decode J_X7_mayStand.2.1 12 = .ok (.goto 30, 3) := by decide +kernel
theorem d_X7_mayStand_15 : decode J_X7_mayStand.2.1 15 = .ok (.iconst 0, 1) := by decide +kernel
theorem d_X7_mayStand_16 : decode J_X7_mayStand.2.1 16 = .ok (.goto 26, 3) := by decide +kernel
theorem d_X7_mayStand_19 : decode J_X7_mayStand.2.1 19 = .ok (.iload_n 1, 1) := by decide +kernel
theorem d_X7_mayStand_20 : decode J_X7_mayStand.2.1 20 = .ok (.iconst 1, 1) := by decide +kernel
theorem d_X7_mayStand_21 : decode J_X7_mayStand.2.1 21 = .ok (.iand, 1) := by decide +kernel
theorem d_X7_mayStand_22 : decode J_X7_mayStand.2.1 22 = .ok (.iconst 1, 1) := by decide +kernel
theorem d_X7_mayStand_23 : decode J_X7_mayStand.2.1 23 = .ok (.if_icmp .ne 18, 3) := by decide +kernel
theorem d_X7_mayStand_26 : decode J_X7_mayStand.2.1 26 = .ok (.iload_n 1, 1) := by decide +kernel
theorem d_X7_mayStand_27 : decode J_X7_mayStand.2.1 27 = .ok (.invokestatic 118, 3) := by decide +kernel
theorem d_X7_mayStand_30 : decode J_X7_mayStand.2.1 30 = .ok (.aload_n 0, 1) := by decide +kernel
theorem d_X7_mayStand_31 : decode J_X7_mayStand.2.1 31 = .ok (.getfield 55, 3) := by decide +kernel
theorem d_X7_mayStand_34 : decode J_X7_mayStand.2.1 34 = .ok (.if_icmp .ne 7, 3) := by decide +kernel
theorem d_X7_mayStand_37 : decode J_X7_mayStand.2.1 37 = .ok (.iconst 1, 1) := by decide +kernel
theorem d_X7_mayStand_38 : decode J_X7_mayStand.2.1 38 = .ok (.goto 4, 3) := by decide +kernel
theorem d_X7_mayStand_41 : decode J_X7_mayStand.2.1 41 = .ok (.iconst 0, 1) := by decide +kernel
theorem d_X7_mayStand_42 : decode J_X7_mayStand.2.1 42 = .ok (.ireturn, 1) := by decide +kernel
def f_X7_mayStand (N : Nat) (K : oK) (p1 : Int32) (M : oM) : Option (Bool × oM) :=
  (if (M.1 28 12) = 0 then (if p1 = 0 then some (true, M) else some (false, M)) else (if (p1 &&& 1) = 1 then oB2 (f_J6_bitCount_0f7a4 N K p1 M) (fun v3 M4 => (if v3 = (M4.1 28 12) then some (true, M4) else some (false, M4))) else some (false, M)))
set_option maxRecDepth 20000 in
theorem v_X7_mayStand {X : oX} {N : Nat} {K : oK} {p1 : Int32} {M : oM} {v : Bool} {M' : oM} (hK : oSR K)  (h : f_X7_mayStand N K p1 M = some (v, M')) : oMet X 2 J_X7_mayStand [(.ref 28), (.int p1)] K M (some (.int (oBi v))) K M' := by
  unfold f_X7_mayStand at h
  refine oMet_of (L := [some (.ref 28), some (.int p1)]) jJ_X7_mayStand.1 rfl (Nat.le_of_ble_eq_true rfl) rfl (Nat.le_refl _) (Nat.le_refl _) ?_
  have hd : 2 ≤ 2 := Nat.le_refl _
  refine oe_aload_n (pc := 0) d_X7_mayStand_0 rfl ?_
  refine oe_getf (pc := 1) d_X7_mayStand_1 fl_X7_55 ock7 (k := 12) (Nat.le_of_ble_eq_true rfl) rfl (oLt hK (a := 28) (Nat.le_of_ble_eq_true rfl)) (oSho hK (a := 28) (Nat.le_of_ble_eq_true rfl) rfl) ?_
  refine oe_if_ne (pc := 4) (tgt := 19) d_X7_mayStand_4 (by decide) (fun c1 => ?_) (fun c1 => ?_)
  · replace h := (if_neg c1).symm.trans h
    refine oe_iload_n (pc := 19) d_X7_mayStand_19 rfl ?_
    refine oe_iconst (pc := 20) (v := 1) d_X7_mayStand_20 rfl ?_
    refine oe_iand (pc := 21) d_X7_mayStand_21 ?_
    refine oe_iconst (pc := 22) (v := 1) d_X7_mayStand_22 rfl ?_
    refine oe_icmp_ne (pc := 23) (tgt := 41) d_X7_mayStand_23 (by decide) (fun c2 => ?_) (fun c2 => ?_)
    · replace h := (if_neg c2).symm.trans h
      refine oe_iconst (pc := 41) (v := 0) d_X7_mayStand_41 rfl ?_
      obtain ⟨rfl, rfl⟩ := oRes h
      exact oe_iret (pc := 42) d_X7_mayStand_42 ⟨_, rfl, rfl⟩
    · replace h := (if_pos c2).symm.trans h
      refine oe_iload_n (pc := 26) d_X7_mayStand_26 rfl ?_
      obtain ⟨v3, M4, q5, h⟩ := oB2_some h
      refine oe_callS (pc := 27) d_X7_mayStand_27 (v_J6_bitCount_0f7a4 hK  q5) (by omega) ml_X7_118 jJ_J6_bitCount_0f7a4 rfl rfl (Nat.le_of_ble_eq_true rfl) ⟨Nat.le_refl _, Nat.le_refl _⟩ ⟨Nat.le_refl _, Nat.le_refl _⟩ ?_
      refine oe_aload_n (pc := 30) d_X7_mayStand_30 rfl ?_
      refine oe_getf (pc := 31) d_X7_mayStand_31 fl_X7_55 ock7 (k := 12) (Nat.le_of_ble_eq_true rfl) rfl (oLt hK (a := 28) (Nat.le_of_ble_eq_true rfl)) (oSho hK (a := 28) (Nat.le_of_ble_eq_true rfl) rfl) ?_
      refine oe_icmp_ne (pc := 34) (tgt := 41) d_X7_mayStand_34 (by decide) (fun c6 => ?_) (fun c6 => ?_)
      · replace h := (if_neg c6).symm.trans h
        refine oe_iconst (pc := 41) (v := 0) d_X7_mayStand_41 rfl ?_
        obtain ⟨rfl, rfl⟩ := oRes h
        exact oe_iret (pc := 42) d_X7_mayStand_42 ⟨_, rfl, rfl⟩
      · replace h := (if_pos c6).symm.trans h
        refine oe_iconst (pc := 37) (v := 1) d_X7_mayStand_37 rfl ?_
        refine oe_goto (pc := 38) (tgt := 42) d_X7_mayStand_38 (by decide) ?_
        obtain ⟨rfl, rfl⟩ := oRes h
        exact oe_iret (pc := 42) d_X7_mayStand_42 ⟨_, rfl, rfl⟩
  · replace h := (if_pos c1).symm.trans h
    refine oe_iload_n (pc := 7) d_X7_mayStand_7 rfl ?_
    refine oe_if_ne (pc := 8) (tgt := 15) d_X7_mayStand_8 (by decide) (fun c7 => ?_) (fun c7 => ?_)
    · replace h := (if_neg c7).symm.trans h
      refine oe_iconst (pc := 15) (v := 0) d_X7_mayStand_15 rfl ?_
      refine oe_goto (pc := 16) (tgt := 42) d_X7_mayStand_16 (by decide) ?_
      obtain ⟨rfl, rfl⟩ := oRes h
      exact oe_iret (pc := 42) d_X7_mayStand_42 ⟨_, rfl, rfl⟩
    · replace h := (if_pos c7).symm.trans h
      refine oe_iconst (pc := 11) (v := 1) d_X7_mayStand_11 rfl ?_
      refine oe_goto (pc := 12) (tgt := 42) d_X7_mayStand_12 (by decide) ?_
      obtain ⟨rfl, rfl⟩ := oRes h
      exact oe_iret (pc := 42) d_X7_mayStand_42 ⟨_, rfl, rfl⟩
theorem d_X7_behindTub_0 : decode J_X7_behindTub.2.1 0 = .ok (.aload_n 0, 1) := by decide +kernel
theorem d_X7_behindTub_1 : decode J_X7_behindTub.2.1 1 = .ok (.getfield 18, 3) := by decide +kernel
theorem d_X7_behindTub_4 : decode J_X7_behindTub.2.1 4 = .ok (.iload_n 1, 1) := by decide +kernel
theorem d_X7_behindTub_5 : decode J_X7_behindTub.2.1 5 = .ok (.baload, 1) := by decide +kernel
theorem d_X7_behindTub_6 : decode J_X7_behindTub.2.1 6 = .ok (.ifCond .ne 5, 3) := by decide +kernel
theorem d_X7_behindTub_9 : decode J_X7_behindTub.2.1 9 = .ok (.iload_n 2, 1) := by decide +kernel
theorem d_X7_behindTub_10 : decode J_X7_behindTub.2.1 10 = .ok (.ireturn, 1) := by decide +kernel
theorem d_X7_behindTub_11 : decode J_X7_behindTub.2.1 11 = .ok (.iload_n 2, 1) := by decide +kernel
theorem d_X7_behindTub_12 : decode J_X7_behindTub.2.1 12 = .ok (.ifCond .le 8, 3) := by decide +kernel
theorem d_X7_behindTub_15 : decode J_X7_behindTub.2.1 15 = .ok (.ldc 163, 2) := by decide +kernel
theorem d_X7_behindTub_17 : decode J_X7_behindTub.2.1 17 = .ok (.goto 4, 3) := by decide +kernel
theorem d_X7_behindTub_20 : decode J_X7_behindTub.2.1 20 = .ok (.iconst 0, 1) := by decide +kernel
theorem d_X7_behindTub_21 : decode J_X7_behindTub.2.1 21 = .ok (.ireturn, 1) := by decide +kernel
def f_X7_behindTub (N : Nat) (K : oK) (p1 : Int32) (p2 : Int32) (M : oM) : Option (Int32 × oM) :=
  oIx (p1) 7 ((if (M.1 31 (p1 : Int32).toNatClampNeg) = 0 then some (p2, M) else (if p2 ≤ 0 then some (0, M) else some (1000000000, M))))
set_option maxRecDepth 20000 in
theorem v_X7_behindTub {X : oX} {N : Nat} {K : oK} {p1 : Int32} {p2 : Int32} {M : oM} {v : Int32} {M' : oM} (hK : oSR K)  (h : f_X7_behindTub N K p1 p2 M = some (v, M')) : oMet X 1 J_X7_behindTub [(.ref 28), (.int p1), (.int p2)] K M (some (.int v)) K M' := by
  unfold f_X7_behindTub at h
  refine oMet_of (L := [some (.ref 28), some (.int p1), some (.int p2)]) jJ_X7_behindTub.1 rfl (Nat.le_of_ble_eq_true rfl) rfl (Nat.le_refl _) (Nat.le_refl _) ?_
  have hd : 1 ≤ 1 := Nat.le_refl _
  refine oe_aload_n (pc := 0) d_X7_behindTub_0 rfl ?_
  refine oe_getr (pc := 1) d_X7_behindTub_1 fl_X7_18 ock7 (k := 4) (b := 31) (Nat.le_of_ble_eq_true rfl) (by decide) (oLt hK (a := 28) (Nat.le_of_ble_eq_true rfl)) (oSho hK (a := 28) (Nat.le_of_ble_eq_true rfl) rfl) (oRfK hK rfl) ?_
  refine oe_iload_n (pc := 4) d_X7_behindTub_4 rfl ?_
  obtain ⟨i1, h⟩ := oIx_some h
  refine oe_zald (pc := 5) d_X7_behindTub_5 (oLt hK (a := 31) (Nat.le_of_ble_eq_true rfl)) (oSha hK (a := 31) (Nat.le_of_ble_eq_true rfl) rfl) i1 ?_
  refine oe_if_ne (pc := 6) (tgt := 11) d_X7_behindTub_6 (by decide) (fun c2 => ?_) (fun c2 => ?_)
  · replace h := (if_neg c2).symm.trans h
    refine oe_iload_n (pc := 11) d_X7_behindTub_11 rfl ?_
    refine oe_if_le (pc := 12) (tgt := 20) d_X7_behindTub_12 (by decide) (fun c3 => ?_) (fun c3 => ?_)
    · replace h := (if_pos c3).symm.trans h
      refine oe_iconst (pc := 20) (v := 0) d_X7_behindTub_20 rfl ?_
      obtain ⟨rfl, rfl⟩ := oRes h
      exact oe_iret (pc := 21) d_X7_behindTub_21 ⟨_, rfl, rfl⟩
    · replace h := (if_neg c3).symm.trans h
      refine oe_ldc (pc := 15) d_X7_behindTub_15 co_X7_163 ?_
      refine oe_goto (pc := 17) (tgt := 21) d_X7_behindTub_17 (by decide) ?_
      obtain ⟨rfl, rfl⟩ := oRes h
      exact oe_iret (pc := 21) d_X7_behindTub_21 ⟨_, rfl, rfl⟩
  · replace h := (if_pos c2).symm.trans h
    refine oe_iload_n (pc := 9) d_X7_behindTub_9 rfl ?_
    obtain ⟨rfl, rfl⟩ := oRes h
    exact oe_iret (pc := 10) d_X7_behindTub_10 ⟨_, rfl, rfl⟩
theorem d_X7_lines_0 : decode J_X7_lines.2.1 0 = .ok (.aload_n 0, 1) := by decide +kernel
theorem d_X7_lines_1 : decode J_X7_lines.2.1 1 = .ok (.getfield 51, 3) := by decide +kernel
theorem d_X7_lines_4 : decode J_X7_lines.2.1 4 = .ok (.iconst 2, 1) := by decide +kernel
theorem d_X7_lines_5 : decode J_X7_lines.2.1 5 = .ok (.if_icmp .eq 22, 3) := by decide +kernel
theorem d_X7_lines_8 : decode J_X7_lines.2.1 8 = .ok (.aload_n 0, 1) := by decide +kernel
theorem d_X7_lines_9 : decode J_X7_lines.2.1 9 = .ok (.getfield 51, 3) := by decide +kernel
theorem d_X7_lines_12 : decode J_X7_lines.2.1 12 = .ok (.iconst 4, 1) := by decide +kernel
theorem d_X7_lines_13 : decode J_X7_lines.2.1 13 = .ok (.if_icmp .ne 18, 3) := by decide +kernel
theorem d_X7_lines_16 : decode J_X7_lines.2.1 16 = .ok (.aload_n 0, 1) := by decide +kernel
theorem d_X7_lines_17 : decode J_X7_lines.2.1 17 = .ok (.getfield 105, 3) := by decide +kernel
theorem d_X7_lines_20 : decode J_X7_lines.2.1 20 = .ok (.iload_n 1, 1) := by decide +kernel
theorem d_X7_lines_21 : decode J_X7_lines.2.1 21 = .ok (.iconst 1, 1) := by decide +kernel
theorem d_X7_lines_22 : decode J_X7_lines.2.1 22 = .ok (.iadd, 1) := by decide +kernel
theorem d_X7_lines_23 : decode J_X7_lines.2.1 23 = .ok (.ishr, 1) := by decide +kernel
theorem d_X7_lines_24 : decode J_X7_lines.2.1 24 = .ok (.ifCond .ne 7, 3) := by decide +kernel
theorem d_X7_lines_27 : decode J_X7_lines.2.1 27 = .ok (.iconst 2, 1) := by decide +kernel
theorem d_X7_lines_28 : decode J_X7_lines.2.1 28 = .ok (.goto 4, 3) := by decide +kernel
theorem d_X7_lines_31 : decode J_X7_lines.2.1 31 = .ok (.iconst 1, 1) := by decide +kernel
theorem d_X7_lines_32 : decode J_X7_lines.2.1 32 = .ok (.ireturn, 1) := by decide +kernel
def f_X7_lines (N : Nat) (K : oK) (p1 : Int32) (M : oM) : Option (Int32 × oM) :=
  (if (M.1 28 10) = 2 then some (2, M) else (if (M.1 28 10) = 4 then (if ((M.1 28 13) >>> ((p1 + 1) &&& 31)) = 0 then some (2, M) else some (1, M)) else some (1, M)))
set_option maxRecDepth 20000 in
theorem v_X7_lines {X : oX} {N : Nat} {K : oK} {p1 : Int32} {M : oM} {v : Int32} {M' : oM} (hK : oSR K)  (h : f_X7_lines N K p1 M = some (v, M')) : oMet X 1 J_X7_lines [(.ref 28), (.int p1)] K M (some (.int v)) K M' := by
  unfold f_X7_lines at h
  refine oMet_of (L := [some (.ref 28), some (.int p1)]) jJ_X7_lines.1 rfl (Nat.le_of_ble_eq_true rfl) rfl (Nat.le_refl _) (Nat.le_refl _) ?_
  have hd : 1 ≤ 1 := Nat.le_refl _
  refine oe_aload_n (pc := 0) d_X7_lines_0 rfl ?_
  refine oe_getf (pc := 1) d_X7_lines_1 fl_X7_51 ock7 (k := 10) (Nat.le_of_ble_eq_true rfl) rfl (oLt hK (a := 28) (Nat.le_of_ble_eq_true rfl)) (oSho hK (a := 28) (Nat.le_of_ble_eq_true rfl) rfl) ?_
  refine oe_iconst (pc := 4) (v := 2) d_X7_lines_4 rfl ?_
  refine oe_icmp_eq (pc := 5) (tgt := 27) d_X7_lines_5 (by decide) (fun c1 => ?_) (fun c1 => ?_)
  · replace h := (if_pos c1).symm.trans h
    refine oe_iconst (pc := 27) (v := 2) d_X7_lines_27 rfl ?_
    refine oe_goto (pc := 28) (tgt := 32) d_X7_lines_28 (by decide) ?_
    obtain ⟨rfl, rfl⟩ := oRes h
    exact oe_iret (pc := 32) d_X7_lines_32 ⟨_, rfl, rfl⟩
  · replace h := (if_neg c1).symm.trans h
    refine oe_aload_n (pc := 8) d_X7_lines_8 rfl ?_
    refine oe_getf (pc := 9) d_X7_lines_9 fl_X7_51 ock7 (k := 10) (Nat.le_of_ble_eq_true rfl) rfl (oLt hK (a := 28) (Nat.le_of_ble_eq_true rfl)) (oSho hK (a := 28) (Nat.le_of_ble_eq_true rfl) rfl) ?_
    refine oe_iconst (pc := 12) (v := 4) d_X7_lines_12 rfl ?_
    refine oe_icmp_ne (pc := 13) (tgt := 31) d_X7_lines_13 (by decide) (fun c2 => ?_) (fun c2 => ?_)
    · replace h := (if_neg c2).symm.trans h
      refine oe_iconst (pc := 31) (v := 1) d_X7_lines_31 rfl ?_
      obtain ⟨rfl, rfl⟩ := oRes h
      exact oe_iret (pc := 32) d_X7_lines_32 ⟨_, rfl, rfl⟩
    · replace h := (if_pos c2).symm.trans h
      refine oe_aload_n (pc := 16) d_X7_lines_16 rfl ?_
      refine oe_getf (pc := 17) d_X7_lines_17 fl_X7_105 ock7 (k := 13) (Nat.le_of_ble_eq_true rfl) rfl (oLt hK (a := 28) (Nat.le_of_ble_eq_true rfl)) (oSho hK (a := 28) (Nat.le_of_ble_eq_true rfl) rfl) ?_
      refine oe_iload_n (pc := 20) d_X7_lines_20 rfl ?_
      refine oe_iconst (pc := 21) (v := 1) d_X7_lines_21 rfl ?_
      refine oe_iadd (pc := 22) d_X7_lines_22 ?_
      refine oe_ishr (pc := 23) d_X7_lines_23 ?_
      refine oe_if_ne (pc := 24) (tgt := 31) d_X7_lines_24 (by decide) (fun c3 => ?_) (fun c3 => ?_)
      · replace h := (if_neg c3).symm.trans h
        refine oe_iconst (pc := 31) (v := 1) d_X7_lines_31 rfl ?_
        obtain ⟨rfl, rfl⟩ := oRes h
        exact oe_iret (pc := 32) d_X7_lines_32 ⟨_, rfl, rfl⟩
      · replace h := (if_pos c3).symm.trans h
        refine oe_iconst (pc := 27) (v := 2) d_X7_lines_27 rfl ?_
        refine oe_goto (pc := 28) (tgt := 32) d_X7_lines_28 (by decide) ?_
        obtain ⟨rfl, rfl⟩ := oRes h
        exact oe_iret (pc := 32) d_X7_lines_32 ⟨_, rfl, rfl⟩
theorem d_X7_drop_0 : decode J_X7_drop.2.1 0 = .ok (.aload_n 0, 1) := by decide +kernel
theorem d_X7_drop_1 : decode J_X7_drop.2.1 1 = .ok (.getfield 28, 3) := by decide +kernel
theorem d_X7_drop_4 : decode J_X7_drop.2.1 4 = .ok (.bipush 6, 2) := by decide +kernel
theorem d_X7_drop_6 : decode J_X7_drop.2.1 6 = .ok (.aload_n 0, 1) := by decide +kernel
theorem d_X7_drop_7 : decode J_X7_drop.2.1 7 = .ok (.iload_n 1, 1) := by decide +kernel
theorem d_X7_drop_8 : decode J_X7_drop.2.1 8 = .ok (.invokevirtual 143, 3) := by decide +kernel
theorem d_X7_drop_11 : decode J_X7_drop.2.1 11 = .ok (.iconst 1, 1) := by decide +kernel
theorem d_X7_drop_12 : decode J_X7_drop.2.1 12 = .ok (.isub, 1) := by decide +kernel
theorem d_X7_drop_13 : decode J_X7_drop.2.1 13 = .ok (.imul, 1) := by decide +kernel
theorem d_X7_drop_14 : decode J_X7_drop.2.1 14 = .ok (.iload_n 1, 1) := by decide +kernel
theorem d_X7_drop_15 : decode J_X7_drop.2.1 15 = .ok (.iadd, 1) := by decide +kernel
theorem d_X7_drop_16 : decode J_X7_drop.2.1 16 = .ok (.iconst 3, 1) := by decide +kernel
theorem d_X7_drop_17 : decode J_X7_drop.2.1 17 = .ok (.imul, 1) := by decide +kernel
theorem d_X7_drop_18 : decode J_X7_drop.2.1 18 = .ok (.iload_n 2, 1) := by decide +kernel
theorem d_X7_drop_19 : decode J_X7_drop.2.1 19 = .ok (.iadd, 1) := by decide +kernel
theorem d_X7_drop_20 : decode J_X7_drop.2.1 20 = .ok (.iaload, 1) := by decide +kernel
theorem d_X7_drop_21 : decode J_X7_drop.2.1 21 = .ok (.ireturn, 1) := by decide +kernel
def f_X7_drop (N : Nat) (K : oK) (p1 : Int32) (p2 : Int32) (M : oM) : Option (Int32 × oM) :=
  oB2 (f_X7_lines N K p1 M) (fun v1 M2 => oIx ((((((6 : Int32) * (v1 - 1)) + p1) * 3) + p2)) 36 (some ((M2.1 34 ((((((6 : Int32) * (v1 - 1)) + p1) * 3) + p2) : Int32).toNatClampNeg), M2)))
set_option maxRecDepth 20000 in
theorem v_X7_drop {X : oX} {N : Nat} {K : oK} {p1 : Int32} {p2 : Int32} {M : oM} {v : Int32} {M' : oM} (hK : oSR K)  (h : f_X7_drop N K p1 p2 M = some (v, M')) : oMet X 2 J_X7_drop [(.ref 28), (.int p1), (.int p2)] K M (some (.int v)) K M' := by
  unfold f_X7_drop at h
  refine oMet_of (L := [some (.ref 28), some (.int p1), some (.int p2)]) jJ_X7_drop.1 rfl (Nat.le_of_ble_eq_true rfl) rfl (Nat.le_refl _) (Nat.le_refl _) ?_
  have hd : 2 ≤ 2 := Nat.le_refl _
  refine oe_aload_n (pc := 0) d_X7_drop_0 rfl ?_
  refine oe_getr (pc := 1) d_X7_drop_1 fl_X7_28 ock7 (k := 7) (b := 34) (Nat.le_of_ble_eq_true rfl) (by decide) (oLt hK (a := 28) (Nat.le_of_ble_eq_true rfl)) (oSho hK (a := 28) (Nat.le_of_ble_eq_true rfl) rfl) (oRfK hK rfl) ?_
  refine oe_bipush (pc := 4) (v := 6) d_X7_drop_4 rfl ?_
  refine oe_aload_n (pc := 6) d_X7_drop_6 rfl ?_
  refine oe_iload_n (pc := 7) d_X7_drop_7 rfl ?_
  obtain ⟨v1, M2, q3, h⟩ := oB2_some h
  refine oe_callV (pc := 8) (ci := 7) d_X7_drop_8 (v_X7_lines hK  q3) (by omega) ml_X7_143 jJ_X7_lines rfl rfl (oLt hK (a := 28) (Nat.le_of_ble_eq_true rfl)) (oSho hK (a := 28) (Nat.le_of_ble_eq_true rfl) rfl) ock7 rfl (Nat.le_of_ble_eq_true rfl) ⟨Nat.le_refl _, Nat.le_refl _⟩ ⟨Nat.le_refl _, Nat.le_refl _⟩ ?_
  refine oe_iconst (pc := 11) (v := 1) d_X7_drop_11 rfl ?_
  refine oe_isub (pc := 12) d_X7_drop_12 ?_
  refine oe_imul (pc := 13) d_X7_drop_13 ?_
  refine oe_iload_n (pc := 14) d_X7_drop_14 rfl ?_
  refine oe_iadd (pc := 15) d_X7_drop_15 ?_
  refine oe_iconst (pc := 16) (v := 3) d_X7_drop_16 rfl ?_
  refine oe_imul (pc := 17) d_X7_drop_17 ?_
  refine oe_iload_n (pc := 18) d_X7_drop_18 rfl ?_
  refine oe_iadd (pc := 19) d_X7_drop_19 ?_
  obtain ⟨i4, h⟩ := oIx_some h
  refine oe_iald (pc := 20) d_X7_drop_20 (oLt hK (a := 34) (Nat.le_of_ble_eq_true rfl)) (oSha hK (a := 34) (Nat.le_of_ble_eq_true rfl) rfl) i4 ?_
  obtain ⟨rfl, rfl⟩ := oRes h
  exact oe_iret (pc := 21) d_X7_drop_21 ⟨_, rfl, rfl⟩
theorem d_X7_standsAhead_0 : decode J_X7_standsAhead.2.1 0 = .ok (.aload_n 0, 1) := by decide +kernel
theorem d_X7_standsAhead_1 : decode J_X7_standsAhead.2.1 1 = .ok (.getfield 105, 3) := by decide +kernel
theorem d_X7_standsAhead_4 : decode J_X7_standsAhead.2.1 4 = .ok (.iload_n 1, 1) := by decide +kernel
theorem d_X7_standsAhead_5 : decode J_X7_standsAhead.2.1 5 = .ok (.ishr, 1) := by decide +kernel
theorem d_X7_standsAhead_6 : decode J_X7_standsAhead.2.1 6 = .ok (.iconst 1, 1) := by decide +kernel
theorem d_X7_standsAhead_7 : decode J_X7_standsAhead.2.1 7 = .ok (.iand, 1) := by decide +kernel
theorem d_X7_standsAhead_8 : decode J_X7_standsAhead.2.1 8 = .ok (.iconst 1, 1) := by decide +kernel
theorem d_X7_standsAhead_9 : decode J_X7_standsAhead.2.1 9 = .ok (.if_icmp .ne 7, 3) := by decide +kernel
theorem d_X7_standsAhead_12 : decode J_X7_standsAhead.2.1 12 = .ok (.iconst 1, 1) := by decide +kernel
theorem d_X7_standsAhead_13 : decode J_X7_standsAhead.2.1 13 = .ok (.goto 4, 3) := by decide +kernel
theorem d_X7_standsAhead_16 : decode J_X7_standsAhead.2.1 16 = .ok (.iconst 0, 1) := by decide +kernel
theorem d_X7_standsAhead_17 : decode J_X7_standsAhead.2.1 17 = .ok (.ireturn, 1) := by decide +kernel
def f_X7_standsAhead (N : Nat) (K : oK) (p1 : Int32) (M : oM) : Option (Bool × oM) :=
  (if (((M.1 28 13) >>> (p1 &&& 31)) &&& 1) = 1 then some (true, M) else some (false, M))
set_option maxRecDepth 20000 in
theorem v_X7_standsAhead {X : oX} {N : Nat} {K : oK} {p1 : Int32} {M : oM} {v : Bool} {M' : oM} (hK : oSR K)  (h : f_X7_standsAhead N K p1 M = some (v, M')) : oMet X 1 J_X7_standsAhead [(.ref 28), (.int p1)] K M (some (.int (oBi v))) K M' := by
  unfold f_X7_standsAhead at h
  refine oMet_of (L := [some (.ref 28), some (.int p1)]) jJ_X7_standsAhead.1 rfl (Nat.le_of_ble_eq_true rfl) rfl (Nat.le_refl _) (Nat.le_refl _) ?_
  have hd : 1 ≤ 1 := Nat.le_refl _
  refine oe_aload_n (pc := 0) d_X7_standsAhead_0 rfl ?_
  refine oe_getf (pc := 1) d_X7_standsAhead_1 fl_X7_105 ock7 (k := 13) (Nat.le_of_ble_eq_true rfl) rfl (oLt hK (a := 28) (Nat.le_of_ble_eq_true rfl)) (oSho hK (a := 28) (Nat.le_of_ble_eq_true rfl) rfl) ?_
  refine oe_iload_n (pc := 4) d_X7_standsAhead_4 rfl ?_
  refine oe_ishr (pc := 5) d_X7_standsAhead_5 ?_
  refine oe_iconst (pc := 6) (v := 1) d_X7_standsAhead_6 rfl ?_
  refine oe_iand (pc := 7) d_X7_standsAhead_7 ?_
  refine oe_iconst (pc := 8) (v := 1) d_X7_standsAhead_8 rfl ?_
  refine oe_icmp_ne (pc := 9) (tgt := 16) d_X7_standsAhead_9 (by decide) (fun c1 => ?_) (fun c1 => ?_)
  · replace h := (if_neg c1).symm.trans h
    refine oe_iconst (pc := 16) (v := 0) d_X7_standsAhead_16 rfl ?_
    obtain ⟨rfl, rfl⟩ := oRes h
    exact oe_iret (pc := 17) d_X7_standsAhead_17 ⟨_, rfl, rfl⟩
  · replace h := (if_pos c1).symm.trans h
    refine oe_iconst (pc := 12) (v := 1) d_X7_standsAhead_12 rfl ?_
    refine oe_goto (pc := 13) (tgt := 17) d_X7_standsAhead_13 (by decide) ?_
    obtain ⟨rfl, rfl⟩ := oRes h
    exact oe_iret (pc := 17) d_X7_standsAhead_17 ⟨_, rfl, rfl⟩
theorem d_X7_raisedAhead_0 : decode J_X7_raisedAhead.2.1 0 = .ok (.aload_n 0, 1) := by decide +kernel
theorem d_X7_raisedAhead_1 : decode J_X7_raisedAhead.2.1 1 = .ok (.getfield 105, 3) := by decide +kernel
theorem d_X7_raisedAhead_4 : decode J_X7_raisedAhead.2.1 4 = .ok (.iconst 1, 1) := by decide +kernel
theorem d_X7_raisedAhead_5 : decode J_X7_raisedAhead.2.1 5 = .ok (.iload_n 1, 1) := by decide +kernel
theorem d_X7_raisedAhead_6 : decode J_X7_raisedAhead.2.1 6 = .ok (.ishl, 1) := by decide +kernel
theorem d_X7_raisedAhead_7 : decode J_X7_raisedAhead.2.1 7 = .ok (.iconst 1, 1) := by decide +kernel
theorem d_X7_raisedAhead_8 : decode J_X7_raisedAhead.2.1 8 = .ok (.isub, 1) := by decide +kernel
theorem d_X7_raisedAhead_9 : decode J_X7_raisedAhead.2.1 9 = .ok (.iand, 1) := by decide +kernel
theorem d_X7_raisedAhead_10 : decode J_X7_raisedAhead.2.1 10 = .ok (.invokestatic 118, 3) := by decide +kernel
theorem d_X7_raisedAhead_13 : decode J_X7_raisedAhead.2.1 13 = .ok (.istore_n 2, 1) := by decide +kernel
theorem d_X7_raisedAhead_14 : decode J_X7_raisedAhead.2.1 14 = .ok (.aload_n 0, 1) := by decide +kernel
theorem d_X7_raisedAhead_15 : decode J_X7_raisedAhead.2.1 15 = .ok (.iload_n 1, 1) := by decide +kernel
theorem d_X7_raisedAhead_16 : decode J_X7_raisedAhead.2.1 16 = .ok (.invokevirtual 123, 3) := by decide +kernel
theorem d_X7_raisedAhead_19 : decode J_X7_raisedAhead.2.1 19 = .ok (.ifCond .eq 20, 3) := by decide +kernel
theorem d_X7_raisedAhead_22 : decode J_X7_raisedAhead.2.1 22 = .ok (.iload_n 2, 1) := by decide +kernel
theorem d_X7_raisedAhead_23 : decode J_X7_raisedAhead.2.1 23 = .ok (.aload_n 0, 1) := by decide +kernel
theorem d_X7_raisedAhead_24 : decode J_X7_raisedAhead.2.1 24 = .ok (.getfield 55, 3) := by decide +kernel
theorem d_X7_raisedAhead_27 : decode J_X7_raisedAhead.2.1 27 = .ok (.if_icmp .ge 12, 3) := by decide +kernel
theorem d_X7_raisedAhead_30 : decode J_X7_raisedAhead.2.1 30 = .ok (.aload_n 0, 1) := by decide +kernel
theorem d_X7_raisedAhead_31 : decode J_X7_raisedAhead.2.1 31 = .ok (.getfield 25, 3) := by decide +kernel
theorem d_X7_raisedAhead_34 : decode J_X7_raisedAhead.2.1 34 = .ok (.iload_n 2, 1) := by decide +kernel
theorem d_X7_raisedAhead_35 : decode J_X7_raisedAhead.2.1 35 = .ok (.iaload, 1) := by decide +kernel
theorem d_X7_raisedAhead_36 : decode J_X7_raisedAhead.2.1 36 = .ok (.goto 4, 3) := by decide +kernel
theorem d_X7_raisedAhead_39 : decode J_X7_raisedAhead.2.1 39 = .ok (.iconst 0, 1) := by decide +kernel
theorem d_X7_raisedAhead_40 : decode J_X7_raisedAhead.2.1 40 = .ok (.ireturn, 1) := by decide +kernel
def f_X7_raisedAhead (N : Nat) (K : oK) (p1 : Int32) (M : oM) : Option (Int32 × oM) :=
  oB2 (f_J6_bitCount_0f7a4 N K ((M.1 28 13) &&& (((1 : Int32) <<< (p1 &&& 31)) - 1)) M) (fun v1 M2 => oB2 (f_X7_standsAhead N K p1 M2) (fun v4 M5 => cond v4 ((if (M5.1 28 12) ≤ v1 then some (0, M5) else oIx (v1) 4 (some ((M5.1 33 (v1 : Int32).toNatClampNeg), M5)))) (some (0, M5))))
set_option maxRecDepth 20000 in
theorem v_X7_raisedAhead {X : oX} {N : Nat} {K : oK} {p1 : Int32} {M : oM} {v : Int32} {M' : oM} (hK : oSR K)  (h : f_X7_raisedAhead N K p1 M = some (v, M')) : oMet X 2 J_X7_raisedAhead [(.ref 28), (.int p1)] K M (some (.int v)) K M' := by
  unfold f_X7_raisedAhead at h
  refine oMet_of (L := [some (.ref 28), some (.int p1), none]) jJ_X7_raisedAhead.1 rfl (Nat.le_of_ble_eq_true rfl) rfl (Nat.le_refl _) (Nat.le_refl _) ?_
  have hd : 2 ≤ 2 := Nat.le_refl _
  refine oe_aload_n (pc := 0) d_X7_raisedAhead_0 rfl ?_
  refine oe_getf (pc := 1) d_X7_raisedAhead_1 fl_X7_105 ock7 (k := 13) (Nat.le_of_ble_eq_true rfl) rfl (oLt hK (a := 28) (Nat.le_of_ble_eq_true rfl)) (oSho hK (a := 28) (Nat.le_of_ble_eq_true rfl) rfl) ?_
  refine oe_iconst (pc := 4) (v := 1) d_X7_raisedAhead_4 rfl ?_
  refine oe_iload_n (pc := 5) d_X7_raisedAhead_5 rfl ?_
  refine oe_ishl (pc := 6) d_X7_raisedAhead_6 ?_
  refine oe_iconst (pc := 7) (v := 1) d_X7_raisedAhead_7 rfl ?_
  refine oe_isub (pc := 8) d_X7_raisedAhead_8 ?_
  refine oe_iand (pc := 9) d_X7_raisedAhead_9 ?_
  obtain ⟨v1, M2, q3, h⟩ := oB2_some h
  refine oe_callS (pc := 10) d_X7_raisedAhead_10 (v_J6_bitCount_0f7a4 hK  q3) (by omega) ml_X7_118 jJ_J6_bitCount_0f7a4 rfl rfl (Nat.le_of_ble_eq_true rfl) ⟨Nat.le_refl _, Nat.le_refl _⟩ ⟨Nat.le_refl _, Nat.le_refl _⟩ ?_
  refine oe_istore_n (pc := 13) (L2 := [_, _, _]) d_X7_raisedAhead_13 rfl rfl (Nat.le_of_ble_eq_true rfl) rfl ?_
  refine oe_aload_n (pc := 14) d_X7_raisedAhead_14 rfl ?_
  refine oe_iload_n (pc := 15) d_X7_raisedAhead_15 rfl ?_
  obtain ⟨v4, M5, q6, h⟩ := oB2_some h
  cases v4 with
  | true =>
    replace h := oCt h
    refine oe_callV (pc := 16) (ci := 7) d_X7_raisedAhead_16 (v_X7_standsAhead hK  q6) (by omega) ml_X7_123 jJ_X7_standsAhead rfl rfl (oLt hK (a := 28) (Nat.le_of_ble_eq_true rfl)) (oSho hK (a := 28) (Nat.le_of_ble_eq_true rfl) rfl) ock7 rfl (Nat.le_of_ble_eq_true rfl) ⟨Nat.le_refl _, Nat.le_refl _⟩ ⟨Nat.le_refl _, Nat.le_refl _⟩ ?_
    refine oe_if_eq (pc := 19) (tgt := 39) d_X7_raisedAhead_19 (by decide) (fun c => absurd c (by decide)) (fun _ => ?_)
    refine oe_iload_n (pc := 22) d_X7_raisedAhead_22 rfl ?_
    refine oe_aload_n (pc := 23) d_X7_raisedAhead_23 rfl ?_
    refine oe_getf (pc := 24) d_X7_raisedAhead_24 fl_X7_55 ock7 (k := 12) (Nat.le_of_ble_eq_true rfl) rfl (oLt hK (a := 28) (Nat.le_of_ble_eq_true rfl)) (oSho hK (a := 28) (Nat.le_of_ble_eq_true rfl) rfl) ?_
    refine oe_icmp_ge (pc := 27) (tgt := 39) d_X7_raisedAhead_27 (by decide) (fun c7 => ?_) (fun c7 => ?_)
    · replace h := (if_pos c7).symm.trans h
      refine oe_iconst (pc := 39) (v := 0) d_X7_raisedAhead_39 rfl ?_
      obtain ⟨rfl, rfl⟩ := oRes h
      exact oe_iret (pc := 40) d_X7_raisedAhead_40 ⟨_, rfl, rfl⟩
    · replace h := (if_neg c7).symm.trans h
      refine oe_aload_n (pc := 30) d_X7_raisedAhead_30 rfl ?_
      refine oe_getr (pc := 31) d_X7_raisedAhead_31 fl_X7_25 ock7 (k := 6) (b := 33) (Nat.le_of_ble_eq_true rfl) (by decide) (oLt hK (a := 28) (Nat.le_of_ble_eq_true rfl)) (oSho hK (a := 28) (Nat.le_of_ble_eq_true rfl) rfl) (oRfK hK rfl) ?_
      refine oe_iload_n (pc := 34) d_X7_raisedAhead_34 rfl ?_
      obtain ⟨i8, h⟩ := oIx_some h
      refine oe_iald (pc := 35) d_X7_raisedAhead_35 (oLt hK (a := 33) (Nat.le_of_ble_eq_true rfl)) (oSha hK (a := 33) (Nat.le_of_ble_eq_true rfl) rfl) i8 ?_
      refine oe_goto (pc := 36) (tgt := 40) d_X7_raisedAhead_36 (by decide) ?_
      obtain ⟨rfl, rfl⟩ := oRes h
      exact oe_iret (pc := 40) d_X7_raisedAhead_40 ⟨_, rfl, rfl⟩
  | false =>
    replace h := oCf h
    refine oe_callV (pc := 16) (ci := 7) d_X7_raisedAhead_16 (v_X7_standsAhead hK  q6) (by omega) ml_X7_123 jJ_X7_standsAhead rfl rfl (oLt hK (a := 28) (Nat.le_of_ble_eq_true rfl)) (oSho hK (a := 28) (Nat.le_of_ble_eq_true rfl) rfl) ock7 rfl (Nat.le_of_ble_eq_true rfl) ⟨Nat.le_refl _, Nat.le_refl _⟩ ⟨Nat.le_refl _, Nat.le_refl _⟩ ?_
    refine oe_if_eq (pc := 19) (tgt := 39) d_X7_raisedAhead_19 (by decide) (fun _ => ?_) (fun c => absurd (by decide) c)
    refine oe_iconst (pc := 39) (v := 0) d_X7_raisedAhead_39 rfl ?_
    obtain ⟨rfl, rfl⟩ := oRes h
    exact oe_iret (pc := 40) d_X7_raisedAhead_40 ⟨_, rfl, rfl⟩
theorem d_X7_setFloors_0 : decode J_X7_setFloors.2.1 0 = .ok (.aload_n 0, 1) := by decide +kernel
theorem d_X7_setFloors_1 : decode J_X7_setFloors.2.1 1 = .ok (.aload_n 0, 1) := by decide +kernel
theorem d_X7_setFloors_2 : decode J_X7_setFloors.2.1 2 = .ok (.getfield 52, 3) := by decide +kernel
theorem d_X7_setFloors_5 : decode J_X7_setFloors.2.1 5 = .ok (.iload_n 1, 1) := by decide +kernel
theorem d_X7_setFloors_6 : decode J_X7_setFloors.2.1 6 = .ok (.invokevirtual 146, 3) := by decide +kernel
theorem d_X7_setFloors_9 : decode J_X7_setFloors.2.1 9 = .ok (.istore_n 2, 1) := by decide +kernel
theorem d_X7_setFloors_10 : decode J_X7_setFloors.2.1 10 = .ok (.aload_n 0, 1) := by decide +kernel
theorem d_X7_setFloors_11 : decode J_X7_setFloors.2.1 11 = .ok (.getfield 31, 3) := by decide +kernel
theorem d_X7_setFloors_14 : decode J_X7_setFloors.2.1 14 = .ok (.aload_n 0, 1) := by decide +kernel
theorem d_X7_setFloors_15 : decode J_X7_setFloors.2.1 15 = .ok (.getfield 52, 3) := by decide +kernel
theorem d_X7_setFloors_18 : decode J_X7_setFloors.2.1 18 = .ok (.iload_n 2, 1) := by decide +kernel
theorem d_X7_setFloors_19 : decode J_X7_setFloors.2.1 19 = .ok (.iastore, 1) := by decide +kernel
theorem d_X7_setFloors_20 : decode J_X7_setFloors.2.1 20 = .ok (.aload_n 0, 1) := by decide +kernel
theorem d_X7_setFloors_21 : decode J_X7_setFloors.2.1 21 = .ok (.getfield 52, 3) := by decide +kernel
theorem d_X7_setFloors_24 : decode J_X7_setFloors.2.1 24 = .ok (.iconst 1, 1) := by decide +kernel
theorem d_X7_setFloors_25 : decode J_X7_setFloors.2.1 25 = .ok (.isub, 1) := by decide +kernel
theorem d_X7_setFloors_26 : decode J_X7_setFloors.2.1 26 = .ok (.istore_n 3, 1) := by decide +kernel
theorem d_X7_setFloors_27 : decode J_X7_setFloors.2.1 27 = .ok (.iload_n 3, 1) := by decide +kernel
theorem d_X7_setFloors_28 : decode J_X7_setFloors.2.1 28 = .ok (.ifCond .lt 70, 3) := by decide +kernel
theorem d_X7_setFloors_31 : decode J_X7_setFloors.2.1 31 = .ok (.iload_n 2, 1) := by decide +kernel
theorem d_X7_setFloors_32 : decode J_X7_setFloors.2.1 32 = .ok (.aload_n 0, 1) := by decide +kernel
theorem d_X7_setFloors_33 : decode J_X7_setFloors.2.1 33 = .ok (.iload_n 3, 1) := by decide +kernel
theorem d_X7_setFloors_34 : decode J_X7_setFloors.2.1 34 = .ok (.iconst 0, 1) := by decide +kernel
theorem d_X7_setFloors_35 : decode J_X7_setFloors.2.1 35 = .ok (.invokevirtual 149, 3) := by decide +kernel
theorem d_X7_setFloors_38 : decode J_X7_setFloors.2.1 38 = .ok (.aload_n 0, 1) := by decide +kernel
theorem d_X7_setFloors_39 : decode J_X7_setFloors.2.1 39 = .ok (.iload_n 3, 1) := by decide +kernel
theorem d_X7_setFloors_40 : decode J_X7_setFloors.2.1 40 = .ok (.iconst 1, 1) := by decide +kernel
theorem d_X7_setFloors_41 : decode J_X7_setFloors.2.1 41 = .ok (.invokevirtual 149, 3) := by decide +kernel
theorem d_X7_setFloors_44 : decode J_X7_setFloors.2.1 44 = .ok (.aload_n 0, 1) := by decide +kernel
theorem d_X7_setFloors_45 : decode J_X7_setFloors.2.1 45 = .ok (.iload_n 3, 1) := by decide +kernel
theorem d_X7_setFloors_46 : decode J_X7_setFloors.2.1 46 = .ok (.iconst 2, 1) := by decide +kernel
theorem d_X7_setFloors_47 : decode J_X7_setFloors.2.1 47 = .ok (.invokevirtual 149, 3) := by decide +kernel
theorem d_X7_setFloors_50 : decode J_X7_setFloors.2.1 50 = .ok (.invokestatic 152, 3) := by decide +kernel
theorem d_X7_setFloors_53 : decode J_X7_setFloors.2.1 53 = .ok (.invokestatic 152, 3) := by decide +kernel
theorem d_X7_setFloors_56 : decode J_X7_setFloors.2.1 56 = .ok (.iadd, 1) := by decide +kernel
theorem d_X7_setFloors_57 : decode J_X7_setFloors.2.1 57 = .ok (.istore_n 2, 1) := by decide +kernel
theorem d_X7_setFloors_58 : decode J_X7_setFloors.2.1 58 = .ok (.aload_n 0, 1) := by decide +kernel
theorem d_X7_setFloors_59 : decode J_X7_setFloors.2.1 59 = .ok (.iload_n 3, 1) := by decide +kernel
theorem d_X7_setFloors_60 : decode J_X7_setFloors.2.1 60 = .ok (.invokevirtual 123, 3) := by decide +kernel
theorem d_X7_setFloors_63 : decode J_X7_setFloors.2.1 63 = .ok (.ifCond .eq 15, 3) := by decide +kernel
theorem d_X7_setFloors_66 : decode J_X7_setFloors.2.1 66 = .ok (.iconst 0, 1) := by decide +kernel
theorem d_X7_setFloors_67 : decode J_X7_setFloors.2.1 67 = .ok (.iload_n 2, 1) := by decide +kernel
theorem d_X7_setFloors_68 : decode J_X7_setFloors.2.1 68 = .ok (.aload_n 0, 1) := by decide +kernel
theorem d_X7_setFloors_69 : decode J_X7_setFloors.2.1 69 = .ok (.iload_n 3, 1) := by decide +kernel
theorem d_X7_setFloors_70 : decode J_X7_setFloors.2.1 70 = .ok (.invokevirtual 157, 3) := by decide +kernel
theorem d_X7_setFloors_73 : decode J_X7_setFloors.2.1 73 = .ok (.isub, 1) := by decide +kernel
theorem d_X7_setFloors_74 : decode J_X7_setFloors.2.1 74 = .ok (.invokestatic 160, 3) := by decide +kernel
theorem d_X7_setFloors_77 : decode J_X7_setFloors.2.1 77 = .ok (.istore_n 2, 1) := by decide +kernel
theorem d_X7_setFloors_78 : decode J_X7_setFloors.2.1 78 = .ok (.aload_n 0, 1) := by decide +kernel
theorem d_X7_setFloors_79 : decode J_X7_setFloors.2.1 79 = .ok (.iload_n 3, 1) := by decide +kernel
theorem d_X7_setFloors_80 : decode J_X7_setFloors.2.1 80 = .ok (.iload_n 2, 1) := by decide +kernel
theorem d_X7_setFloors_81 : decode J_X7_setFloors.2.1 81 = .ok (.invokevirtual 146, 3) := by decide +kernel
theorem d_X7_setFloors_84 : decode J_X7_setFloors.2.1 84 = .ok (.istore_n 2, 1) := by decide +kernel
theorem d_X7_setFloors_85 : decode J_X7_setFloors.2.1 85 = .ok (.aload_n 0, 1) := by decide +kernel
theorem d_X7_setFloors_86 : decode J_X7_setFloors.2.1 86 = .ok (.getfield 31, 3) := by decide +kernel
theorem d_X7_setFloors_89 : decode J_X7_setFloors.2.1 89 = .ok (.iload_n 3, 1) := by decide +kernel
theorem d_X7_setFloors_90 : decode J_X7_setFloors.2.1 90 = .ok (.iload_n 2, 1) := by decide +kernel
theorem d_X7_setFloors_91 : decode J_X7_setFloors.2.1 91 = .ok (.iastore, 1) := by decide +kernel
theorem d_X7_setFloors_92 : decode J_X7_setFloors.2.1 92 = .ok (.iinc 3 (-1), 3) := by decide +kernel
theorem d_X7_setFloors_95 : decode J_X7_setFloors.2.1 95 = .ok (.goto (-68), 3) := by decide +kernel
theorem d_X7_setFloors_98 : decode J_X7_setFloors.2.1 98 = .ok (.return_, 1) := by decide +kernel
def f_X7_setFloors_78 (N : Nat) (K : oK) (r27 : (Int32 → Int32 → oM → Option (Unit × oM))) (p2 : Int32) (p3 : Int32) (M : oM) : Option (Unit × oM) :=
  oB2 (f_X7_behindTub N K p3 p2 M) (fun v21 M22 => oIx (p3) 7 ((r27 v21 (p3 + (-1)) (oUp M22 35 (p3 : Int32).toNatClampNeg v21))))
set_option maxRecDepth 20000 in
theorem v_X7_setFloors_78 {X : oX} {d N : Nat} {K : oK} {r27 : (Int32 → Int32 → oM → Option (Unit × oM))} {p2 : Int32} {p3 : Int32} {M : oM} {v : Unit} {M' : oM}  (hd : 3 ≤ d) (hK : oSR K)  (hr27 : ∀ (p2 : Int32) (p3 : Int32) (M : oM) (v : Unit) (M' : oM) , r27 p2 p3 M = some (v, M') → oEv X d J_X7_setFloors 27 [some (.ref 28), none, some (.int p2), some (.int p3)] [] K M none K M') (h : f_X7_setFloors_78 N K r27 p2 p3 M = some (v, M')) : oEv X d J_X7_setFloors 78 [some (.ref 28), none, some (.int p2), some (.int p3)] [] K M none K M' := by
  unfold f_X7_setFloors_78 at h
  refine oe_aload_n (pc := 78) d_X7_setFloors_78 rfl ?_
  refine oe_iload_n (pc := 79) d_X7_setFloors_79 rfl ?_
  refine oe_iload_n (pc := 80) d_X7_setFloors_80 rfl ?_
  obtain ⟨v21, M22, q23, h⟩ := oB2_some h
  refine oe_callV (pc := 81) (ci := 7) d_X7_setFloors_81 (v_X7_behindTub hK  q23) (by omega) ml_X7_146 jJ_X7_behindTub rfl rfl (oLt hK (a := 28) (Nat.le_of_ble_eq_true rfl)) (oSho hK (a := 28) (Nat.le_of_ble_eq_true rfl) rfl) ock7 rfl (Nat.le_of_ble_eq_true rfl) ⟨Nat.le_refl _, Nat.le_refl _⟩ ⟨Nat.le_refl _, Nat.le_refl _⟩ ?_
  refine oe_istore_n (pc := 84) (L2 := [_, _, _, _]) d_X7_setFloors_84 rfl rfl (Nat.le_of_ble_eq_true rfl) rfl ?_
  refine oe_aload_n (pc := 85) d_X7_setFloors_85 rfl ?_
  refine oe_getr (pc := 86) d_X7_setFloors_86 fl_X7_31 ock7 (k := 8) (b := 35) (Nat.le_of_ble_eq_true rfl) (by decide) (oLt hK (a := 28) (Nat.le_of_ble_eq_true rfl)) (oSho hK (a := 28) (Nat.le_of_ble_eq_true rfl) rfl) (oRfK hK rfl) ?_
  refine oe_iload_n (pc := 89) d_X7_setFloors_89 rfl ?_
  refine oe_iload_n (pc := 90) d_X7_setFloors_90 rfl ?_
  obtain ⟨i24, h⟩ := oIx_some h
  refine oe_iast (pc := 91) d_X7_setFloors_91 (oLt hK (a := 35) (Nat.le_of_ble_eq_true rfl)) (oSha hK (a := 35) (Nat.le_of_ble_eq_true rfl) rfl) i24 ?_
  refine oe_iinc (pc := 92) (v := (p3 + (-1))) (L2 := [_, _, _, _]) d_X7_setFloors_92 rfl rfl rfl (Nat.le_of_ble_eq_true rfl) rfl ?_
  refine oe_goto (pc := 95) (tgt := 27) d_X7_setFloors_95 (by decide) ?_
  exact hr27 _ _ _ _ _ h
def f_X7_setFloors_27 (N : Nat) (K : oK)  : Nat → Int32 → Int32 → oM → Option (Unit × oM)
  | 0, _, _, _ => none
  | n + 1, p2, p3, M => (fun r27 => (if p3 < 0 then some ((), M) else oB2 (f_X7_drop N K p3 (0 : Int32) M) (fun v6 M7 => oB2 (f_X7_drop N K p3 (1 : Int32) M7) (fun v9 M10 => oB2 (f_X7_drop N K p3 (2 : Int32) M10) (fun v12 M13 => oB2 (f_X7_standsAhead N K p3 M13) (fun v15 M16 => cond v15 (oB2 (f_X7_raisedAhead N K p3 M16) (fun v18 M19 => (f_X7_setFloors_78 N K r27 (if (0 : Int32) < ((p2 + (if (if v12 < v9 then v12 else v9) < v6 then (if v12 < v9 then v12 else v9) else v6)) - v18) then ((p2 + (if (if v12 < v9 then v12 else v9) < v6 then (if v12 < v9 then v12 else v9) else v6)) - v18) else (0 : Int32)) p3 M19))) ((f_X7_setFloors_78 N K r27 (p2 + (if (if v12 < v9 then v12 else v9) < v6 then (if v12 < v9 then v12 else v9) else v6)) p3 M16)))))))) (f_X7_setFloors_27 N K  n)
set_option maxRecDepth 20000 in
theorem v_X7_setFloors_27_L {X : oX} {d N : Nat} {K : oK}  (hd : 3 ≤ d) (hK : oSR K)  : ∀ (n : Nat) (p2 : Int32) (p3 : Int32) (M : oM) (v : Unit) (M' : oM)  , f_X7_setFloors_27 N K  n p2 p3 M = some (v, M') → oEv X d J_X7_setFloors 27 [some (.ref 28), none, some (.int p2), some (.int p3)] [] K M none K M' := by
  intro n
  induction n with
  | zero =>
    intro p2 p3 M v M'   h
    cases h
  | succ n hr27 =>
    intro p2 p3 M v M'   h
    refine oe_iload_n (pc := 27) d_X7_setFloors_27 rfl ?_
    refine oe_if_lt (pc := 28) (tgt := 98) d_X7_setFloors_28 (by decide) (fun c5 => ?_) (fun c5 => ?_)
    · replace h := (if_pos c5).symm.trans h
      obtain ⟨rfl, rfl⟩ := oRes h
      exact oe_vret (pc := 98) d_X7_setFloors_98 rfl
    · replace h := (if_neg c5).symm.trans h
      refine oe_iload_n (pc := 31) d_X7_setFloors_31 rfl ?_
      refine oe_aload_n (pc := 32) d_X7_setFloors_32 rfl ?_
      refine oe_iload_n (pc := 33) d_X7_setFloors_33 rfl ?_
      refine oe_iconst (pc := 34) (v := 0) d_X7_setFloors_34 rfl ?_
      obtain ⟨v6, M7, q8, h⟩ := oB2_some h
      refine oe_callV (pc := 35) (ci := 7) d_X7_setFloors_35 (v_X7_drop hK  q8) (by omega) ml_X7_149 jJ_X7_drop rfl rfl (oLt hK (a := 28) (Nat.le_of_ble_eq_true rfl)) (oSho hK (a := 28) (Nat.le_of_ble_eq_true rfl) rfl) ock7 rfl (Nat.le_of_ble_eq_true rfl) ⟨Nat.le_refl _, Nat.le_refl _⟩ ⟨Nat.le_refl _, Nat.le_refl _⟩ ?_
      refine oe_aload_n (pc := 38) d_X7_setFloors_38 rfl ?_
      refine oe_iload_n (pc := 39) d_X7_setFloors_39 rfl ?_
      refine oe_iconst (pc := 40) (v := 1) d_X7_setFloors_40 rfl ?_
      obtain ⟨v9, M10, q11, h⟩ := oB2_some h
      refine oe_callV (pc := 41) (ci := 7) d_X7_setFloors_41 (v_X7_drop hK  q11) (by omega) ml_X7_149 jJ_X7_drop rfl rfl (oLt hK (a := 28) (Nat.le_of_ble_eq_true rfl)) (oSho hK (a := 28) (Nat.le_of_ble_eq_true rfl) rfl) ock7 rfl (Nat.le_of_ble_eq_true rfl) ⟨Nat.le_refl _, Nat.le_refl _⟩ ⟨Nat.le_refl _, Nat.le_refl _⟩ ?_
      refine oe_aload_n (pc := 44) d_X7_setFloors_44 rfl ?_
      refine oe_iload_n (pc := 45) d_X7_setFloors_45 rfl ?_
      refine oe_iconst (pc := 46) (v := 2) d_X7_setFloors_46 rfl ?_
      obtain ⟨v12, M13, q14, h⟩ := oB2_some h
      refine oe_callV (pc := 47) (ci := 7) d_X7_setFloors_47 (v_X7_drop hK  q14) (by omega) ml_X7_149 jJ_X7_drop rfl rfl (oLt hK (a := 28) (Nat.le_of_ble_eq_true rfl)) (oSho hK (a := 28) (Nat.le_of_ble_eq_true rfl) rfl) ock7 rfl (Nat.le_of_ble_eq_true rfl) ⟨Nat.le_refl _, Nat.le_refl _⟩ ⟨Nat.le_refl _, Nat.le_refl _⟩ ?_
      refine oe_mmin (pc := 50) d_X7_setFloors_50 mm_X7_152 (by omega) (Nat.le_of_ble_eq_true rfl) ?_
      refine oe_mmin (pc := 53) d_X7_setFloors_53 mm_X7_152 (by omega) (Nat.le_of_ble_eq_true rfl) ?_
      refine oe_iadd (pc := 56) d_X7_setFloors_56 ?_
      refine oe_istore_n (pc := 57) (L2 := [_, _, _, _]) d_X7_setFloors_57 rfl rfl (Nat.le_of_ble_eq_true rfl) rfl ?_
      refine oe_aload_n (pc := 58) d_X7_setFloors_58 rfl ?_
      refine oe_iload_n (pc := 59) d_X7_setFloors_59 rfl ?_
      obtain ⟨v15, M16, q17, h⟩ := oB2_some h
      cases v15 with
      | true =>
        replace h := oCt h
        refine oe_callV (pc := 60) (ci := 7) d_X7_setFloors_60 (v_X7_standsAhead hK  q17) (by omega) ml_X7_123 jJ_X7_standsAhead rfl rfl (oLt hK (a := 28) (Nat.le_of_ble_eq_true rfl)) (oSho hK (a := 28) (Nat.le_of_ble_eq_true rfl) rfl) ock7 rfl (Nat.le_of_ble_eq_true rfl) ⟨Nat.le_refl _, Nat.le_refl _⟩ ⟨Nat.le_refl _, Nat.le_refl _⟩ ?_
        refine oe_if_eq (pc := 63) (tgt := 78) d_X7_setFloors_63 (by decide) (fun c => absurd c (by decide)) (fun _ => ?_)
        refine oe_iconst (pc := 66) (v := 0) d_X7_setFloors_66 rfl ?_
        refine oe_iload_n (pc := 67) d_X7_setFloors_67 rfl ?_
        refine oe_aload_n (pc := 68) d_X7_setFloors_68 rfl ?_
        refine oe_iload_n (pc := 69) d_X7_setFloors_69 rfl ?_
        obtain ⟨v18, M19, q20, h⟩ := oB2_some h
        refine oe_callV (pc := 70) (ci := 7) d_X7_setFloors_70 (v_X7_raisedAhead hK  q20) (by omega) ml_X7_157 jJ_X7_raisedAhead rfl rfl (oLt hK (a := 28) (Nat.le_of_ble_eq_true rfl)) (oSho hK (a := 28) (Nat.le_of_ble_eq_true rfl) rfl) ock7 rfl (Nat.le_of_ble_eq_true rfl) ⟨Nat.le_refl _, Nat.le_refl _⟩ ⟨Nat.le_refl _, Nat.le_refl _⟩ ?_
        refine oe_isub (pc := 73) d_X7_setFloors_73 ?_
        refine oe_mmax (pc := 74) d_X7_setFloors_74 mm_X7_160 (by omega) (Nat.le_of_ble_eq_true rfl) ?_
        refine oe_istore_n (pc := 77) (L2 := [_, _, _, _]) d_X7_setFloors_77 rfl rfl (Nat.le_of_ble_eq_true rfl) rfl ?_
        exact v_X7_setFloors_78 hd hK  hr27 h
      | false =>
        replace h := oCf h
        refine oe_callV (pc := 60) (ci := 7) d_X7_setFloors_60 (v_X7_standsAhead hK  q17) (by omega) ml_X7_123 jJ_X7_standsAhead rfl rfl (oLt hK (a := 28) (Nat.le_of_ble_eq_true rfl)) (oSho hK (a := 28) (Nat.le_of_ble_eq_true rfl) rfl) ock7 rfl (Nat.le_of_ble_eq_true rfl) ⟨Nat.le_refl _, Nat.le_refl _⟩ ⟨Nat.le_refl _, Nat.le_refl _⟩ ?_
        refine oe_if_eq (pc := 63) (tgt := 78) d_X7_setFloors_63 (by decide) (fun _ => ?_) (fun c => absurd (by decide) c)
        exact v_X7_setFloors_78 hd hK  hr27 h
theorem v_X7_setFloors_27 {X : oX} {d N : Nat} {K : oK}  {p2 : Int32} {p3 : Int32} {M : oM} {v : Unit} {M' : oM}  (hd : 3 ≤ d) (hK : oSR K)   (h : f_X7_setFloors_27 N K  N p2 p3 M = some (v, M')) : oEv X d J_X7_setFloors 27 [some (.ref 28), none, some (.int p2), some (.int p3)] [] K M none K M' := v_X7_setFloors_27_L hd hK  N p2 p3 M v M'   h
def f_X7_setFloors (N : Nat) (K : oK) (p1 : Int32) (M : oM) : Option (Unit × oM) :=
  oB2 (f_X7_behindTub N K (M.1 28 11) p1 M) (fun v1 M2 => oIx ((M2.1 28 11)) 7 ((f_X7_setFloors_27 N K  N v1 (((oUp M2 35 ((M2.1 28 11) : Int32).toNatClampNeg v1).1 28 11) - 1) (oUp M2 35 ((M2.1 28 11) : Int32).toNatClampNeg v1))))
set_option maxRecDepth 20000 in
theorem v_X7_setFloors {X : oX} {N : Nat} {K : oK} {p1 : Int32} {M : oM} {v : Unit} {M' : oM} (hK : oSR K)  (h : f_X7_setFloors N K p1 M = some (v, M')) : oMet X 3 J_X7_setFloors [(.ref 28), (.int p1)] K M none K M' := by
  unfold f_X7_setFloors at h
  refine oMet_of (L := [some (.ref 28), some (.int p1), none, none]) jJ_X7_setFloors.1 rfl (Nat.le_of_ble_eq_true rfl) rfl (Nat.le_refl _) (Nat.le_refl _) ?_
  have hd : 3 ≤ 3 := Nat.le_refl _
  refine oe_aload_n (pc := 0) d_X7_setFloors_0 rfl ?_
  refine oe_aload_n (pc := 1) d_X7_setFloors_1 rfl ?_
  refine oe_getf (pc := 2) d_X7_setFloors_2 fl_X7_52 ock7 (k := 11) (Nat.le_of_ble_eq_true rfl) rfl (oLt hK (a := 28) (Nat.le_of_ble_eq_true rfl)) (oSho hK (a := 28) (Nat.le_of_ble_eq_true rfl) rfl) ?_
  refine oe_iload_n (pc := 5) d_X7_setFloors_5 rfl ?_
  obtain ⟨v1, M2, q3, h⟩ := oB2_some h
  refine oe_callV (pc := 6) (ci := 7) d_X7_setFloors_6 (v_X7_behindTub hK  q3) (by omega) ml_X7_146 jJ_X7_behindTub rfl rfl (oLt hK (a := 28) (Nat.le_of_ble_eq_true rfl)) (oSho hK (a := 28) (Nat.le_of_ble_eq_true rfl) rfl) ock7 rfl (Nat.le_of_ble_eq_true rfl) ⟨Nat.le_refl _, Nat.le_refl _⟩ ⟨Nat.le_refl _, Nat.le_refl _⟩ ?_
  refine oe_istore_n (pc := 9) (L2 := [_, _, _, _]) d_X7_setFloors_9 rfl rfl (Nat.le_of_ble_eq_true rfl) rfl ?_
  refine oe_aload_n (pc := 10) d_X7_setFloors_10 rfl ?_
  refine oe_getr (pc := 11) d_X7_setFloors_11 fl_X7_31 ock7 (k := 8) (b := 35) (Nat.le_of_ble_eq_true rfl) (by decide) (oLt hK (a := 28) (Nat.le_of_ble_eq_true rfl)) (oSho hK (a := 28) (Nat.le_of_ble_eq_true rfl) rfl) (oRfK hK rfl) ?_
  refine oe_aload_n (pc := 14) d_X7_setFloors_14 rfl ?_
  refine oe_getf (pc := 15) d_X7_setFloors_15 fl_X7_52 ock7 (k := 11) (Nat.le_of_ble_eq_true rfl) rfl (oLt hK (a := 28) (Nat.le_of_ble_eq_true rfl)) (oSho hK (a := 28) (Nat.le_of_ble_eq_true rfl) rfl) ?_
  refine oe_iload_n (pc := 18) d_X7_setFloors_18 rfl ?_
  obtain ⟨i4, h⟩ := oIx_some h
  refine oe_iast (pc := 19) d_X7_setFloors_19 (oLt hK (a := 35) (Nat.le_of_ble_eq_true rfl)) (oSha hK (a := 35) (Nat.le_of_ble_eq_true rfl) rfl) i4 ?_
  refine oe_aload_n (pc := 20) d_X7_setFloors_20 rfl ?_
  refine oe_getf (pc := 21) d_X7_setFloors_21 fl_X7_52 ock7 (k := 11) (Nat.le_of_ble_eq_true rfl) rfl (oLt hK (a := 28) (Nat.le_of_ble_eq_true rfl)) (oSho hK (a := 28) (Nat.le_of_ble_eq_true rfl) rfl) ?_
  refine oe_iconst (pc := 24) (v := 1) d_X7_setFloors_24 rfl ?_
  refine oe_isub (pc := 25) d_X7_setFloors_25 ?_
  refine oe_istore_n (pc := 26) (L2 := [_, _, _, _]) d_X7_setFloors_26 rfl rfl (Nat.le_of_ble_eq_true rfl) rfl ?_
  refine oEv.fg [true, false, true, true] ?_
  exact v_X7_setFloors_27 hd hK   h
