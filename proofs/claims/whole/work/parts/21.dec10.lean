/-! walked by program: X11_share, X11_thing, X11_cart, X11_unthing, X11_old, X11_undo, X11_redo, X11_act, X11_trace, X11_put, X11_element, X11_shift -/
theorem d_X11_share_0 : decode J_X11_share.2.1 0 = .ok (.aload_n 0, 1) := by decide +kernel
theorem d_X11_share_1 : decode J_X11_share.2.1 1 = .ok (.iload_n 1, 1) := by decide +kernel
theorem d_X11_share_2 : decode J_X11_share.2.1 2 = .ok (.bipush 100, 2) := by decide +kernel
theorem d_X11_share_4 : decode J_X11_share.2.1 4 = .ok (.idiv, 1) := by decide +kernel
theorem d_X11_share_5 : decode J_X11_share.2.1 5 = .ok (.invokevirtual 148, 3) := by decide +kernel
theorem d_X11_share_8 : decode J_X11_share.2.1 8 = .ok (.astore 5, 2) := by decide +kernel
theorem d_X11_share_10 : decode J_X11_share.2.1 10 = .ok (.aload_n 0, 1) := by decide +kernel
theorem d_X11_share_11 : decode J_X11_share.2.1 11 = .ok (.iload_n 1, 1) := by decide +kernel
theorem d_X11_share_12 : decode J_X11_share.2.1 12 = .ok (.bipush 100, 2) := by decide +kernel
theorem d_X11_share_14 : decode J_X11_share.2.1 14 = .ok (.irem, 1) := by decide +kernel
theorem d_X11_share_15 : decode J_X11_share.2.1 15 = .ok (.invokevirtual 148, 3) := by decide +kernel
theorem d_X11_share_18 : decode J_X11_share.2.1 18 = .ok (.astore 6, 2) := by decide +kernel
theorem d_X11_share_20 : decode J_X11_share.2.1 20 = .ok (.iload_n 1, 1) := by decide +kernel
theorem d_X11_share_21 : decode J_X11_share.2.1 21 = .ok (.ifCond .lt 20, 3) := by decide +kernel
theorem d_X11_share_24 : decode J_X11_share.2.1 24 = .ok (.aload 5, 2) := by decide +kernel
theorem d_X11_share_26 : decode J_X11_share.2.1 26 = .ok (.ifnull 15, 3) := by decide +kernel
theorem d_X11_share_29 : decode J_X11_share.2.1 29 = .ok (.aload 6, 2) := by decide +kernel
theorem d_X11_share_31 : decode J_X11_share.2.1 31 = .ok (.ifnull 10, 3) := by decide +kernel
theorem d_X11_share_34 : decode J_X11_share.2.1 34 = .ok (.aload 5, 2) := by decide +kernel
theorem d_X11_share_36 : decode J_X11_share.2.1 36 = .ok (.aload 6, 2) := by decide +kernel
theorem d_X11_share_38 : decode J_X11_share.2.1 38 = .ok (.if_acmp .ne 5, 3) := by decide +kernel
theorem d_X11_share_41 : decode J_X11_share.2.1 41 = .ok (.iconst (-1), 1) := by decide +kernel
theorem d_X11_share_42 : decode J_X11_share.2.1 42 = .ok (.ireturn, 1) := by decide +kernel
theorem d_X11_share_43 : decode J_X11_share.2.1 43 = .ok (.iload_n 2, 1) := by decide +kernel
theorem d_X11_share_44 : decode J_X11_share.2.1 44 = .ok (.invokestatic 199, 3) := by decide +kernel
theorem d_X11_share_47 : decode J_X11_share.2.1 47 = .ok (.ifCond .eq 24, 3) := by decide +kernel
theorem d_X11_share_50 : decode J_X11_share.2.1 50 = .ok (.iload_n 3, 1) := by decide +kernel
theorem d_X11_share_51 : decode J_X11_share.2.1 51 = .ok (.iconst 0, 1) := by decide +kernel
theorem d_X11_share_52 : decode J_X11_share.2.1 52 = .ok (.sipush 600, 3) := by decide +kernel
theorem d_X11_share_55 : decode J_X11_share.2.1 55 = .ok (.invokestatic 89, 3) := by decide +kernel
theorem d_X11_share_58 : decode J_X11_share.2.1 58 = .ok (.ifCond .eq 13, 3) := by decide +kernel
theorem d_X11_share_61 : decode J_X11_share.2.1 61 = .ok (.iload 4, 2) := by decide +kernel
theorem d_X11_share_63 : decode J_X11_share.2.1 63 = .ok (.iconst 0, 1) := by decide +kernel
theorem d_X11_share_64 : decode J_X11_share.2.1 64 = .ok (.iconst 1, 1) := by decide +kernel
theorem d_X11_share_65 : decode J_X11_share.2.1 65 = .ok (.invokestatic 89, 3) := by decide +kernel
theorem d_X11_share_68 : decode J_X11_share.2.1 68 = .ok (.ifCond .ne 5, 3) := by decide +kernel
theorem d_X11_share_71 : decode J_X11_share.2.1 71 = .ok (.iconst (-1), 1) := by decide +kernel
theorem d_X11_share_72 : decode J_X11_share.2.1 72 = .ok (.ireturn, 1) := by decide +kernel
theorem d_X11_share_73 : decode J_X11_share.2.1 73 = .ok (.iconst 0, 1) := by decide +kernel
theorem d_X11_share_74 : decode J_X11_share.2.1 74 = .ok (.aload_n 0, 1) := by decide +kernel
theorem d_X11_share_75 : decode J_X11_share.2.1 75 = .ok (.aload 5, 2) := by decide +kernel
theorem d_X11_share_77 : decode J_X11_share.2.1 77 = .ok (.iload_n 2, 1) := by decide +kernel
theorem d_X11_share_78 : decode J_X11_share.2.1 78 = .ok (.iconst 0, 1) := by decide +kernel
theorem d_X11_share_79 : decode J_X11_share.2.1 79 = .ok (.iconst 0, 1) := by decide +kernel
theorem d_X11_share_80 : decode J_X11_share.2.1 80 = .ok (.invokevirtual 202, 3) := by decide +kernel
theorem d_X11_share_83 : decode J_X11_share.2.1 83 = .ok (.invokestatic 225, 3) := by decide +kernel
theorem d_X11_share_86 : decode J_X11_share.2.1 86 = .ok (.istore 7, 2) := by decide +kernel
theorem d_X11_share_88 : decode J_X11_share.2.1 88 = .ok (.iconst 0, 1) := by decide +kernel
theorem d_X11_share_89 : decode J_X11_share.2.1 89 = .ok (.aload_n 0, 1) := by decide +kernel
theorem d_X11_share_90 : decode J_X11_share.2.1 90 = .ok (.aload 6, 2) := by decide +kernel
theorem d_X11_share_92 : decode J_X11_share.2.1 92 = .ok (.iload_n 2, 1) := by decide +kernel
theorem d_X11_share_93 : decode J_X11_share.2.1 93 = .ok (.iconst 0, 1) := by decide +kernel
theorem d_X11_share_94 : decode J_X11_share.2.1 94 = .ok (.iconst 0, 1) := by decide +kernel
theorem d_X11_share_95 : decode J_X11_share.2.1 95 = .ok (.invokevirtual 202, 3) := by decide +kernel
theorem d_X11_share_98 : decode J_X11_share.2.1 98 = .ok (.invokestatic 225, 3) := by decide +kernel
theorem d_X11_share_101 : decode J_X11_share.2.1 101 = .ok (.istore 8, 2) := by decide +kernel
theorem d_X11_share_103 : decode J_X11_share.2.1 103 = .ok (.iload_n 3, 1) := by decide +kernel
theorem d_X11_share_104 : decode J_X11_share.2.1 104 = .ok (.iconst 2, 1) := by decide +kernel
theorem d_X11_share_105 : decode J_X11_share.2.1 105 = .ok (.idiv, 1) := by decide +kernel
theorem d_X11_share_106 : decode J_X11_share.2.1 106 = .ok (.iload 7, 2) := by decide +kernel
theorem d_X11_share_108 : decode J_X11_share.2.1 108 = .ok (.iload 8, 2) := by decide +kernel
theorem d_X11_share_110 : decode J_X11_share.2.1 110 = .ok (.invokestatic 267, 3) := by decide +kernel
theorem d_X11_share_113 : decode J_X11_share.2.1 113 = .ok (.invokestatic 267, 3) := by decide +kernel
theorem d_X11_share_116 : decode J_X11_share.2.1 116 = .ok (.istore 9, 2) := by decide +kernel
theorem d_X11_share_118 : decode J_X11_share.2.1 118 = .ok (.iload_n 3, 1) := by decide +kernel
theorem d_X11_share_119 : decode J_X11_share.2.1 119 = .ok (.iload 7, 2) := by decide +kernel
theorem d_X11_share_121 : decode J_X11_share.2.1 121 = .ok (.iload 8, 2) := by decide +kernel
theorem d_X11_share_123 : decode J_X11_share.2.1 123 = .ok (.iadd, 1) := by decide +kernel
theorem d_X11_share_124 : decode J_X11_share.2.1 124 = .ok (.invokestatic 267, 3) := by decide +kernel
theorem d_X11_share_127 : decode J_X11_share.2.1 127 = .ok (.istore 10, 2) := by decide +kernel
theorem d_X11_share_129 : decode J_X11_share.2.1 129 = .ok (.iload 7, 2) := by decide +kernel
theorem d_X11_share_131 : decode J_X11_share.2.1 131 = .ok (.iload 10, 2) := by decide +kernel
theorem d_X11_share_133 : decode J_X11_share.2.1 133 = .ok (.iload 9, 2) := by decide +kernel
theorem d_X11_share_135 : decode J_X11_share.2.1 135 = .ok (.isub, 1) := by decide +kernel
theorem d_X11_share_136 : decode J_X11_share.2.1 136 = .ok (.invokestatic 267, 3) := by decide +kernel
theorem d_X11_share_139 : decode J_X11_share.2.1 139 = .ok (.istore 11, 2) := by decide +kernel
theorem d_X11_share_141 : decode J_X11_share.2.1 141 = .ok (.iload 4, 2) := by decide +kernel
theorem d_X11_share_143 : decode J_X11_share.2.1 143 = .ok (.ifCond .ne 8, 3) := by decide +kernel
theorem d_X11_share_146 : decode J_X11_share.2.1 146 = .ok (.iload 11, 2) := by decide +kernel
theorem d_X11_share_148 : decode J_X11_share.2.1 148 = .ok (.goto 8, 3) := by decide +kernel
theorem d_X11_share_151 : decode J_X11_share.2.1 151 = .ok (.iload 10, 2) := by decide +kernel
theorem d_X11_share_153 : decode J_X11_share.2.1 153 = .ok (.iload 11, 2) := by decide +kernel
theorem d_X11_share_155 : decode J_X11_share.2.1 155 = .ok (.isub, 1) := by decide +kernel
theorem d_X11_share_156 : decode J_X11_share.2.1 156 = .ok (.ireturn, 1) := by decide +kernel
def f_X11_share (N : Nat) (K : oK) (p1 : Int32) (p2 : Int32) (p3 : Int32) (p4 : Int32) (M : oM) : Option (Int32 × oM) :=
  oB2 (f_X11_layingAt N K (p1 / 100) M) (fun v1 M2 => oCs v1 (oB2 (f_X11_layingAt N K (p1 - p1 / 100 * 100) M2) (fun v5 M6 => oCs v5 ((if p1 < 0 then some ((-1), M6) else some ((-1), M6))) (fun h8 => (if p1 < 0 then some ((-1), M6) else some ((-1), M6))))) (fun h4 => oB2 (f_X11_layingAt N K (p1 - p1 / 100 * 100) M2) (fun v11 M12 => oCs v11 ((if p1 < 0 then some ((-1), M12) else some ((-1), M12))) (fun h14 => (if p1 < 0 then some ((-1), M12) else (if h4 = h14 then some ((-1), M12) else oB2 (f_X11_isNeed N K p2 M12) (fun v18 M19 => cond v18 (oB2 (f_X11_within N K p3 (0 : Int32) (600 : Int32) M19) (fun v21 M22 => cond v21 (oB2 (f_X11_within N K p4 (0 : Int32) (1 : Int32) M22) (fun v24 M25 => cond v24 (oB2 (f_X11_flowWith N K h4 p2 (0 : Int32) (0 : Int32) M25) (fun v27 M28 => oB2 (f_X11_flowWith N K h14 p2 (0 : Int32) (0 : Int32) M28) (fun v30 M31 => (if p4 = 0 then some ((if ((if ((if (0 : Int32) < v27 then v27 else (0 : Int32)) + (if (0 : Int32) < v30 then v30 else (0 : Int32))) < p3 then ((if (0 : Int32) < v27 then v27 else (0 : Int32)) + (if (0 : Int32) < v30 then v30 else (0 : Int32))) else p3) - (if (if (if (0 : Int32) < v30 then v30 else (0 : Int32)) < (if (0 : Int32) < v27 then v27 else (0 : Int32)) then (if (0 : Int32) < v30 then v30 else (0 : Int32)) else (if (0 : Int32) < v27 then v27 else (0 : Int32))) < (p3 / 2) then (if (if (0 : Int32) < v30 then v30 else (0 : Int32)) < (if (0 : Int32) < v27 then v27 else (0 : Int32)) then (if (0 : Int32) < v30 then v30 else (0 : Int32)) else (if (0 : Int32) < v27 then v27 else (0 : Int32))) else (p3 / 2))) < (if (0 : Int32) < v27 then v27 else (0 : Int32)) then ((if ((if (0 : Int32) < v27 then v27 else (0 : Int32)) + (if (0 : Int32) < v30 then v30 else (0 : Int32))) < p3 then ((if (0 : Int32) < v27 then v27 else (0 : Int32)) + (if (0 : Int32) < v30 then v30 else (0 : Int32))) else p3) - (if (if (if (0 : Int32) < v30 then v30 else (0 : Int32)) < (if (0 : Int32) < v27 then v27 else (0 : Int32)) then (if (0 : Int32) < v30 then v30 else (0 : Int32)) else (if (0 : Int32) < v27 then v27 else (0 : Int32))) < (p3 / 2) then (if (if (0 : Int32) < v30 then v30 else (0 : Int32)) < (if (0 : Int32) < v27 then v27 else (0 : Int32)) then (if (0 : Int32) < v30 then v30 else (0 : Int32)) else (if (0 : Int32) < v27 then v27 else (0 : Int32))) else (p3 / 2))) else (if (0 : Int32) < v27 then v27 else (0 : Int32))), M31) else some (((if ((if (0 : Int32) < v27 then v27 else (0 : Int32)) + (if (0 : Int32) < v30 then v30 else (0 : Int32))) < p3 then ((if (0 : Int32) < v27 then v27 else (0 : Int32)) + (if (0 : Int32) < v30 then v30 else (0 : Int32))) else p3) - (if ((if ((if (0 : Int32) < v27 then v27 else (0 : Int32)) + (if (0 : Int32) < v30 then v30 else (0 : Int32))) < p3 then ((if (0 : Int32) < v27 then v27 else (0 : Int32)) + (if (0 : Int32) < v30 then v30 else (0 : Int32))) else p3) - (if (if (if (0 : Int32) < v30 then v30 else (0 : Int32)) < (if (0 : Int32) < v27 then v27 else (0 : Int32)) then (if (0 : Int32) < v30 then v30 else (0 : Int32)) else (if (0 : Int32) < v27 then v27 else (0 : Int32))) < (p3 / 2) then (if (if (0 : Int32) < v30 then v30 else (0 : Int32)) < (if (0 : Int32) < v27 then v27 else (0 : Int32)) then (if (0 : Int32) < v30 then v30 else (0 : Int32)) else (if (0 : Int32) < v27 then v27 else (0 : Int32))) else (p3 / 2))) < (if (0 : Int32) < v27 then v27 else (0 : Int32)) then ((if ((if (0 : Int32) < v27 then v27 else (0 : Int32)) + (if (0 : Int32) < v30 then v30 else (0 : Int32))) < p3 then ((if (0 : Int32) < v27 then v27 else (0 : Int32)) + (if (0 : Int32) < v30 then v30 else (0 : Int32))) else p3) - (if (if (if (0 : Int32) < v30 then v30 else (0 : Int32)) < (if (0 : Int32) < v27 then v27 else (0 : Int32)) then (if (0 : Int32) < v30 then v30 else (0 : Int32)) else (if (0 : Int32) < v27 then v27 else (0 : Int32))) < (p3 / 2) then (if (if (0 : Int32) < v30 then v30 else (0 : Int32)) < (if (0 : Int32) < v27 then v27 else (0 : Int32)) then (if (0 : Int32) < v30 then v30 else (0 : Int32)) else (if (0 : Int32) < v27 then v27 else (0 : Int32))) else (p3 / 2))) else (if (0 : Int32) < v27 then v27 else (0 : Int32)))), M31))))) (some ((-1), M25)))) (some ((-1), M22)))) (some ((-1), M19)))))))))
set_option maxRecDepth 20000 in
theorem v_X11_share {X : oX} {N : Nat} {K : oK} {p1 : Int32} {p2 : Int32} {p3 : Int32} {p4 : Int32} {M : oM} {v : Int32} {M' : oM} (hK : oSR K)  (h : f_X11_share N K p1 p2 p3 p4 M = some (v, M')) : oMet X 7 J_X11_share [(.ref 0), (.int p1), (.int p2), (.int p3), (.int p4)] K M (some (.int v)) K M' := by
  unfold f_X11_share at h
  refine oMet_of (L := [some (.ref 0), some (.int p1), some (.int p2), some (.int p3), some (.int p4), none, none, none, none, none, none, none]) jJ_X11_share.1 rfl (Nat.le_of_ble_eq_true rfl) rfl (Nat.le_refl _) (Nat.le_refl _) ?_
  have hd : 7 ≤ 7 := Nat.le_refl _
  refine oe_aload_n (pc := 0) d_X11_share_0 rfl ?_
  refine oe_iload_n (pc := 1) d_X11_share_1 rfl ?_
  refine oe_bipush (pc := 2) (v := 100) d_X11_share_2 rfl ?_
  refine oe_idiv (pc := 4) d_X11_share_4 (by decide) ?_
  obtain ⟨v1, M2, q3, h⟩ := oB2_some h
  cases v1 with
  | none =>
    replace h := oCsN h
    refine oe_callV (pc := 5) (ci := 11) d_X11_share_5 (v_X11_layingAt hK  q3) (by omega) ml_X11_148 jJ_X11_layingAt rfl rfl (oLt hK (a := 0) (Nat.le_of_ble_eq_true rfl)) (oSho hK (a := 0) (Nat.le_of_ble_eq_true rfl) rfl) ock11 rfl (Nat.le_of_ble_eq_true rfl) ⟨Nat.le_refl _, Nat.le_refl _⟩ ⟨Nat.le_refl _, Nat.le_refl _⟩ ?_
    refine oe_astoreN (pc := 8) (L2 := [_, _, _, _, _, _, _, _, _, _, _, _]) d_X11_share_8 rfl (Nat.le_of_ble_eq_true rfl) rfl ?_
    refine oe_aload_n (pc := 10) d_X11_share_10 rfl ?_
    refine oe_iload_n (pc := 11) d_X11_share_11 rfl ?_
    refine oe_bipush (pc := 12) (v := 100) d_X11_share_12 rfl ?_
    refine oe_irem (pc := 14) d_X11_share_14 (by decide) ?_
    obtain ⟨v5, M6, q7, h⟩ := oB2_some h
    cases v5 with
    | none =>
      replace h := oCsN h
      refine oe_callV (pc := 15) (ci := 11) d_X11_share_15 (v_X11_layingAt hK  q7) (by omega) ml_X11_148 jJ_X11_layingAt rfl rfl (oLt hK (a := 0) (Nat.le_of_ble_eq_true rfl)) (oSho hK (a := 0) (Nat.le_of_ble_eq_true rfl) rfl) ock11 rfl (Nat.le_of_ble_eq_true rfl) ⟨Nat.le_refl _, Nat.le_refl _⟩ ⟨Nat.le_refl _, Nat.le_refl _⟩ ?_
      refine oe_astoreN (pc := 18) (L2 := [_, _, _, _, _, _, _, _, _, _, _, _]) d_X11_share_18 rfl (Nat.le_of_ble_eq_true rfl) rfl ?_
      refine oe_iload_n (pc := 20) d_X11_share_20 rfl ?_
      refine oe_if_lt (pc := 21) (tgt := 41) d_X11_share_21 (by decide) (fun c9 => ?_) (fun c9 => ?_)
      · replace h := (if_pos c9).symm.trans h
        refine oe_iconst (pc := 41) (v := (-1)) d_X11_share_41 rfl ?_
        obtain ⟨rfl, rfl⟩ := oRes h
        exact oe_iret (pc := 42) d_X11_share_42 ⟨_, rfl, rfl⟩
      · replace h := (if_neg c9).symm.trans h
        refine oe_aloadN (pc := 24) d_X11_share_24 rfl ?_
        refine oe_ifnullN (pc := 26) (tgt := 41) d_X11_share_26 (by decide) ?_
        refine oe_iconst (pc := 41) (v := (-1)) d_X11_share_41 rfl ?_
        obtain ⟨rfl, rfl⟩ := oRes h
        exact oe_iret (pc := 42) d_X11_share_42 ⟨_, rfl, rfl⟩
    | some h8 =>
      replace h := oCsS h
      have hh_h8 : oLS K h8 := o_X11_layingAt_ok hK q7
      refine oe_callV (pc := 15) (ci := 11) d_X11_share_15 (v_X11_layingAt hK  q7) (by omega) ml_X11_148 jJ_X11_layingAt rfl rfl (oLt hK (a := 0) (Nat.le_of_ble_eq_true rfl)) (oSho hK (a := 0) (Nat.le_of_ble_eq_true rfl) rfl) ock11 rfl (Nat.le_of_ble_eq_true rfl) ⟨Nat.le_refl _, Nat.le_refl _⟩ ⟨Nat.le_refl _, Nat.le_refl _⟩ ?_
      refine oe_astore (pc := 18) (L2 := [_, _, _, _, _, _, _, _, _, _, _, _]) d_X11_share_18 rfl (Nat.le_of_ble_eq_true rfl) rfl ?_
      refine oe_iload_n (pc := 20) d_X11_share_20 rfl ?_
      refine oe_if_lt (pc := 21) (tgt := 41) d_X11_share_21 (by decide) (fun c10 => ?_) (fun c10 => ?_)
      · replace h := (if_pos c10).symm.trans h
        refine oe_iconst (pc := 41) (v := (-1)) d_X11_share_41 rfl ?_
        obtain ⟨rfl, rfl⟩ := oRes h
        exact oe_iret (pc := 42) d_X11_share_42 ⟨_, rfl, rfl⟩
      · replace h := (if_neg c10).symm.trans h
        refine oe_aloadN (pc := 24) d_X11_share_24 rfl ?_
        refine oe_ifnullN (pc := 26) (tgt := 41) d_X11_share_26 (by decide) ?_
        refine oe_iconst (pc := 41) (v := (-1)) d_X11_share_41 rfl ?_
        obtain ⟨rfl, rfl⟩ := oRes h
        exact oe_iret (pc := 42) d_X11_share_42 ⟨_, rfl, rfl⟩
  | some h4 =>
    replace h := oCsS h
    have hh_h4 : oLS K h4 := o_X11_layingAt_ok hK q3
    refine oe_callV (pc := 5) (ci := 11) d_X11_share_5 (v_X11_layingAt hK  q3) (by omega) ml_X11_148 jJ_X11_layingAt rfl rfl (oLt hK (a := 0) (Nat.le_of_ble_eq_true rfl)) (oSho hK (a := 0) (Nat.le_of_ble_eq_true rfl) rfl) ock11 rfl (Nat.le_of_ble_eq_true rfl) ⟨Nat.le_refl _, Nat.le_refl _⟩ ⟨Nat.le_refl _, Nat.le_refl _⟩ ?_
    refine oe_astore (pc := 8) (L2 := [_, _, _, _, _, _, _, _, _, _, _, _]) d_X11_share_8 rfl (Nat.le_of_ble_eq_true rfl) rfl ?_
    refine oe_aload_n (pc := 10) d_X11_share_10 rfl ?_
    refine oe_iload_n (pc := 11) d_X11_share_11 rfl ?_
    refine oe_bipush (pc := 12) (v := 100) d_X11_share_12 rfl ?_
    refine oe_irem (pc := 14) d_X11_share_14 (by decide) ?_
    obtain ⟨v11, M12, q13, h⟩ := oB2_some h
    cases v11 with
    | none =>
      replace h := oCsN h
      refine oe_callV (pc := 15) (ci := 11) d_X11_share_15 (v_X11_layingAt hK  q13) (by omega) ml_X11_148 jJ_X11_layingAt rfl rfl (oLt hK (a := 0) (Nat.le_of_ble_eq_true rfl)) (oSho hK (a := 0) (Nat.le_of_ble_eq_true rfl) rfl) ock11 rfl (Nat.le_of_ble_eq_true rfl) ⟨Nat.le_refl _, Nat.le_refl _⟩ ⟨Nat.le_refl _, Nat.le_refl _⟩ ?_
      refine oe_astoreN (pc := 18) (L2 := [_, _, _, _, _, _, _, _, _, _, _, _]) d_X11_share_18 rfl (Nat.le_of_ble_eq_true rfl) rfl ?_
      refine oe_iload_n (pc := 20) d_X11_share_20 rfl ?_
      refine oe_if_lt (pc := 21) (tgt := 41) d_X11_share_21 (by decide) (fun c15 => ?_) (fun c15 => ?_)
      · replace h := (if_pos c15).symm.trans h
        refine oe_iconst (pc := 41) (v := (-1)) d_X11_share_41 rfl ?_
        obtain ⟨rfl, rfl⟩ := oRes h
        exact oe_iret (pc := 42) d_X11_share_42 ⟨_, rfl, rfl⟩
      · replace h := (if_neg c15).symm.trans h
        refine oe_aload (pc := 24) d_X11_share_24 rfl ?_
        refine oe_ifnull (pc := 26) d_X11_share_26 ?_
        refine oe_aloadN (pc := 29) d_X11_share_29 rfl ?_
        refine oe_ifnullN (pc := 31) (tgt := 41) d_X11_share_31 (by decide) ?_
        refine oe_iconst (pc := 41) (v := (-1)) d_X11_share_41 rfl ?_
        obtain ⟨rfl, rfl⟩ := oRes h
        exact oe_iret (pc := 42) d_X11_share_42 ⟨_, rfl, rfl⟩
    | some h14 =>
      replace h := oCsS h
      have hh_h14 : oLS K h14 := o_X11_layingAt_ok hK q13
      refine oe_callV (pc := 15) (ci := 11) d_X11_share_15 (v_X11_layingAt hK  q13) (by omega) ml_X11_148 jJ_X11_layingAt rfl rfl (oLt hK (a := 0) (Nat.le_of_ble_eq_true rfl)) (oSho hK (a := 0) (Nat.le_of_ble_eq_true rfl) rfl) ock11 rfl (Nat.le_of_ble_eq_true rfl) ⟨Nat.le_refl _, Nat.le_refl _⟩ ⟨Nat.le_refl _, Nat.le_refl _⟩ ?_
      refine oe_astore (pc := 18) (L2 := [_, _, _, _, _, _, _, _, _, _, _, _]) d_X11_share_18 rfl (Nat.le_of_ble_eq_true rfl) rfl ?_
      refine oe_iload_n (pc := 20) d_X11_share_20 rfl ?_
      refine oe_if_lt (pc := 21) (tgt := 41) d_X11_share_21 (by decide) (fun c16 => ?_) (fun c16 => ?_)
      · replace h := (if_pos c16).symm.trans h
        refine oe_iconst (pc := 41) (v := (-1)) d_X11_share_41 rfl ?_
        obtain ⟨rfl, rfl⟩ := oRes h
        exact oe_iret (pc := 42) d_X11_share_42 ⟨_, rfl, rfl⟩
      · replace h := (if_neg c16).symm.trans h
        refine oe_aload (pc := 24) d_X11_share_24 rfl ?_
        refine oe_ifnull (pc := 26) d_X11_share_26 ?_
        refine oe_aload (pc := 29) d_X11_share_29 rfl ?_
        refine oe_ifnull (pc := 31) d_X11_share_31 ?_
        refine oe_aload (pc := 34) d_X11_share_34 rfl ?_
        refine oe_aload (pc := 36) d_X11_share_36 rfl ?_
        refine oe_acmp_ne (pc := 38) (tgt := 43) d_X11_share_38 (by decide) (oSml hK (oLSa hh_h4 (j := 0) (Nat.le_of_ble_eq_true rfl))) (oSml hK (oLSa hh_h14 (j := 0) (Nat.le_of_ble_eq_true rfl))) (fun c17 => ?_) (fun c17 => ?_)
        · replace h := (if_neg c17).symm.trans h
          refine oe_iload_n (pc := 43) d_X11_share_43 rfl ?_
          obtain ⟨v18, M19, q20, h⟩ := oB2_some h
          cases v18 with
          | true =>
            replace h := oCt h
            refine oe_callS (pc := 44) d_X11_share_44 (v_X11_isNeed hK  q20) (by omega) ml_X11_199 jJ_X11_isNeed rfl rfl (Nat.le_of_ble_eq_true rfl) ⟨Nat.le_refl _, Nat.le_refl _⟩ ⟨Nat.le_refl _, Nat.le_refl _⟩ ?_
            refine oe_if_eq (pc := 47) (tgt := 71) d_X11_share_47 (by decide) (fun c => absurd c (by decide)) (fun _ => ?_)
            refine oe_iload_n (pc := 50) d_X11_share_50 rfl ?_
            refine oe_iconst (pc := 51) (v := 0) d_X11_share_51 rfl ?_
            refine oe_sipush (pc := 52) (v := 600) d_X11_share_52 rfl ?_
            obtain ⟨v21, M22, q23, h⟩ := oB2_some h
            cases v21 with
            | true =>
              replace h := oCt h
              refine oe_callS (pc := 55) d_X11_share_55 (v_X11_within hK  q23) (by omega) ml_X11_89 jJ_X11_within rfl rfl (Nat.le_of_ble_eq_true rfl) ⟨Nat.le_refl _, Nat.le_refl _⟩ ⟨Nat.le_refl _, Nat.le_refl _⟩ ?_
              refine oe_if_eq (pc := 58) (tgt := 71) d_X11_share_58 (by decide) (fun c => absurd c (by decide)) (fun _ => ?_)
              refine oe_iload (pc := 61) d_X11_share_61 rfl ?_
              refine oe_iconst (pc := 63) (v := 0) d_X11_share_63 rfl ?_
              refine oe_iconst (pc := 64) (v := 1) d_X11_share_64 rfl ?_
              obtain ⟨v24, M25, q26, h⟩ := oB2_some h
              cases v24 with
              | true =>
                replace h := oCt h
                refine oe_callS (pc := 65) d_X11_share_65 (v_X11_within hK  q26) (by omega) ml_X11_89 jJ_X11_within rfl rfl (Nat.le_of_ble_eq_true rfl) ⟨Nat.le_refl _, Nat.le_refl _⟩ ⟨Nat.le_refl _, Nat.le_refl _⟩ ?_
                refine oe_if_ne (pc := 68) (tgt := 73) d_X11_share_68 (by decide) (fun _ => ?_) (fun c => absurd c (by decide))
                refine oe_iconst (pc := 73) (v := 0) d_X11_share_73 rfl ?_
                refine oe_aload_n (pc := 74) d_X11_share_74 rfl ?_
                refine oe_aload (pc := 75) d_X11_share_75 rfl ?_
                refine oe_iload_n (pc := 77) d_X11_share_77 rfl ?_
                refine oe_iconst (pc := 78) (v := 0) d_X11_share_78 rfl ?_
                refine oe_iconst (pc := 79) (v := 0) d_X11_share_79 rfl ?_
                obtain ⟨v27, M28, q29, h⟩ := oB2_some h
                refine oe_callV (pc := 80) (ci := 11) d_X11_share_80 (v_X11_flowWith hK hh_h4 q29) (by omega) ml_X11_202 jJ_X11_flowWith rfl rfl (oLt hK (a := 0) (Nat.le_of_ble_eq_true rfl)) (oSho hK (a := 0) (Nat.le_of_ble_eq_true rfl) rfl) ock11 rfl (Nat.le_of_ble_eq_true rfl) ⟨Nat.le_refl _, Nat.le_refl _⟩ ⟨Nat.le_refl _, Nat.le_refl _⟩ ?_
                refine oe_mmax (pc := 83) d_X11_share_83 mm_X11_225 (by omega) (Nat.le_of_ble_eq_true rfl) ?_
                refine oe_istore (pc := 86) (L2 := [_, _, _, _, _, _, _, _, _, _, _, _]) d_X11_share_86 rfl (Nat.le_of_ble_eq_true rfl) rfl ?_
                refine oe_iconst (pc := 88) (v := 0) d_X11_share_88 rfl ?_
                refine oe_aload_n (pc := 89) d_X11_share_89 rfl ?_
                refine oe_aload (pc := 90) d_X11_share_90 rfl ?_
                refine oe_iload_n (pc := 92) d_X11_share_92 rfl ?_
                refine oe_iconst (pc := 93) (v := 0) d_X11_share_93 rfl ?_
                refine oe_iconst (pc := 94) (v := 0) d_X11_share_94 rfl ?_
                obtain ⟨v30, M31, q32, h⟩ := oB2_some h
                refine oe_callV (pc := 95) (ci := 11) d_X11_share_95 (v_X11_flowWith hK hh_h14 q32) (by omega) ml_X11_202 jJ_X11_flowWith rfl rfl (oLt hK (a := 0) (Nat.le_of_ble_eq_true rfl)) (oSho hK (a := 0) (Nat.le_of_ble_eq_true rfl) rfl) ock11 rfl (Nat.le_of_ble_eq_true rfl) ⟨Nat.le_refl _, Nat.le_refl _⟩ ⟨Nat.le_refl _, Nat.le_refl _⟩ ?_
                refine oe_mmax (pc := 98) d_X11_share_98 mm_X11_225 (by omega) (Nat.le_of_ble_eq_true rfl) ?_
                refine oe_istore (pc := 101) (L2 := [_, _, _, _, _, _, _, _, _, _, _, _]) d_X11_share_101 rfl (Nat.le_of_ble_eq_true rfl) rfl ?_
                refine oe_iload_n (pc := 103) d_X11_share_103 rfl ?_
                refine oe_iconst (pc := 104) (v := 2) d_X11_share_104 rfl ?_
                refine oe_idiv (pc := 105) d_X11_share_105 (by decide) ?_
                refine oe_iload (pc := 106) d_X11_share_106 rfl ?_
                refine oe_iload (pc := 108) d_X11_share_108 rfl ?_
                refine oe_mmin (pc := 110) d_X11_share_110 mm_X11_267 (by omega) (Nat.le_of_ble_eq_true rfl) ?_
                refine oe_mmin (pc := 113) d_X11_share_113 mm_X11_267 (by omega) (Nat.le_of_ble_eq_true rfl) ?_
                refine oe_istore (pc := 116) (L2 := [_, _, _, _, _, _, _, _, _, _, _, _]) d_X11_share_116 rfl (Nat.le_of_ble_eq_true rfl) rfl ?_
                refine oe_iload_n (pc := 118) d_X11_share_118 rfl ?_
                refine oe_iload (pc := 119) d_X11_share_119 rfl ?_
                refine oe_iload (pc := 121) d_X11_share_121 rfl ?_
                refine oe_iadd (pc := 123) d_X11_share_123 ?_
                refine oe_mmin (pc := 124) d_X11_share_124 mm_X11_267 (by omega) (Nat.le_of_ble_eq_true rfl) ?_
                refine oe_istore (pc := 127) (L2 := [_, _, _, _, _, _, _, _, _, _, _, _]) d_X11_share_127 rfl (Nat.le_of_ble_eq_true rfl) rfl ?_
                refine oe_iload (pc := 129) d_X11_share_129 rfl ?_
                refine oe_iload (pc := 131) d_X11_share_131 rfl ?_
                refine oe_iload (pc := 133) d_X11_share_133 rfl ?_
                refine oe_isub (pc := 135) d_X11_share_135 ?_
                refine oe_mmin (pc := 136) d_X11_share_136 mm_X11_267 (by omega) (Nat.le_of_ble_eq_true rfl) ?_
                refine oe_istore (pc := 139) (L2 := [_, _, _, _, _, _, _, _, _, _, _, _]) d_X11_share_139 rfl (Nat.le_of_ble_eq_true rfl) rfl ?_
                refine oe_iload (pc := 141) d_X11_share_141 rfl ?_
                refine oe_if_ne (pc := 143) (tgt := 151) d_X11_share_143 (by decide) (fun c33 => ?_) (fun c33 => ?_)
                · replace h := (if_neg c33).symm.trans h
                  refine oe_iload (pc := 151) d_X11_share_151 rfl ?_
                  refine oe_iload (pc := 153) d_X11_share_153 rfl ?_
                  refine oe_isub (pc := 155) d_X11_share_155 ?_
                  obtain ⟨rfl, rfl⟩ := oRes h
                  exact oe_iret (pc := 156) d_X11_share_156 ⟨_, rfl, rfl⟩
                · replace h := (if_pos c33).symm.trans h
                  refine oe_iload (pc := 146) d_X11_share_146 rfl ?_
                  refine oe_goto (pc := 148) (tgt := 156) d_X11_share_148 (by decide) ?_
                  obtain ⟨rfl, rfl⟩ := oRes h
                  exact oe_iret (pc := 156) d_X11_share_156 ⟨_, rfl, rfl⟩
              | false =>
                replace h := oCf h
                refine oe_callS (pc := 65) d_X11_share_65 (v_X11_within hK  q26) (by omega) ml_X11_89 jJ_X11_within rfl rfl (Nat.le_of_ble_eq_true rfl) ⟨Nat.le_refl _, Nat.le_refl _⟩ ⟨Nat.le_refl _, Nat.le_refl _⟩ ?_
                refine oe_if_ne (pc := 68) (tgt := 73) d_X11_share_68 (by decide) (fun c => absurd (by decide) c) (fun _ => ?_)
                refine oe_iconst (pc := 71) (v := (-1)) d_X11_share_71 rfl ?_
                obtain ⟨rfl, rfl⟩ := oRes h
                exact oe_iret (pc := 72) d_X11_share_72 ⟨_, rfl, rfl⟩
            | false =>
              replace h := oCf h
              refine oe_callS (pc := 55) d_X11_share_55 (v_X11_within hK  q23) (by omega) ml_X11_89 jJ_X11_within rfl rfl (Nat.le_of_ble_eq_true rfl) ⟨Nat.le_refl _, Nat.le_refl _⟩ ⟨Nat.le_refl _, Nat.le_refl _⟩ ?_
              refine oe_if_eq (pc := 58) (tgt := 71) d_X11_share_58 (by decide) (fun _ => ?_) (fun c => absurd (by decide) c)
              refine oe_iconst (pc := 71) (v := (-1)) d_X11_share_71 rfl ?_
              obtain ⟨rfl, rfl⟩ := oRes h
              exact oe_iret (pc := 72) d_X11_share_72 ⟨_, rfl, rfl⟩
          | false =>
            replace h := oCf h
            refine oe_callS (pc := 44) d_X11_share_44 (v_X11_isNeed hK  q20) (by omega) ml_X11_199 jJ_X11_isNeed rfl rfl (Nat.le_of_ble_eq_true rfl) ⟨Nat.le_refl _, Nat.le_refl _⟩ ⟨Nat.le_refl _, Nat.le_refl _⟩ ?_
            refine oe_if_eq (pc := 47) (tgt := 71) d_X11_share_47 (by decide) (fun _ => ?_) (fun c => absurd (by decide) c)
            refine oe_iconst (pc := 71) (v := (-1)) d_X11_share_71 rfl ?_
            obtain ⟨rfl, rfl⟩ := oRes h
            exact oe_iret (pc := 72) d_X11_share_72 ⟨_, rfl, rfl⟩
        · replace h := (if_pos c17).symm.trans h
          refine oe_iconst (pc := 41) (v := (-1)) d_X11_share_41 rfl ?_
          obtain ⟨rfl, rfl⟩ := oRes h
          exact oe_iret (pc := 42) d_X11_share_42 ⟨_, rfl, rfl⟩
theorem d_X11_thing_0 : decode J_X11_thing.2.1 0 = .ok (.iload_n 1, 1) := by decide +kernel
theorem d_X11_thing_1 : decode J_X11_thing.2.1 1 = .ok (.iconst 1, 1) := by decide +kernel
theorem d_X11_thing_2 : decode J_X11_thing.2.1 2 = .ok (.bipush 99, 2) := by decide +kernel
theorem d_X11_thing_4 : decode J_X11_thing.2.1 4 = .ok (.invokestatic 89, 3) := by decide +kernel
theorem d_X11_thing_7 : decode J_X11_thing.2.1 7 = .ok (.ifCond .eq 26, 3) := by decide +kernel
theorem d_X11_thing_10 : decode J_X11_thing.2.1 10 = .ok (.iload_n 2, 1) := by decide +kernel
theorem d_X11_thing_11 : decode J_X11_thing.2.1 11 = .ok (.iconst 0, 1) := by decide +kernel
theorem d_X11_thing_12 : decode J_X11_thing.2.1 12 = .ok (.ldc_w 278, 3) := by decide +kernel
theorem d_X11_thing_15 : decode J_X11_thing.2.1 15 = .ok (.invokestatic 89, 3) := by decide +kernel
theorem d_X11_thing_18 : decode J_X11_thing.2.1 18 = .ok (.ifCond .eq 15, 3) := by decide +kernel
theorem d_X11_thing_21 : decode J_X11_thing.2.1 21 = .ok (.aload_n 0, 1) := by decide +kernel
theorem d_X11_thing_22 : decode J_X11_thing.2.1 22 = .ok (.getfield 71, 3) := by decide +kernel
theorem d_X11_thing_25 : decode J_X11_thing.2.1 25 = .ok (.iload_n 1, 1) := by decide +kernel
theorem d_X11_thing_26 : decode J_X11_thing.2.1 26 = .ok (.iload_n 2, 1) := by decide +kernel
theorem d_X11_thing_27 : decode J_X11_thing.2.1 27 = .ok (.invokevirtual 279, 3) := by decide +kernel
theorem d_X11_thing_30 : decode J_X11_thing.2.1 30 = .ok (.goto 4, 3) := by decide +kernel
theorem d_X11_thing_33 : decode J_X11_thing.2.1 33 = .ok (.iconst (-1), 1) := by decide +kernel
theorem d_X11_thing_34 : decode J_X11_thing.2.1 34 = .ok (.ireturn, 1) := by decide +kernel
def f_X11_thing (N : Nat) (K : oK) (p1 : Int32) (p2 : Int32) (M : oM) : Option (Int32 × oM) :=
  oB2 (f_X11_within N K p1 (1 : Int32) (99 : Int32) M) (fun v1 M2 => cond v1 (oB2 (f_X11_within N K p2 (0 : Int32) (999999 : Int32) M2) (fun v4 M5 => cond v4 (oB2 (f_X1_add N K p1 p2 M5) (fun v7 M8 => some (v7, M8))) (some ((-1), M5)))) (some ((-1), M2)))
set_option maxRecDepth 20000 in
theorem v_X11_thing {X : oX} {N : Nat} {K : oK} {p1 : Int32} {p2 : Int32} {M : oM} {v : Int32} {M' : oM} (hK : oSR K)  (h : f_X11_thing N K p1 p2 M = some (v, M')) : oMet X 2 J_X11_thing [(.ref 0), (.int p1), (.int p2)] K M (some (.int v)) K M' := by
  unfold f_X11_thing at h
  refine oMet_of (L := [some (.ref 0), some (.int p1), some (.int p2)]) jJ_X11_thing.1 rfl (Nat.le_of_ble_eq_true rfl) rfl (Nat.le_refl _) (Nat.le_refl _) ?_
  have hd : 2 ≤ 2 := Nat.le_refl _
  refine oe_iload_n (pc := 0) d_X11_thing_0 rfl ?_
  refine oe_iconst (pc := 1) (v := 1) d_X11_thing_1 rfl ?_
  refine oe_bipush (pc := 2) (v := 99) d_X11_thing_2 rfl ?_
  obtain ⟨v1, M2, q3, h⟩ := oB2_some h
  cases v1 with
  | true =>
    replace h := oCt h
    refine oe_callS (pc := 4) d_X11_thing_4 (v_X11_within hK  q3) (by omega) ml_X11_89 jJ_X11_within rfl rfl (Nat.le_of_ble_eq_true rfl) ⟨Nat.le_refl _, Nat.le_refl _⟩ ⟨Nat.le_refl _, Nat.le_refl _⟩ ?_
    refine oe_if_eq (pc := 7) (tgt := 33) d_X11_thing_7 (by decide) (fun c => absurd c (by decide)) (fun _ => ?_)
    refine oe_iload_n (pc := 10) d_X11_thing_10 rfl ?_
    refine oe_iconst (pc := 11) (v := 0) d_X11_thing_11 rfl ?_
    refine oe_ldcw (pc := 12) d_X11_thing_12 co_X11_278 ?_
    obtain ⟨v4, M5, q6, h⟩ := oB2_some h
    cases v4 with
    | true =>
      replace h := oCt h
      refine oe_callS (pc := 15) d_X11_thing_15 (v_X11_within hK  q6) (by omega) ml_X11_89 jJ_X11_within rfl rfl (Nat.le_of_ble_eq_true rfl) ⟨Nat.le_refl _, Nat.le_refl _⟩ ⟨Nat.le_refl _, Nat.le_refl _⟩ ?_
      refine oe_if_eq (pc := 18) (tgt := 33) d_X11_thing_18 (by decide) (fun c => absurd c (by decide)) (fun _ => ?_)
      refine oe_aload_n (pc := 21) d_X11_thing_21 rfl ?_
      refine oe_getr (pc := 22) d_X11_thing_22 fl_X11_71 ock11 (k := 8) (b := 40) (Nat.le_of_ble_eq_true rfl) (by decide) (oLt hK (a := 0) (Nat.le_of_ble_eq_true rfl)) (oSho hK (a := 0) (Nat.le_of_ble_eq_true rfl) rfl) (oRfK hK rfl) ?_
      refine oe_iload_n (pc := 25) d_X11_thing_25 rfl ?_
      refine oe_iload_n (pc := 26) d_X11_thing_26 rfl ?_
      obtain ⟨v7, M8, q9, h⟩ := oB2_some h
      refine oe_callV (pc := 27) (ci := 1) d_X11_thing_27 (v_X1_add hK  q9) (by omega) ml_X11_279 jJ_X1_add rfl rfl (oLt hK (a := 40) (Nat.le_of_ble_eq_true rfl)) (oSho hK (a := 40) (Nat.le_of_ble_eq_true rfl) rfl) ock1 rfl (Nat.le_of_ble_eq_true rfl) ⟨Nat.le_refl _, Nat.le_refl _⟩ ⟨Nat.le_refl _, Nat.le_refl _⟩ ?_
      refine oe_goto (pc := 30) (tgt := 34) d_X11_thing_30 (by decide) ?_
      obtain ⟨rfl, rfl⟩ := oRes h
      exact oe_iret (pc := 34) d_X11_thing_34 ⟨_, rfl, rfl⟩
    | false =>
      replace h := oCf h
      refine oe_callS (pc := 15) d_X11_thing_15 (v_X11_within hK  q6) (by omega) ml_X11_89 jJ_X11_within rfl rfl (Nat.le_of_ble_eq_true rfl) ⟨Nat.le_refl _, Nat.le_refl _⟩ ⟨Nat.le_refl _, Nat.le_refl _⟩ ?_
      refine oe_if_eq (pc := 18) (tgt := 33) d_X11_thing_18 (by decide) (fun _ => ?_) (fun c => absurd (by decide) c)
      refine oe_iconst (pc := 33) (v := (-1)) d_X11_thing_33 rfl ?_
      obtain ⟨rfl, rfl⟩ := oRes h
      exact oe_iret (pc := 34) d_X11_thing_34 ⟨_, rfl, rfl⟩
  | false =>
    replace h := oCf h
    refine oe_callS (pc := 4) d_X11_thing_4 (v_X11_within hK  q3) (by omega) ml_X11_89 jJ_X11_within rfl rfl (Nat.le_of_ble_eq_true rfl) ⟨Nat.le_refl _, Nat.le_refl _⟩ ⟨Nat.le_refl _, Nat.le_refl _⟩ ?_
    refine oe_if_eq (pc := 7) (tgt := 33) d_X11_thing_7 (by decide) (fun _ => ?_) (fun c => absurd (by decide) c)
    refine oe_iconst (pc := 33) (v := (-1)) d_X11_thing_33 rfl ?_
    obtain ⟨rfl, rfl⟩ := oRes h
    exact oe_iret (pc := 34) d_X11_thing_34 ⟨_, rfl, rfl⟩
theorem d_X11_cart_0 : decode J_X11_cart.2.1 0 = .ok (.iload_n 1, 1) := by decide +kernel
theorem d_X11_cart_1 : decode J_X11_cart.2.1 1 = .ok (.ifCond .lt 23, 3) := by decide +kernel
theorem d_X11_cart_4 : decode J_X11_cart.2.1 4 = .ok (.iload_n 2, 1) := by decide +kernel
theorem d_X11_cart_5 : decode J_X11_cart.2.1 5 = .ok (.iconst 0, 1) := by decide +kernel
theorem d_X11_cart_6 : decode J_X11_cart.2.1 6 = .ok (.ldc_w 281, 3) := by decide +kernel
theorem d_X11_cart_9 : decode J_X11_cart.2.1 9 = .ok (.invokestatic 89, 3) := by decide +kernel
theorem d_X11_cart_12 : decode J_X11_cart.2.1 12 = .ok (.ifCond .eq 12, 3) := by decide +kernel
theorem d_X11_cart_15 : decode J_X11_cart.2.1 15 = .ok (.iload_n 3, 1) := by decide +kernel
theorem d_X11_cart_16 : decode J_X11_cart.2.1 16 = .ok (.iconst 0, 1) := by decide +kernel
theorem d_X11_cart_17 : decode J_X11_cart.2.1 17 = .ok (.iconst 1, 1) := by decide +kernel
theorem d_X11_cart_18 : decode J_X11_cart.2.1 18 = .ok (.invokestatic 89, 3) := by decide +kernel
theorem d_X11_cart_21 : decode J_X11_cart.2.1 21 = .ok (.ifCond .ne 5, 3) := by decide +kernel
theorem d_X11_cart_24 : decode J_X11_cart.2.1 24 = .ok (.iconst (-1), 1) := by decide +kernel
theorem d_X11_cart_25 : decode J_X11_cart.2.1 25 = .ok (.ireturn, 1) := by decide +kernel
theorem d_X11_cart_26 : decode J_X11_cart.2.1 26 = .ok (.aload_n 0, 1) := by decide +kernel
theorem d_X11_cart_27 : decode J_X11_cart.2.1 27 = .ok (.getfield 71, 3) := by decide +kernel
theorem d_X11_cart_30 : decode J_X11_cart.2.1 30 = .ok (.getfield 282, 3) := by decide +kernel
theorem d_X11_cart_33 : decode J_X11_cart.2.1 33 = .ok (.ifCond .ne 6, 3) := by decide +kernel
theorem d_X11_cart_36 : decode J_X11_cart.2.1 36 = .ok (.bipush (-5), 2) := by decide +kernel
theorem d_X11_cart_38 : decode J_X11_cart.2.1 38 = .ok (.ireturn, 1) := by decide +kernel
theorem d_X11_cart_39 : decode J_X11_cart.2.1 39 = .ok (.aload_n 0, 1) := by decide +kernel
theorem d_X11_cart_40 : decode J_X11_cart.2.1 40 = .ok (.getfield 71, 3) := by decide +kernel
theorem d_X11_cart_43 : decode J_X11_cart.2.1 43 = .ok (.iload_n 1, 1) := by decide +kernel
theorem d_X11_cart_44 : decode J_X11_cart.2.1 44 = .ok (.iload_n 2, 1) := by decide +kernel
theorem d_X11_cart_45 : decode J_X11_cart.2.1 45 = .ok (.invokevirtual 283, 3) := by decide +kernel
theorem d_X11_cart_48 : decode J_X11_cart.2.1 48 = .ok (.iload_n 3, 1) := by decide +kernel
theorem d_X11_cart_49 : decode J_X11_cart.2.1 49 = .ok (.ifCond .ne 13, 3) := by decide +kernel
theorem d_X11_cart_52 : decode J_X11_cart.2.1 52 = .ok (.aload_n 0, 1) := by decide +kernel
theorem d_X11_cart_53 : decode J_X11_cart.2.1 53 = .ok (.getfield 71, 3) := by decide +kernel
theorem d_X11_cart_56 : decode J_X11_cart.2.1 56 = .ok (.getfield 287, 3) := by decide +kernel
theorem d_X11_cart_59 : decode J_X11_cart.2.1 59 = .ok (.goto 10, 3) := by decide +kernel
theorem d_X11_cart_62 : decode J_X11_cart.2.1 62 = .ok (.aload_n 0, 1) := by decide +kernel
theorem d_X11_cart_63 : decode J_X11_cart.2.1 63 = .ok (.getfield 71, 3) := by decide +kernel
theorem d_X11_cart_66 : decode J_X11_cart.2.1 66 = .ok (.getfield 290, 3) := by decide +kernel
theorem d_X11_cart_69 : decode J_X11_cart.2.1 69 = .ok (.ireturn, 1) := by decide +kernel
def f_X11_cart (N : Nat) (K : oK) (p1 : Int32) (p2 : Int32) (p3 : Int32) (M : oM) : Option (Int32 × oM) :=
  (if p1 < 0 then some ((-1), M) else oB2 (f_X11_within N K p2 (0 : Int32) (1030300 : Int32) M) (fun v2 M3 => cond v2 (oB2 (f_X11_within N K p3 (0 : Int32) (1 : Int32) M3) (fun v5 M6 => cond v5 ((if (M6.1 40 3) = 0 then some ((-5), M6) else oB2 (f_X1_pack N K p1 p2 M6) (fun v9 M10 => (if p3 = 0 then some ((M10.1 40 4), M10) else some ((M10.1 40 5), M10))))) (some ((-1), M6)))) (some ((-1), M3))))
set_option maxRecDepth 20000 in
theorem v_X11_cart {X : oX} {N : Nat} {K : oK} {p1 : Int32} {p2 : Int32} {p3 : Int32} {M : oM} {v : Int32} {M' : oM} (hK : oSR K)  (h : f_X11_cart N K p1 p2 p3 M = some (v, M')) : oMet X 3 J_X11_cart [(.ref 0), (.int p1), (.int p2), (.int p3)] K M (some (.int v)) K M' := by
  unfold f_X11_cart at h
  refine oMet_of (L := [some (.ref 0), some (.int p1), some (.int p2), some (.int p3)]) jJ_X11_cart.1 rfl (Nat.le_of_ble_eq_true rfl) rfl (Nat.le_refl _) (Nat.le_refl _) ?_
  have hd : 3 ≤ 3 := Nat.le_refl _
  refine oe_iload_n (pc := 0) d_X11_cart_0 rfl ?_
  refine oe_if_lt (pc := 1) (tgt := 24) d_X11_cart_1 (by decide) (fun c1 => ?_) (fun c1 => ?_)
  · replace h := (if_pos c1).symm.trans h
    refine oe_iconst (pc := 24) (v := (-1)) d_X11_cart_24 rfl ?_
    obtain ⟨rfl, rfl⟩ := oRes h
    exact oe_iret (pc := 25) d_X11_cart_25 ⟨_, rfl, rfl⟩
  · replace h := (if_neg c1).symm.trans h
    refine oe_iload_n (pc := 4) d_X11_cart_4 rfl ?_
    refine oe_iconst (pc := 5) (v := 0) d_X11_cart_5 rfl ?_
    refine oe_ldcw (pc := 6) d_X11_cart_6 co_X11_281 ?_
    obtain ⟨v2, M3, q4, h⟩ := oB2_some h
    cases v2 with
    | true =>
      replace h := oCt h
      refine oe_callS (pc := 9) d_X11_cart_9 (v_X11_within hK  q4) (by omega) ml_X11_89 jJ_X11_within rfl rfl (Nat.le_of_ble_eq_true rfl) ⟨Nat.le_refl _, Nat.le_refl _⟩ ⟨Nat.le_refl _, Nat.le_refl _⟩ ?_
      refine oe_if_eq (pc := 12) (tgt := 24) d_X11_cart_12 (by decide) (fun c => absurd c (by decide)) (fun _ => ?_)
      refine oe_iload_n (pc := 15) d_X11_cart_15 rfl ?_
      refine oe_iconst (pc := 16) (v := 0) d_X11_cart_16 rfl ?_
      refine oe_iconst (pc := 17) (v := 1) d_X11_cart_17 rfl ?_
      obtain ⟨v5, M6, q7, h⟩ := oB2_some h
      cases v5 with
      | true =>
        replace h := oCt h
        refine oe_callS (pc := 18) d_X11_cart_18 (v_X11_within hK  q7) (by omega) ml_X11_89 jJ_X11_within rfl rfl (Nat.le_of_ble_eq_true rfl) ⟨Nat.le_refl _, Nat.le_refl _⟩ ⟨Nat.le_refl _, Nat.le_refl _⟩ ?_
        refine oe_if_ne (pc := 21) (tgt := 26) d_X11_cart_21 (by decide) (fun _ => ?_) (fun c => absurd c (by decide))
        refine oe_aload_n (pc := 26) d_X11_cart_26 rfl ?_
        refine oe_getr (pc := 27) d_X11_cart_27 fl_X11_71 ock11 (k := 8) (b := 40) (Nat.le_of_ble_eq_true rfl) (by decide) (oLt hK (a := 0) (Nat.le_of_ble_eq_true rfl)) (oSho hK (a := 0) (Nat.le_of_ble_eq_true rfl) rfl) (oRfK hK rfl) ?_
        refine oe_getf (pc := 30) d_X11_cart_30 fl_X11_282 ock1 (k := 3) (Nat.le_of_ble_eq_true rfl) rfl (oLt hK (a := 40) (Nat.le_of_ble_eq_true rfl)) (oSho hK (a := 40) (Nat.le_of_ble_eq_true rfl) rfl) ?_
        refine oe_if_ne (pc := 33) (tgt := 39) d_X11_cart_33 (by decide) (fun c8 => ?_) (fun c8 => ?_)
        · replace h := (if_neg c8).symm.trans h
          refine oe_aload_n (pc := 39) d_X11_cart_39 rfl ?_
          refine oe_getr (pc := 40) d_X11_cart_40 fl_X11_71 ock11 (k := 8) (b := 40) (Nat.le_of_ble_eq_true rfl) (by decide) (oLt hK (a := 0) (Nat.le_of_ble_eq_true rfl)) (oSho hK (a := 0) (Nat.le_of_ble_eq_true rfl) rfl) (oRfK hK rfl) ?_
          refine oe_iload_n (pc := 43) d_X11_cart_43 rfl ?_
          refine oe_iload_n (pc := 44) d_X11_cart_44 rfl ?_
          obtain ⟨v9, M10, q11, h⟩ := oB2_some h
          refine oe_callV (pc := 45) (ci := 1) d_X11_cart_45 (v_X1_pack hK  q11) (by omega) ml_X11_283 jJ_X1_pack rfl rfl (oLt hK (a := 40) (Nat.le_of_ble_eq_true rfl)) (oSho hK (a := 40) (Nat.le_of_ble_eq_true rfl) rfl) ock1 rfl (Nat.le_of_ble_eq_true rfl) ⟨Nat.le_refl _, Nat.le_refl _⟩ ⟨Nat.le_refl _, Nat.le_refl _⟩ ?_
          refine oe_iload_n (pc := 48) d_X11_cart_48 rfl ?_
          refine oe_if_ne (pc := 49) (tgt := 62) d_X11_cart_49 (by decide) (fun c12 => ?_) (fun c12 => ?_)
          · replace h := (if_neg c12).symm.trans h
            refine oe_aload_n (pc := 62) d_X11_cart_62 rfl ?_
            refine oe_getr (pc := 63) d_X11_cart_63 fl_X11_71 ock11 (k := 8) (b := 40) (Nat.le_of_ble_eq_true rfl) (by decide) (oLt hK (a := 0) (Nat.le_of_ble_eq_true rfl)) (oSho hK (a := 0) (Nat.le_of_ble_eq_true rfl) rfl) (oRfK hK rfl) ?_
            refine oe_getf (pc := 66) d_X11_cart_66 fl_X11_290 ock1 (k := 5) (Nat.le_of_ble_eq_true rfl) rfl (oLt hK (a := 40) (Nat.le_of_ble_eq_true rfl)) (oSho hK (a := 40) (Nat.le_of_ble_eq_true rfl) rfl) ?_
            obtain ⟨rfl, rfl⟩ := oRes h
            exact oe_iret (pc := 69) d_X11_cart_69 ⟨_, rfl, rfl⟩
          · replace h := (if_pos c12).symm.trans h
            refine oe_aload_n (pc := 52) d_X11_cart_52 rfl ?_
            refine oe_getr (pc := 53) d_X11_cart_53 fl_X11_71 ock11 (k := 8) (b := 40) (Nat.le_of_ble_eq_true rfl) (by decide) (oLt hK (a := 0) (Nat.le_of_ble_eq_true rfl)) (oSho hK (a := 0) (Nat.le_of_ble_eq_true rfl) rfl) (oRfK hK rfl) ?_
            refine oe_getf (pc := 56) d_X11_cart_56 fl_X11_287 ock1 (k := 4) (Nat.le_of_ble_eq_true rfl) rfl (oLt hK (a := 40) (Nat.le_of_ble_eq_true rfl)) (oSho hK (a := 40) (Nat.le_of_ble_eq_true rfl) rfl) ?_
            refine oe_goto (pc := 59) (tgt := 69) d_X11_cart_59 (by decide) ?_
            obtain ⟨rfl, rfl⟩ := oRes h
            exact oe_iret (pc := 69) d_X11_cart_69 ⟨_, rfl, rfl⟩
        · replace h := (if_pos c8).symm.trans h
          refine oe_bipush (pc := 36) (v := (-5)) d_X11_cart_36 rfl ?_
          obtain ⟨rfl, rfl⟩ := oRes h
          exact oe_iret (pc := 38) d_X11_cart_38 ⟨_, rfl, rfl⟩
      | false =>
        replace h := oCf h
        refine oe_callS (pc := 18) d_X11_cart_18 (v_X11_within hK  q7) (by omega) ml_X11_89 jJ_X11_within rfl rfl (Nat.le_of_ble_eq_true rfl) ⟨Nat.le_refl _, Nat.le_refl _⟩ ⟨Nat.le_refl _, Nat.le_refl _⟩ ?_
        refine oe_if_ne (pc := 21) (tgt := 26) d_X11_cart_21 (by decide) (fun c => absurd (by decide) c) (fun _ => ?_)
        refine oe_iconst (pc := 24) (v := (-1)) d_X11_cart_24 rfl ?_
        obtain ⟨rfl, rfl⟩ := oRes h
        exact oe_iret (pc := 25) d_X11_cart_25 ⟨_, rfl, rfl⟩
    | false =>
      replace h := oCf h
      refine oe_callS (pc := 9) d_X11_cart_9 (v_X11_within hK  q4) (by omega) ml_X11_89 jJ_X11_within rfl rfl (Nat.le_of_ble_eq_true rfl) ⟨Nat.le_refl _, Nat.le_refl _⟩ ⟨Nat.le_refl _, Nat.le_refl _⟩ ?_
      refine oe_if_eq (pc := 12) (tgt := 24) d_X11_cart_12 (by decide) (fun _ => ?_) (fun c => absurd (by decide) c)
      refine oe_iconst (pc := 24) (v := (-1)) d_X11_cart_24 rfl ?_
      obtain ⟨rfl, rfl⟩ := oRes h
      exact oe_iret (pc := 25) d_X11_cart_25 ⟨_, rfl, rfl⟩
theorem d_X11_unthing_0 : decode J_X11_unthing.2.1 0 = .ok (.aload_n 0, 1) := by decide +kernel
theorem d_X11_unthing_1 : decode J_X11_unthing.2.1 1 = .ok (.getfield 71, 3) := by decide +kernel
theorem d_X11_unthing_4 : decode J_X11_unthing.2.1 4 = .ok (.getfield 282, 3) := by decide +kernel
theorem d_X11_unthing_7 : decode J_X11_unthing.2.1 7 = .ok (.istore_n 1, 1) := by decide +kernel
theorem d_X11_unthing_8 : decode J_X11_unthing.2.1 8 = .ok (.aload_n 0, 1) := by decide +kernel
theorem d_X11_unthing_9 : decode J_X11_unthing.2.1 9 = .ok (.getfield 71, 3) := by decide +kernel
theorem d_X11_unthing_12 : decode J_X11_unthing.2.1 12 = .ok (.iconst 0, 1) := by decide +kernel
theorem d_X11_unthing_13 : decode J_X11_unthing.2.1 13 = .ok (.putfield 282, 3) := by decide +kernel
theorem d_X11_unthing_16 : decode J_X11_unthing.2.1 16 = .ok (.iload_n 1, 1) := by decide +kernel
theorem d_X11_unthing_17 : decode J_X11_unthing.2.1 17 = .ok (.ireturn, 1) := by decide +kernel
def f_X11_unthing (N : Nat) (K : oK)  (M : oM) : Option (Int32 × oM) :=
  some ((M.1 40 3), (oUp M 40 3 (0 : Int32)))
set_option maxRecDepth 20000 in
theorem v_X11_unthing {X : oX} {N : Nat} {K : oK}  {M : oM} {v : Int32} {M' : oM} (hK : oSR K)  (h : f_X11_unthing N K  M = some (v, M')) : oMet X 1 J_X11_unthing [(.ref 0)] K M (some (.int v)) K M' := by
  unfold f_X11_unthing at h
  refine oMet_of (L := [some (.ref 0), none]) jJ_X11_unthing.1 rfl (Nat.le_of_ble_eq_true rfl) rfl (Nat.le_refl _) (Nat.le_refl _) ?_
  have hd : 1 ≤ 1 := Nat.le_refl _
  refine oe_aload_n (pc := 0) d_X11_unthing_0 rfl ?_
  refine oe_getr (pc := 1) d_X11_unthing_1 fl_X11_71 ock11 (k := 8) (b := 40) (Nat.le_of_ble_eq_true rfl) (by decide) (oLt hK (a := 0) (Nat.le_of_ble_eq_true rfl)) (oSho hK (a := 0) (Nat.le_of_ble_eq_true rfl) rfl) (oRfK hK rfl) ?_
  refine oe_getf (pc := 4) d_X11_unthing_4 fl_X11_282 ock1 (k := 3) (Nat.le_of_ble_eq_true rfl) rfl (oLt hK (a := 40) (Nat.le_of_ble_eq_true rfl)) (oSho hK (a := 40) (Nat.le_of_ble_eq_true rfl) rfl) ?_
  refine oe_istore_n (pc := 7) (L2 := [_, _]) d_X11_unthing_7 rfl rfl (Nat.le_of_ble_eq_true rfl) rfl ?_
  refine oe_aload_n (pc := 8) d_X11_unthing_8 rfl ?_
  refine oe_getr (pc := 9) d_X11_unthing_9 fl_X11_71 ock11 (k := 8) (b := 40) (Nat.le_of_ble_eq_true rfl) (by decide) (oLt hK (a := 0) (Nat.le_of_ble_eq_true rfl)) (oSho hK (a := 0) (Nat.le_of_ble_eq_true rfl) rfl) (oRfK hK rfl) ?_
  refine oe_iconst (pc := 12) (v := 0) d_X11_unthing_12 rfl ?_
  refine oe_putf (pc := 13) d_X11_unthing_13 fl_X11_282 ock1 (k := 3) (Nat.le_of_ble_eq_true rfl) rfl rfl (oLt hK (a := 40) (Nat.le_of_ble_eq_true rfl)) (oSho hK (a := 40) (Nat.le_of_ble_eq_true rfl) rfl) ?_
  refine oe_iload_n (pc := 16) d_X11_unthing_16 rfl ?_
  obtain ⟨rfl, rfl⟩ := oRes h
  exact oe_iret (pc := 17) d_X11_unthing_17 ⟨_, rfl, rfl⟩
theorem d_X11_old_0 : decode J_X11_old.2.1 0 = .ok (.aload_n 0, 1) := by decide +kernel
theorem d_X11_old_1 : decode J_X11_old.2.1 1 = .ok (.iload_n 1, 1) := by decide +kernel
theorem d_X11_old_2 : decode J_X11_old.2.1 2 = .ok (.invokevirtual 148, 3) := by decide +kernel
theorem d_X11_old_5 : decode J_X11_old.2.1 5 = .ok (.astore_n 2, 1) := by decide +kernel
theorem d_X11_old_6 : decode J_X11_old.2.1 6 = .ok (.aload_n 2, 1) := by decide +kernel
theorem d_X11_old_7 : decode J_X11_old.2.1 7 = .ok (.ifnonnull 5, 3) := by decide +kernel
theorem d_X11_old_10 : decode J_X11_old.2.1 10 = .ok (.iconst (-1), 1) := by decide +kernel
theorem d_X11_old_11 : decode J_X11_old.2.1 11 = .ok (.ireturn, 1) := by decide +kernel
theorem d_X11_old_12 : decode J_X11_old.2.1 12 = .ok (.ldc_w 293, 3) := by decide +kernel
theorem d_X11_old_15 : decode J_X11_old.2.1 15 = .ok (.istore_n 3, 1) := by decide +kernel
theorem d_X11_old_16 : decode J_X11_old.2.1 16 = .ok (.iconst 0, 1) := by decide +kernel
theorem d_X11_old_17 : decode J_X11_old.2.1 17 = .ok (.istore 4, 2) := by decide +kernel
theorem d_X11_old_19 : decode J_X11_old.2.1 19 = .ok (.iload 4, 2) := by decide +kernel
theorem d_X11_old_21 : decode J_X11_old.2.1 21 = .ok (.iconst 3, 1) := by decide +kernel
theorem d_X11_old_22 : decode J_X11_old.2.1 22 = .ok (.if_icmp .ge 76, 3) := by decide +kernel
theorem d_X11_old_25 : decode J_X11_old.2.1 25 = .ok (.iconst 0, 1) := by decide +kernel
theorem d_X11_old_26 : decode J_X11_old.2.1 26 = .ok (.sipush 1000, 3) := by decide +kernel
theorem d_X11_old_29 : decode J_X11_old.2.1 29 = .ok (.bipush 10, 2) := by decide +kernel
theorem d_X11_old_31 : decode J_X11_old.2.1 31 = .ok (.aload_n 0, 1) := by decide +kernel
theorem d_X11_old_32 : decode J_X11_old.2.1 32 = .ok (.getfield 10, 3) := by decide +kernel
theorem d_X11_old_35 : decode J_X11_old.2.1 35 = .ok (.bipush 6, 2) := by decide +kernel
theorem d_X11_old_37 : decode J_X11_old.2.1 37 = .ok (.iload 4, 2) := by decide +kernel
theorem d_X11_old_39 : decode J_X11_old.2.1 39 = .ok (.iadd, 1) := by decide +kernel
theorem d_X11_old_40 : decode J_X11_old.2.1 40 = .ok (.invokevirtual 294, 3) := by decide +kernel
theorem d_X11_old_43 : decode J_X11_old.2.1 43 = .ok (.imul, 1) := by decide +kernel
theorem d_X11_old_44 : decode J_X11_old.2.1 44 = .ok (.isub, 1) := by decide +kernel
theorem d_X11_old_45 : decode J_X11_old.2.1 45 = .ok (.invokestatic 225, 3) := by decide +kernel
theorem d_X11_old_48 : decode J_X11_old.2.1 48 = .ok (.istore 5, 2) := by decide +kernel
theorem d_X11_old_50 : decode J_X11_old.2.1 50 = .ok (.aload_n 0, 1) := by decide +kernel
theorem d_X11_old_51 : decode J_X11_old.2.1 51 = .ok (.aload_n 2, 1) := by decide +kernel
theorem d_X11_old_52 : decode J_X11_old.2.1 52 = .ok (.iload 4, 2) := by decide +kernel
theorem d_X11_old_54 : decode J_X11_old.2.1 54 = .ok (.invokevirtual 184, 3) := by decide +kernel
theorem d_X11_old_57 : decode J_X11_old.2.1 57 = .ok (.istore 6, 2) := by decide +kernel
theorem d_X11_old_59 : decode J_X11_old.2.1 59 = .ok (.iconst 0, 1) := by decide +kernel
theorem d_X11_old_60 : decode J_X11_old.2.1 60 = .ok (.istore 7, 2) := by decide +kernel
theorem d_X11_old_62 : decode J_X11_old.2.1 62 = .ok (.iload 7, 2) := by decide +kernel
theorem d_X11_old_64 : decode J_X11_old.2.1 64 = .ok (.iload 6, 2) := by decide +kernel
theorem d_X11_old_66 : decode J_X11_old.2.1 66 = .ok (.if_icmp .ge 26, 3) := by decide +kernel
theorem d_X11_old_69 : decode J_X11_old.2.1 69 = .ok (.iload 5, 2) := by decide +kernel
theorem d_X11_old_71 : decode J_X11_old.2.1 71 = .ok (.sipush 1000, 3) := by decide +kernel
theorem d_X11_old_74 : decode J_X11_old.2.1 74 = .ok (.if_icmp .ge 18, 3) := by decide +kernel
theorem d_X11_old_77 : decode J_X11_old.2.1 77 = .ok (.iload_n 3, 1) := by decide +kernel
theorem d_X11_old_78 : decode J_X11_old.2.1 78 = .ok (.iload 5, 2) := by decide +kernel
theorem d_X11_old_80 : decode J_X11_old.2.1 80 = .ok (.imul, 1) := by decide +kernel
theorem d_X11_old_81 : decode J_X11_old.2.1 81 = .ok (.sipush 1000, 3) := by decide +kernel
theorem d_X11_old_84 : decode J_X11_old.2.1 84 = .ok (.idiv, 1) := by decide +kernel
theorem d_X11_old_85 : decode J_X11_old.2.1 85 = .ok (.istore_n 3, 1) := by decide +kernel
theorem d_X11_old_86 : decode J_X11_old.2.1 86 = .ok (.iinc 7 1, 3) := by decide +kernel
theorem d_X11_old_89 : decode J_X11_old.2.1 89 = .ok (.goto (-27), 3) := by decide +kernel
theorem d_X11_old_92 : decode J_X11_old.2.1 92 = .ok (.iinc 4 1, 3) := by decide +kernel
theorem d_X11_old_95 : decode J_X11_old.2.1 95 = .ok (.goto (-76), 3) := by decide +kernel
theorem d_X11_old_98 : decode J_X11_old.2.1 98 = .ok (.iload_n 3, 1) := by decide +kernel
theorem d_X11_old_99 : decode J_X11_old.2.1 99 = .ok (.ireturn, 1) := by decide +kernel
def f_X11_old_92 (N : Nat) (K : oK) (r19 : (Nat → Int32 → Int32 → oM → Option (Int32 × oM))) (p2 : Nat) (p3 : Int32) (p4 : Int32) (M : oM) : Option (Int32 × oM) :=
  (r19 p2 p3 (p4 + 1) M)
set_option maxRecDepth 20000 in
theorem v_X11_old_92 {X : oX} {d N : Nat} {K : oK} {r19 : (Nat → Int32 → Int32 → oM → Option (Int32 × oM))} {p2 : Nat} {p3 : Int32} {p4 : Int32} {M : oM} {v : Int32} {M' : oM}  (hd : 4 ≤ d) (hK : oSR K) (hh_p2 : oLS K p2) (hr19 : ∀ (p2 : Nat) (p3 : Int32) (p4 : Int32) (M : oM) (v : Int32) (M' : oM)  (hh_p2 : oLS K p2), r19 p2 p3 p4 M = some (v, M') → oEv X d J_X11_old 19 [some (.ref 0), none, some (.ref p2), some (.int p3), some (.int p4), none, none, none] [] K M (some (.int v)) K M') (h : f_X11_old_92 N K r19 p2 p3 p4 M = some (v, M')) : oEv X d J_X11_old 92 [some (.ref 0), none, some (.ref p2), some (.int p3), some (.int p4), none, none, none] [] K M (some (.int v)) K M' := by
  unfold f_X11_old_92 at h
  refine oe_iinc (pc := 92) (v := (p4 + 1)) (L2 := [_, _, _, _, _, _, _, _]) d_X11_old_92 rfl rfl rfl (Nat.le_of_ble_eq_true rfl) rfl ?_
  refine oe_goto (pc := 95) (tgt := 19) d_X11_old_95 (by decide) ?_
  exact hr19 _ _ _ _ _ _ hh_p2 h
def f_X11_old_62 (N : Nat) (K : oK) (r19 : (Nat → Int32 → Int32 → oM → Option (Int32 × oM))) : Nat → Nat → Int32 → Int32 → Int32 → Int32 → Int32 → oM → Option (Int32 × oM)
  | 0, _, _, _, _, _, _, _ => none
  | n + 1, p2, p3, p4, p5, p6, p7, M => (fun r62 => (if p6 ≤ p7 then (f_X11_old_92 N K r19 p2 p3 p4 M) else (if 1000 ≤ p5 then (f_X11_old_92 N K r19 p2 p3 p4 M) else (r62 p2 ((p3 * p5) / 1000) p4 p5 p6 (p7 + 1) M)))) (f_X11_old_62 N K r19 n)
set_option maxRecDepth 20000 in
theorem v_X11_old_62_L {X : oX} {d N : Nat} {K : oK} {r19 : (Nat → Int32 → Int32 → oM → Option (Int32 × oM))} (hd : 4 ≤ d) (hK : oSR K) (hr19 : ∀ (p2 : Nat) (p3 : Int32) (p4 : Int32) (M : oM) (v : Int32) (M' : oM)  (hh_p2 : oLS K p2), r19 p2 p3 p4 M = some (v, M') → oEv X d J_X11_old 19 [some (.ref 0), none, some (.ref p2), some (.int p3), some (.int p4), none, none, none] [] K M (some (.int v)) K M') : ∀ (n : Nat) (p2 : Nat) (p3 : Int32) (p4 : Int32) (p5 : Int32) (p6 : Int32) (p7 : Int32) (M : oM) (v : Int32) (M' : oM)  (hh_p2 : oLS K p2), f_X11_old_62 N K r19 n p2 p3 p4 p5 p6 p7 M = some (v, M') → oEv X d J_X11_old 62 [some (.ref 0), none, some (.ref p2), some (.int p3), some (.int p4), some (.int p5), some (.int p6), some (.int p7)] [] K M (some (.int v)) K M' := by
  intro n
  induction n with
  | zero =>
    intro p2 p3 p4 p5 p6 p7 M v M'  hh_p2 h
    cases h
  | succ n hr62 =>
    intro p2 p3 p4 p5 p6 p7 M v M'  hh_p2 h
    refine oe_iload (pc := 62) d_X11_old_62 rfl ?_
    refine oe_iload (pc := 64) d_X11_old_64 rfl ?_
    refine oe_icmp_ge (pc := 66) (tgt := 92) d_X11_old_66 (by decide) (fun c12 => ?_) (fun c12 => ?_)
    · replace h := (if_pos c12).symm.trans h
      refine oEv.fg [true, false, true, true, true, false, false, false] ?_
      exact v_X11_old_92 hd hK hh_p2 hr19 h
    · replace h := (if_neg c12).symm.trans h
      refine oe_iload (pc := 69) d_X11_old_69 rfl ?_
      refine oe_sipush (pc := 71) (v := 1000) d_X11_old_71 rfl ?_
      refine oe_icmp_ge (pc := 74) (tgt := 92) d_X11_old_74 (by decide) (fun c13 => ?_) (fun c13 => ?_)
      · replace h := (if_pos c13).symm.trans h
        refine oEv.fg [true, false, true, true, true, false, false, false] ?_
        exact v_X11_old_92 hd hK hh_p2 hr19 h
      · replace h := (if_neg c13).symm.trans h
        refine oe_iload_n (pc := 77) d_X11_old_77 rfl ?_
        refine oe_iload (pc := 78) d_X11_old_78 rfl ?_
        refine oe_imul (pc := 80) d_X11_old_80 ?_
        refine oe_sipush (pc := 81) (v := 1000) d_X11_old_81 rfl ?_
        refine oe_idiv (pc := 84) d_X11_old_84 (by decide) ?_
        refine oe_istore_n (pc := 85) (L2 := [_, _, _, _, _, _, _, _]) d_X11_old_85 rfl rfl (Nat.le_of_ble_eq_true rfl) rfl ?_
        refine oe_iinc (pc := 86) (v := (p7 + 1)) (L2 := [_, _, _, _, _, _, _, _]) d_X11_old_86 rfl rfl rfl (Nat.le_of_ble_eq_true rfl) rfl ?_
        refine oe_goto (pc := 89) (tgt := 62) d_X11_old_89 (by decide) ?_
        exact hr62 _ _ _ _ _ _ _ _ _ hh_p2 h
theorem v_X11_old_62 {X : oX} {d N : Nat} {K : oK} {r19 : (Nat → Int32 → Int32 → oM → Option (Int32 × oM))} {p2 : Nat} {p3 : Int32} {p4 : Int32} {p5 : Int32} {p6 : Int32} {p7 : Int32} {M : oM} {v : Int32} {M' : oM}  (hd : 4 ≤ d) (hK : oSR K) (hh_p2 : oLS K p2) (hr19 : ∀ (p2 : Nat) (p3 : Int32) (p4 : Int32) (M : oM) (v : Int32) (M' : oM)  (hh_p2 : oLS K p2), r19 p2 p3 p4 M = some (v, M') → oEv X d J_X11_old 19 [some (.ref 0), none, some (.ref p2), some (.int p3), some (.int p4), none, none, none] [] K M (some (.int v)) K M') (h : f_X11_old_62 N K r19 N p2 p3 p4 p5 p6 p7 M = some (v, M')) : oEv X d J_X11_old 62 [some (.ref 0), none, some (.ref p2), some (.int p3), some (.int p4), some (.int p5), some (.int p6), some (.int p7)] [] K M (some (.int v)) K M' := v_X11_old_62_L hd hK hr19 N p2 p3 p4 p5 p6 p7 M v M'  hh_p2 h
def f_X11_old_19 (N : Nat) (K : oK)  : Nat → Nat → Int32 → Int32 → oM → Option (Int32 × oM)
  | 0, _, _, _, _ => none
  | n + 1, p2, p3, p4, M => (fun r19 => (if 3 ≤ p4 then some (p3, M) else oB2 (f_X8_at N K ((6 : Int32) + p4) M) (fun v6 M7 => oB2 (f_X11_hoseOf N K p2 p4 M7) (fun v9 M10 => (f_X11_old_62 N K r19 N p2 p3 p4 (if (0 : Int32) < ((1000 : Int32) - ((10 : Int32) * v6)) then ((1000 : Int32) - ((10 : Int32) * v6)) else (0 : Int32)) v9 0 M10))))) (f_X11_old_19 N K  n)
set_option maxRecDepth 20000 in
theorem v_X11_old_19_L {X : oX} {d N : Nat} {K : oK}  (hd : 4 ≤ d) (hK : oSR K)  : ∀ (n : Nat) (p2 : Nat) (p3 : Int32) (p4 : Int32) (M : oM) (v : Int32) (M' : oM)  (hh_p2 : oLS K p2), f_X11_old_19 N K  n p2 p3 p4 M = some (v, M') → oEv X d J_X11_old 19 [some (.ref 0), none, some (.ref p2), some (.int p3), some (.int p4), none, none, none] [] K M (some (.int v)) K M' := by
  intro n
  induction n with
  | zero =>
    intro p2 p3 p4 M v M'  hh_p2 h
    cases h
  | succ n hr19 =>
    intro p2 p3 p4 M v M'  hh_p2 h
    refine oe_iload (pc := 19) d_X11_old_19 rfl ?_
    refine oe_iconst (pc := 21) (v := 3) d_X11_old_21 rfl ?_
    refine oe_icmp_ge (pc := 22) (tgt := 98) d_X11_old_22 (by decide) (fun c5 => ?_) (fun c5 => ?_)
    · replace h := (if_pos c5).symm.trans h
      refine oe_iload_n (pc := 98) d_X11_old_98 rfl ?_
      obtain ⟨rfl, rfl⟩ := oRes h
      exact oe_iret (pc := 99) d_X11_old_99 ⟨_, rfl, rfl⟩
    · replace h := (if_neg c5).symm.trans h
      refine oe_iconst (pc := 25) (v := 0) d_X11_old_25 rfl ?_
      refine oe_sipush (pc := 26) (v := 1000) d_X11_old_26 rfl ?_
      refine oe_bipush (pc := 29) (v := 10) d_X11_old_29 rfl ?_
      refine oe_aload_n (pc := 31) d_X11_old_31 rfl ?_
      refine oe_getr (pc := 32) d_X11_old_32 fl_X11_10 ock11 (k := 0) (b := 1) (Nat.le_of_ble_eq_true rfl) (by decide) (oLt hK (a := 0) (Nat.le_of_ble_eq_true rfl)) (oSho hK (a := 0) (Nat.le_of_ble_eq_true rfl) rfl) (oRfK hK rfl) ?_
      refine oe_bipush (pc := 35) (v := 6) d_X11_old_35 rfl ?_
      refine oe_iload (pc := 37) d_X11_old_37 rfl ?_
      refine oe_iadd (pc := 39) d_X11_old_39 ?_
      obtain ⟨v6, M7, q8, h⟩ := oB2_some h
      refine oe_callV (pc := 40) (ci := 8) d_X11_old_40 (v_X8_at hK  q8) (by omega) ml_X11_294 jJ_X8_at rfl rfl (oLt hK (a := 1) (Nat.le_of_ble_eq_true rfl)) (oSho hK (a := 1) (Nat.le_of_ble_eq_true rfl) rfl) ock8 rfl (Nat.le_of_ble_eq_true rfl) ⟨Nat.le_refl _, Nat.le_refl _⟩ ⟨Nat.le_refl _, Nat.le_refl _⟩ ?_
      refine oe_imul (pc := 43) d_X11_old_43 ?_
      refine oe_isub (pc := 44) d_X11_old_44 ?_
      refine oe_mmax (pc := 45) d_X11_old_45 mm_X11_225 (by omega) (Nat.le_of_ble_eq_true rfl) ?_
      refine oe_istore (pc := 48) (L2 := [_, _, _, _, _, _, _, _]) d_X11_old_48 rfl (Nat.le_of_ble_eq_true rfl) rfl ?_
      refine oe_aload_n (pc := 50) d_X11_old_50 rfl ?_
      refine oe_aload_n (pc := 51) d_X11_old_51 rfl ?_
      refine oe_iload (pc := 52) d_X11_old_52 rfl ?_
      obtain ⟨v9, M10, q11, h⟩ := oB2_some h
      refine oe_callV (pc := 54) (ci := 11) d_X11_old_54 (v_X11_hoseOf hK hh_p2 q11) (by omega) ml_X11_184 jJ_X11_hoseOf rfl rfl (oLt hK (a := 0) (Nat.le_of_ble_eq_true rfl)) (oSho hK (a := 0) (Nat.le_of_ble_eq_true rfl) rfl) ock11 rfl (Nat.le_of_ble_eq_true rfl) ⟨Nat.le_refl _, Nat.le_refl _⟩ ⟨Nat.le_refl _, Nat.le_refl _⟩ ?_
      refine oe_istore (pc := 57) (L2 := [_, _, _, _, _, _, _, _]) d_X11_old_57 rfl (Nat.le_of_ble_eq_true rfl) rfl ?_
      refine oe_iconst (pc := 59) (v := 0) d_X11_old_59 rfl ?_
      refine oe_istore (pc := 60) (L2 := [_, _, _, _, _, _, _, _]) d_X11_old_60 rfl (Nat.le_of_ble_eq_true rfl) rfl ?_
      exact v_X11_old_62 hd hK hh_p2 hr19 h
theorem v_X11_old_19 {X : oX} {d N : Nat} {K : oK}  {p2 : Nat} {p3 : Int32} {p4 : Int32} {M : oM} {v : Int32} {M' : oM}  (hd : 4 ≤ d) (hK : oSR K) (hh_p2 : oLS K p2)  (h : f_X11_old_19 N K  N p2 p3 p4 M = some (v, M')) : oEv X d J_X11_old 19 [some (.ref 0), none, some (.ref p2), some (.int p3), some (.int p4), none, none, none] [] K M (some (.int v)) K M' := v_X11_old_19_L hd hK  N p2 p3 p4 M v M'  hh_p2 h
def f_X11_old (N : Nat) (K : oK) (p1 : Int32) (M : oM) : Option (Int32 × oM) :=
  oB2 (f_X11_layingAt N K p1 M) (fun v1 M2 => oCs v1 (some ((-1), M2)) (fun h4 => (f_X11_old_19 N K  N h4 1000000 0 M2)))
set_option maxRecDepth 20000 in
theorem v_X11_old {X : oX} {N : Nat} {K : oK} {p1 : Int32} {M : oM} {v : Int32} {M' : oM} (hK : oSR K)  (h : f_X11_old N K p1 M = some (v, M')) : oMet X 4 J_X11_old [(.ref 0), (.int p1)] K M (some (.int v)) K M' := by
  unfold f_X11_old at h
  refine oMet_of (L := [some (.ref 0), some (.int p1), none, none, none, none, none, none]) jJ_X11_old.1 rfl (Nat.le_of_ble_eq_true rfl) rfl (Nat.le_refl _) (Nat.le_refl _) ?_
  have hd : 4 ≤ 4 := Nat.le_refl _
  refine oe_aload_n (pc := 0) d_X11_old_0 rfl ?_
  refine oe_iload_n (pc := 1) d_X11_old_1 rfl ?_
  obtain ⟨v1, M2, q3, h⟩ := oB2_some h
  cases v1 with
  | none =>
    replace h := oCsN h
    refine oe_callV (pc := 2) (ci := 11) d_X11_old_2 (v_X11_layingAt hK  q3) (by omega) ml_X11_148 jJ_X11_layingAt rfl rfl (oLt hK (a := 0) (Nat.le_of_ble_eq_true rfl)) (oSho hK (a := 0) (Nat.le_of_ble_eq_true rfl) rfl) ock11 rfl (Nat.le_of_ble_eq_true rfl) ⟨Nat.le_refl _, Nat.le_refl _⟩ ⟨Nat.le_refl _, Nat.le_refl _⟩ ?_
    refine oe_astore_nN (pc := 5) (L2 := [_, _, _, _, _, _, _, _]) d_X11_old_5 rfl rfl (Nat.le_of_ble_eq_true rfl) rfl ?_
    refine oe_aload_nN (pc := 6) d_X11_old_6 rfl ?_
    refine oe_ifnonnullN (pc := 7) d_X11_old_7 ?_
    refine oe_iconst (pc := 10) (v := (-1)) d_X11_old_10 rfl ?_
    obtain ⟨rfl, rfl⟩ := oRes h
    exact oe_iret (pc := 11) d_X11_old_11 ⟨_, rfl, rfl⟩
  | some h4 =>
    replace h := oCsS h
    have hh_h4 : oLS K h4 := o_X11_layingAt_ok hK q3
    refine oe_callV (pc := 2) (ci := 11) d_X11_old_2 (v_X11_layingAt hK  q3) (by omega) ml_X11_148 jJ_X11_layingAt rfl rfl (oLt hK (a := 0) (Nat.le_of_ble_eq_true rfl)) (oSho hK (a := 0) (Nat.le_of_ble_eq_true rfl) rfl) ock11 rfl (Nat.le_of_ble_eq_true rfl) ⟨Nat.le_refl _, Nat.le_refl _⟩ ⟨Nat.le_refl _, Nat.le_refl _⟩ ?_
    refine oe_astore_n (pc := 5) (L2 := [_, _, _, _, _, _, _, _]) d_X11_old_5 rfl rfl (Nat.le_of_ble_eq_true rfl) rfl ?_
    refine oe_aload_n (pc := 6) d_X11_old_6 rfl ?_
    refine oe_ifnonnull (pc := 7) (tgt := 12) d_X11_old_7 (by decide) ?_
    refine oe_ldcw (pc := 12) d_X11_old_12 co_X11_293 ?_
    refine oe_istore_n (pc := 15) (L2 := [_, _, _, _, _, _, _, _]) d_X11_old_15 rfl rfl (Nat.le_of_ble_eq_true rfl) rfl ?_
    refine oe_iconst (pc := 16) (v := 0) d_X11_old_16 rfl ?_
    refine oe_istore (pc := 17) (L2 := [_, _, _, _, _, _, _, _]) d_X11_old_17 rfl (Nat.le_of_ble_eq_true rfl) rfl ?_
    refine oEv.fg [true, false, true, true, true, false, false, false] ?_
    exact v_X11_old_19 hd hK hh_h4  h
theorem d_X11_undo_0 : decode J_X11_undo.2.1 0 = .ok (.aload_n 0, 1) := by decide +kernel
theorem d_X11_undo_1 : decode J_X11_undo.2.1 1 = .ok (.getfield 10, 3) := by decide +kernel
theorem d_X11_undo_4 : decode J_X11_undo.2.1 4 = .ok (.invokevirtual 297, 3) := by decide +kernel
theorem d_X11_undo_7 : decode J_X11_undo.2.1 7 = .ok (.ireturn, 1) := by decide +kernel
def f_X11_undo (N : Nat) (K : oK)  (M : oM) : Option (Int32 × oM) :=
  oB2 (f_X8_takeBack N K  M) (fun v1 M2 => some (v1, M2))
set_option maxRecDepth 20000 in
theorem v_X11_undo {X : oX} {N : Nat} {K : oK}  {M : oM} {v : Int32} {M' : oM} (hK : oSR K)  (h : f_X11_undo N K  M = some (v, M')) : oMet X 3 J_X11_undo [(.ref 0)] K M (some (.int v)) K M' := by
  unfold f_X11_undo at h
  refine oMet_of (L := [some (.ref 0)]) jJ_X11_undo.1 rfl (Nat.le_of_ble_eq_true rfl) rfl (Nat.le_refl _) (Nat.le_refl _) ?_
  have hd : 3 ≤ 3 := Nat.le_refl _
  refine oe_aload_n (pc := 0) d_X11_undo_0 rfl ?_
  refine oe_getr (pc := 1) d_X11_undo_1 fl_X11_10 ock11 (k := 0) (b := 1) (Nat.le_of_ble_eq_true rfl) (by decide) (oLt hK (a := 0) (Nat.le_of_ble_eq_true rfl)) (oSho hK (a := 0) (Nat.le_of_ble_eq_true rfl) rfl) (oRfK hK rfl) ?_
  obtain ⟨v1, M2, q3, h⟩ := oB2_some h
  refine oe_callV (pc := 4) (ci := 8) d_X11_undo_4 (v_X8_takeBack hK  q3) (by omega) ml_X11_297 jJ_X8_takeBack rfl rfl (oLt hK (a := 1) (Nat.le_of_ble_eq_true rfl)) (oSho hK (a := 1) (Nat.le_of_ble_eq_true rfl) rfl) ock8 rfl (Nat.le_of_ble_eq_true rfl) ⟨Nat.le_refl _, Nat.le_refl _⟩ ⟨Nat.le_refl _, Nat.le_refl _⟩ ?_
  obtain ⟨rfl, rfl⟩ := oRes h
  exact oe_iret (pc := 7) d_X11_undo_7 ⟨_, rfl, rfl⟩
theorem d_X11_redo_0 : decode J_X11_redo.2.1 0 = .ok (.aload_n 0, 1) := by decide +kernel
theorem d_X11_redo_1 : decode J_X11_redo.2.1 1 = .ok (.getfield 10, 3) := by decide +kernel
theorem d_X11_redo_4 : decode J_X11_redo.2.1 4 = .ok (.invokevirtual 300, 3) := by decide +kernel
theorem d_X11_redo_7 : decode J_X11_redo.2.1 7 = .ok (.ireturn, 1) := by decide +kernel
def f_X11_redo (N : Nat) (K : oK)  (M : oM) : Option (Int32 × oM) :=
  oB2 (f_X8_doAgain N K  M) (fun v1 M2 => some (v1, M2))
set_option maxRecDepth 20000 in
theorem v_X11_redo {X : oX} {N : Nat} {K : oK}  {M : oM} {v : Int32} {M' : oM} (hK : oSR K)  (h : f_X11_redo N K  M = some (v, M')) : oMet X 3 J_X11_redo [(.ref 0)] K M (some (.int v)) K M' := by
  unfold f_X11_redo at h
  refine oMet_of (L := [some (.ref 0)]) jJ_X11_redo.1 rfl (Nat.le_of_ble_eq_true rfl) rfl (Nat.le_refl _) (Nat.le_refl _) ?_
  have hd : 3 ≤ 3 := Nat.le_refl _
  refine oe_aload_n (pc := 0) d_X11_redo_0 rfl ?_
  refine oe_getr (pc := 1) d_X11_redo_1 fl_X11_10 ock11 (k := 0) (b := 1) (Nat.le_of_ble_eq_true rfl) (by decide) (oLt hK (a := 0) (Nat.le_of_ble_eq_true rfl)) (oSho hK (a := 0) (Nat.le_of_ble_eq_true rfl) rfl) (oRfK hK rfl) ?_
  obtain ⟨v1, M2, q3, h⟩ := oB2_some h
  refine oe_callV (pc := 4) (ci := 8) d_X11_redo_4 (v_X8_doAgain hK  q3) (by omega) ml_X11_300 jJ_X8_doAgain rfl rfl (oLt hK (a := 1) (Nat.le_of_ble_eq_true rfl)) (oSho hK (a := 1) (Nat.le_of_ble_eq_true rfl) rfl) ock8 rfl (Nat.le_of_ble_eq_true rfl) ⟨Nat.le_refl _, Nat.le_refl _⟩ ⟨Nat.le_refl _, Nat.le_refl _⟩ ?_
  obtain ⟨rfl, rfl⟩ := oRes h
  exact oe_iret (pc := 7) d_X11_redo_7 ⟨_, rfl, rfl⟩
theorem d_X11_act_0 : decode J_X11_act.2.1 0 = .ok (.aload_n 0, 1) := by decide +kernel
theorem d_X11_act_1 : decode J_X11_act.2.1 1 = .ok (.iload_n 1, 1) := by decide +kernel
theorem d_X11_act_2 : decode J_X11_act.2.1 2 = .ok (.invokevirtual 148, 3) := by decide +kernel
theorem d_X11_act_5 : decode J_X11_act.2.1 5 = .ok (.astore 4, 2) := by decide +kernel
theorem d_X11_act_7 : decode J_X11_act.2.1 7 = .ok (.aload 4, 2) := by decide +kernel
theorem d_X11_act_9 : decode J_X11_act.2.1 9 = .ok (.ifnull 12, 3) := by decide +kernel
theorem d_X11_act_12 : decode J_X11_act.2.1 12 = .ok (.iload_n 2, 1) := by decide +kernel
theorem d_X11_act_13 : decode J_X11_act.2.1 13 = .ok (.iconst 0, 1) := by decide +kernel
theorem d_X11_act_14 : decode J_X11_act.2.1 14 = .ok (.iconst 3, 1) := by decide +kernel
theorem d_X11_act_15 : decode J_X11_act.2.1 15 = .ok (.invokestatic 89, 3) := by decide +kernel
theorem d_X11_act_18 : decode J_X11_act.2.1 18 = .ok (.ifCond .ne 13, 3) := by decide +kernel
theorem d_X11_act_21 : decode J_X11_act.2.1 21 = .ok (.aload_n 0, 1) := by decide +kernel
theorem d_X11_act_22 : decode J_X11_act.2.1 22 = .ok (.getfield 78, 3) := by decide +kernel
theorem d_X11_act_25 : decode J_X11_act.2.1 25 = .ok (.iconst 0, 1) := by decide +kernel
theorem d_X11_act_26 : decode J_X11_act.2.1 26 = .ok (.putfield 303, 3) := by decide +kernel
theorem d_X11_act_29 : decode J_X11_act.2.1 29 = .ok (.iconst 0, 1) := by decide +kernel
theorem d_X11_act_30 : decode J_X11_act.2.1 30 = .ok (.ireturn, 1) := by decide +kernel
theorem d_X11_act_31 : decode J_X11_act.2.1 31 = .ok (.aload_n 0, 1) := by decide +kernel
theorem d_X11_act_32 : decode J_X11_act.2.1 32 = .ok (.getfield 78, 3) := by decide +kernel
theorem d_X11_act_35 : decode J_X11_act.2.1 35 = .ok (.aload 4, 2) := by decide +kernel
theorem d_X11_act_37 : decode J_X11_act.2.1 37 = .ok (.iload_n 2, 1) := by decide +kernel
theorem d_X11_act_38 : decode J_X11_act.2.1 38 = .ok (.iload_n 3, 1) := by decide +kernel
theorem d_X11_act_39 : decode J_X11_act.2.1 39 = .ok (.invokevirtual 306, 3) := by decide +kernel
theorem d_X11_act_42 : decode J_X11_act.2.1 42 = .ok (.ireturn, 1) := by decide +kernel
def f_X11_act_21 (N : Nat) (K : oK)   (M : oM) : Option (Int32 × oM) :=
  some (0, (oUp M 44 1 (0 : Int32)))
set_option maxRecDepth 20000 in
theorem v_X11_act_21 {X : oX} {d N : Nat} {K : oK}   {M : oM} {v : Int32} {M' : oM}  (hd : 24 ≤ d) (hK : oSR K)   (h : f_X11_act_21 N K   M = some (v, M')) : oEv X d J_X11_act 21 [some (.ref 0), none, none, none, none] [] K M (some (.int v)) K M' := by
  unfold f_X11_act_21 at h
  refine oe_aload_n (pc := 21) d_X11_act_21 rfl ?_
  refine oe_getr (pc := 22) d_X11_act_22 fl_X11_78 ock11 (k := 9) (b := 44) (Nat.le_of_ble_eq_true rfl) (by decide) (oLt hK (a := 0) (Nat.le_of_ble_eq_true rfl)) (oSho hK (a := 0) (Nat.le_of_ble_eq_true rfl) rfl) (oRfK hK rfl) ?_
  refine oe_iconst (pc := 25) (v := 0) d_X11_act_25 rfl ?_
  refine oe_putf (pc := 26) d_X11_act_26 fl_X11_303 ock0 (k := 1) (Nat.le_of_ble_eq_true rfl) rfl rfl (oLt hK (a := 44) (Nat.le_of_ble_eq_true rfl)) (oSho hK (a := 44) (Nat.le_of_ble_eq_true rfl) rfl) ?_
  refine oe_iconst (pc := 29) (v := 0) d_X11_act_29 rfl ?_
  obtain ⟨rfl, rfl⟩ := oRes h
  exact oe_iret (pc := 30) d_X11_act_30 ⟨_, rfl, rfl⟩
def f_X11_act (N : Nat) (K : oK) (p1 : Int32) (p2 : Int32) (p3 : Int32) (M : oM) : Option (Int32 × oM) :=
  oB2 (f_X11_layingAt N K p1 M) (fun v1 M2 => oCs v1 ((f_X11_act_21 N K   M2)) (fun h4 => oB2 (f_X11_within N K p2 (0 : Int32) (3 : Int32) M2) (fun v5 M6 => cond v5 (oB2 (f_X0_lead N K h4 p2 p3 M6) (fun v8 M9 => some (v8, M9))) ((f_X11_act_21 N K   M6)))))
set_option maxRecDepth 20000 in
theorem v_X11_act {X : oX} {N : Nat} {K : oK} {p1 : Int32} {p2 : Int32} {p3 : Int32} {M : oM} {v : Int32} {M' : oM} (hK : oSR K)  (h : f_X11_act N K p1 p2 p3 M = some (v, M')) : oMet X 24 J_X11_act [(.ref 0), (.int p1), (.int p2), (.int p3)] K M (some (.int v)) K M' := by
  unfold f_X11_act at h
  refine oMet_of (L := [some (.ref 0), some (.int p1), some (.int p2), some (.int p3), none]) jJ_X11_act.1 rfl (Nat.le_of_ble_eq_true rfl) rfl (Nat.le_refl _) (Nat.le_refl _) ?_
  have hd : 24 ≤ 24 := Nat.le_refl _
  refine oe_aload_n (pc := 0) d_X11_act_0 rfl ?_
  refine oe_iload_n (pc := 1) d_X11_act_1 rfl ?_
  obtain ⟨v1, M2, q3, h⟩ := oB2_some h
  cases v1 with
  | none =>
    replace h := oCsN h
    refine oe_callV (pc := 2) (ci := 11) d_X11_act_2 (v_X11_layingAt hK  q3) (by omega) ml_X11_148 jJ_X11_layingAt rfl rfl (oLt hK (a := 0) (Nat.le_of_ble_eq_true rfl)) (oSho hK (a := 0) (Nat.le_of_ble_eq_true rfl) rfl) ock11 rfl (Nat.le_of_ble_eq_true rfl) ⟨Nat.le_refl _, Nat.le_refl _⟩ ⟨Nat.le_refl _, Nat.le_refl _⟩ ?_
    refine oe_astoreN (pc := 5) (L2 := [_, _, _, _, _]) d_X11_act_5 rfl (Nat.le_of_ble_eq_true rfl) rfl ?_
    refine oe_aloadN (pc := 7) d_X11_act_7 rfl ?_
    refine oe_ifnullN (pc := 9) (tgt := 21) d_X11_act_9 (by decide) ?_
    refine oEv.fg [true, false, false, false, false] ?_
    exact v_X11_act_21 hd hK   h
  | some h4 =>
    replace h := oCsS h
    have hh_h4 : oLS K h4 := o_X11_layingAt_ok hK q3
    refine oe_callV (pc := 2) (ci := 11) d_X11_act_2 (v_X11_layingAt hK  q3) (by omega) ml_X11_148 jJ_X11_layingAt rfl rfl (oLt hK (a := 0) (Nat.le_of_ble_eq_true rfl)) (oSho hK (a := 0) (Nat.le_of_ble_eq_true rfl) rfl) ock11 rfl (Nat.le_of_ble_eq_true rfl) ⟨Nat.le_refl _, Nat.le_refl _⟩ ⟨Nat.le_refl _, Nat.le_refl _⟩ ?_
    refine oe_astore (pc := 5) (L2 := [_, _, _, _, _]) d_X11_act_5 rfl (Nat.le_of_ble_eq_true rfl) rfl ?_
    refine oe_aload (pc := 7) d_X11_act_7 rfl ?_
    refine oe_ifnull (pc := 9) d_X11_act_9 ?_
    refine oe_iload_n (pc := 12) d_X11_act_12 rfl ?_
    refine oe_iconst (pc := 13) (v := 0) d_X11_act_13 rfl ?_
    refine oe_iconst (pc := 14) (v := 3) d_X11_act_14 rfl ?_
    obtain ⟨v5, M6, q7, h⟩ := oB2_some h
    cases v5 with
    | true =>
      replace h := oCt h
      refine oe_callS (pc := 15) d_X11_act_15 (v_X11_within hK  q7) (by omega) ml_X11_89 jJ_X11_within rfl rfl (Nat.le_of_ble_eq_true rfl) ⟨Nat.le_refl _, Nat.le_refl _⟩ ⟨Nat.le_refl _, Nat.le_refl _⟩ ?_
      refine oe_if_ne (pc := 18) (tgt := 31) d_X11_act_18 (by decide) (fun _ => ?_) (fun c => absurd c (by decide))
      refine oe_aload_n (pc := 31) d_X11_act_31 rfl ?_
      refine oe_getr (pc := 32) d_X11_act_32 fl_X11_78 ock11 (k := 9) (b := 44) (Nat.le_of_ble_eq_true rfl) (by decide) (oLt hK (a := 0) (Nat.le_of_ble_eq_true rfl)) (oSho hK (a := 0) (Nat.le_of_ble_eq_true rfl) rfl) (oRfK hK rfl) ?_
      refine oe_aload (pc := 35) d_X11_act_35 rfl ?_
      refine oe_iload_n (pc := 37) d_X11_act_37 rfl ?_
      refine oe_iload_n (pc := 38) d_X11_act_38 rfl ?_
      obtain ⟨v8, M9, q10, h⟩ := oB2_some h
      refine oe_callV (pc := 39) (ci := 0) d_X11_act_39 (v_X0_lead hK hh_h4 q10) (by omega) ml_X11_306 jJ_X0_lead rfl rfl (oLt hK (a := 44) (Nat.le_of_ble_eq_true rfl)) (oSho hK (a := 44) (Nat.le_of_ble_eq_true rfl) rfl) ock0 rfl (Nat.le_of_ble_eq_true rfl) ⟨Nat.le_refl _, Nat.le_refl _⟩ ⟨Nat.le_refl _, Nat.le_refl _⟩ ?_
      obtain ⟨rfl, rfl⟩ := oRes h
      exact oe_iret (pc := 42) d_X11_act_42 ⟨_, rfl, rfl⟩
    | false =>
      replace h := oCf h
      refine oe_callS (pc := 15) d_X11_act_15 (v_X11_within hK  q7) (by omega) ml_X11_89 jJ_X11_within rfl rfl (Nat.le_of_ble_eq_true rfl) ⟨Nat.le_refl _, Nat.le_refl _⟩ ⟨Nat.le_refl _, Nat.le_refl _⟩ ?_
      refine oe_if_ne (pc := 18) (tgt := 31) d_X11_act_18 (by decide) (fun c => absurd (by decide) c) (fun _ => ?_)
      refine oEv.fg [true, false, false, false, false] ?_
      exact v_X11_act_21 hd hK   h
theorem d_X11_trace_0 : decode J_X11_trace.2.1 0 = .ok (.aload_n 0, 1) := by decide +kernel
theorem d_X11_trace_1 : decode J_X11_trace.2.1 1 = .ok (.getfield 78, 3) := by decide +kernel
theorem d_X11_trace_4 : decode J_X11_trace.2.1 4 = .ok (.iload_n 1, 1) := by decide +kernel
theorem d_X11_trace_5 : decode J_X11_trace.2.1 5 = .ok (.invokevirtual 309, 3) := by decide +kernel
theorem d_X11_trace_8 : decode J_X11_trace.2.1 8 = .ok (.ireturn, 1) := by decide +kernel
def f_X11_trace (N : Nat) (K : oK) (p1 : Int32) (M : oM) : Option (Int32 × oM) :=
  oB2 (f_X0_bodyAt N K p1 M) (fun v1 M2 => some (v1, M2))
set_option maxRecDepth 20000 in
theorem v_X11_trace {X : oX} {N : Nat} {K : oK} {p1 : Int32} {M : oM} {v : Int32} {M' : oM} (hK : oSR K)  (h : f_X11_trace N K p1 M = some (v, M')) : oMet X 2 J_X11_trace [(.ref 0), (.int p1)] K M (some (.int v)) K M' := by
  unfold f_X11_trace at h
  refine oMet_of (L := [some (.ref 0), some (.int p1)]) jJ_X11_trace.1 rfl (Nat.le_of_ble_eq_true rfl) rfl (Nat.le_refl _) (Nat.le_refl _) ?_
  have hd : 2 ≤ 2 := Nat.le_refl _
  refine oe_aload_n (pc := 0) d_X11_trace_0 rfl ?_
  refine oe_getr (pc := 1) d_X11_trace_1 fl_X11_78 ock11 (k := 9) (b := 44) (Nat.le_of_ble_eq_true rfl) (by decide) (oLt hK (a := 0) (Nat.le_of_ble_eq_true rfl)) (oSho hK (a := 0) (Nat.le_of_ble_eq_true rfl) rfl) (oRfK hK rfl) ?_
  refine oe_iload_n (pc := 4) d_X11_trace_4 rfl ?_
  obtain ⟨v1, M2, q3, h⟩ := oB2_some h
  refine oe_callV (pc := 5) (ci := 0) d_X11_trace_5 (v_X0_bodyAt hK  q3) (by omega) ml_X11_309 jJ_X0_bodyAt rfl rfl (oLt hK (a := 44) (Nat.le_of_ble_eq_true rfl)) (oSho hK (a := 44) (Nat.le_of_ble_eq_true rfl) rfl) ock0 rfl (Nat.le_of_ble_eq_true rfl) ⟨Nat.le_refl _, Nat.le_refl _⟩ ⟨Nat.le_refl _, Nat.le_refl _⟩ ?_
  obtain ⟨rfl, rfl⟩ := oRes h
  exact oe_iret (pc := 8) d_X11_trace_8 ⟨_, rfl, rfl⟩
theorem d_X11_put_0 : decode J_X11_put.2.1 0 = .ok (.aload_n 0, 1) := by decide +kernel
theorem d_X11_put_1 : decode J_X11_put.2.1 1 = .ok (.iload_n 1, 1) := by decide +kernel
theorem d_X11_put_2 : decode J_X11_put.2.1 2 = .ok (.invokevirtual 156, 3) := by decide +kernel
theorem d_X11_put_5 : decode J_X11_put.2.1 5 = .ok (.astore 5, 2) := by decide +kernel
theorem d_X11_put_7 : decode J_X11_put.2.1 7 = .ok (.aload 5, 2) := by decide +kernel
theorem d_X11_put_9 : decode J_X11_put.2.1 9 = .ok (.ifnonnull 5, 3) := by decide +kernel
theorem d_X11_put_12 : decode J_X11_put.2.1 12 = .ok (.iconst (-1), 1) := by decide +kernel
theorem d_X11_put_13 : decode J_X11_put.2.1 13 = .ok (.ireturn, 1) := by decide +kernel
theorem d_X11_put_14 : decode J_X11_put.2.1 14 = .ok (.aload 5, 2) := by decide +kernel
theorem d_X11_put_16 : decode J_X11_put.2.1 16 = .ok (.iload_n 2, 1) := by decide +kernel
theorem d_X11_put_17 : decode J_X11_put.2.1 17 = .ok (.iconst 1, 1) := by decide +kernel
theorem d_X11_put_18 : decode J_X11_put.2.1 18 = .ok (.invokevirtual 319, 3) := by decide +kernel
theorem d_X11_put_21 : decode J_X11_put.2.1 21 = .ok (.istore 6, 2) := by decide +kernel
theorem d_X11_put_23 : decode J_X11_put.2.1 23 = .ok (.iload 6, 2) := by decide +kernel
theorem d_X11_put_25 : decode J_X11_put.2.1 25 = .ok (.ifCond .eq 6, 3) := by decide +kernel
theorem d_X11_put_28 : decode J_X11_put.2.1 28 = .ok (.iload 6, 2) := by decide +kernel
theorem d_X11_put_30 : decode J_X11_put.2.1 30 = .ok (.ireturn, 1) := by decide +kernel
theorem d_X11_put_31 : decode J_X11_put.2.1 31 = .ok (.aload 5, 2) := by decide +kernel
theorem d_X11_put_33 : decode J_X11_put.2.1 33 = .ok (.getfield 322, 3) := by decide +kernel
theorem d_X11_put_36 : decode J_X11_put.2.1 36 = .ok (.iload_n 2, 1) := by decide +kernel
theorem d_X11_put_37 : decode J_X11_put.2.1 37 = .ok (.aload 5, 2) := by decide +kernel
theorem d_X11_put_39 : decode J_X11_put.2.1 39 = .ok (.lload_n 3, 1) := by decide +kernel
theorem d_X11_put_40 : decode J_X11_put.2.1 40 = .ok (.invokevirtual 326, 3) := by decide +kernel
theorem d_X11_put_43 : decode J_X11_put.2.1 43 = .ok (.lastore, 1) := by decide +kernel
theorem d_X11_put_44 : decode J_X11_put.2.1 44 = .ok (.iconst 1, 1) := by decide +kernel
theorem d_X11_put_45 : decode J_X11_put.2.1 45 = .ok (.ireturn, 1) := by decide +kernel
def f_X11_put (N : Nat) (K : oK) (p1 : Int32) (p2 : Int32) (p3 : Int64) (M : oM) : Option (Int32 × oM) :=
  oB2 (f_X11_shelfAt N K p1 M) (fun v1 M2 => oCs v1 (some ((-1), M2)) (fun h4 => oB2 (f_X9_refusal N K h4 p2 (1 : Int32) M2) (fun v5 M6 => (if v5 = 0 then oB2 (f_X9_lowest N K h4 p3 M6) (fun v9 M10 => oIx (p2) 60 (some (1, (oUpL M10 (h4 + 1) (p2 : Int32).toNatClampNeg v9)))) else some (v5, M6)))))
set_option maxRecDepth 20000 in
theorem v_X11_put {X : oX} {N : Nat} {K : oK} {p1 : Int32} {p2 : Int32} {p3 : Int64} {M : oM} {v : Int32} {M' : oM} (hK : oSR K)  (h : f_X11_put N K p1 p2 p3 M = some (v, M')) : oMet X 3 J_X11_put [(.ref 0), (.int p1), (.int p2), (.long p3)] K M (some (.int v)) K M' := by
  unfold f_X11_put at h
  refine oMet_of (L := [some (.ref 0), some (.int p1), some (.int p2), some (.long p3), none, none, none]) jJ_X11_put.1 rfl (Nat.le_of_ble_eq_true rfl) rfl (Nat.le_refl _) (Nat.le_refl _) ?_
  have hd : 3 ≤ 3 := Nat.le_refl _
  refine oe_aload_n (pc := 0) d_X11_put_0 rfl ?_
  refine oe_iload_n (pc := 1) d_X11_put_1 rfl ?_
  obtain ⟨v1, M2, q3, h⟩ := oB2_some h
  cases v1 with
  | none =>
    replace h := oCsN h
    refine oe_callV (pc := 2) (ci := 11) d_X11_put_2 (v_X11_shelfAt hK  q3) (by omega) ml_X11_156 jJ_X11_shelfAt rfl rfl (oLt hK (a := 0) (Nat.le_of_ble_eq_true rfl)) (oSho hK (a := 0) (Nat.le_of_ble_eq_true rfl) rfl) ock11 rfl (Nat.le_of_ble_eq_true rfl) ⟨Nat.le_refl _, Nat.le_refl _⟩ ⟨Nat.le_refl _, Nat.le_refl _⟩ ?_
    refine oe_astoreN (pc := 5) (L2 := [_, _, _, _, _, _, _]) d_X11_put_5 rfl (Nat.le_of_ble_eq_true rfl) rfl ?_
    refine oe_aloadN (pc := 7) d_X11_put_7 rfl ?_
    refine oe_ifnonnullN (pc := 9) d_X11_put_9 ?_
    refine oe_iconst (pc := 12) (v := (-1)) d_X11_put_12 rfl ?_
    obtain ⟨rfl, rfl⟩ := oRes h
    exact oe_iret (pc := 13) d_X11_put_13 ⟨_, rfl, rfl⟩
  | some h4 =>
    replace h := oCsS h
    have hh_h4 : oSS K h4 := o_X11_shelfAt_ok hK q3
    refine oe_callV (pc := 2) (ci := 11) d_X11_put_2 (v_X11_shelfAt hK  q3) (by omega) ml_X11_156 jJ_X11_shelfAt rfl rfl (oLt hK (a := 0) (Nat.le_of_ble_eq_true rfl)) (oSho hK (a := 0) (Nat.le_of_ble_eq_true rfl) rfl) ock11 rfl (Nat.le_of_ble_eq_true rfl) ⟨Nat.le_refl _, Nat.le_refl _⟩ ⟨Nat.le_refl _, Nat.le_refl _⟩ ?_
    refine oe_astore (pc := 5) (L2 := [_, _, _, _, _, _, _]) d_X11_put_5 rfl (Nat.le_of_ble_eq_true rfl) rfl ?_
    refine oe_aload (pc := 7) d_X11_put_7 rfl ?_
    refine oe_ifnonnull (pc := 9) (tgt := 14) d_X11_put_9 (by decide) ?_
    refine oe_aload (pc := 14) d_X11_put_14 rfl ?_
    refine oe_iload_n (pc := 16) d_X11_put_16 rfl ?_
    refine oe_iconst (pc := 17) (v := 1) d_X11_put_17 rfl ?_
    obtain ⟨v5, M6, q7, h⟩ := oB2_some h
    refine oe_callV (pc := 18) (ci := 9) d_X11_put_18 (v_X9_refusal hK hh_h4 q7) (by omega) ml_X11_319 jJ_X9_refusal rfl rfl (oSSa hh_h4 (j := 0) (Nat.le_of_ble_eq_true rfl)) (oSSo hh_h4) ock9 rfl (Nat.le_of_ble_eq_true rfl) ⟨Nat.le_refl _, Nat.le_refl _⟩ ⟨Nat.le_refl _, Nat.le_refl _⟩ ?_
    refine oe_istore (pc := 21) (L2 := [_, _, _, _, _, _, _]) d_X11_put_21 rfl (Nat.le_of_ble_eq_true rfl) rfl ?_
    refine oe_iload (pc := 23) d_X11_put_23 rfl ?_
    refine oe_if_eq (pc := 25) (tgt := 31) d_X11_put_25 (by decide) (fun c8 => ?_) (fun c8 => ?_)
    · replace h := (if_pos c8).symm.trans h
      refine oe_aload (pc := 31) d_X11_put_31 rfl ?_
      refine oe_getr (pc := 33) d_X11_put_33 fl_X11_322 ock9 (k := 0) (b := h4 + 1) (Nat.le_of_ble_eq_true rfl) (by decide) (oSSa hh_h4 (j := 0) (Nat.le_of_ble_eq_true rfl)) (oSSo hh_h4) (oSSf hh_h4) ?_
      refine oe_iload_n (pc := 36) d_X11_put_36 rfl ?_
      refine oe_aload (pc := 37) d_X11_put_37 rfl ?_
      refine oe_lload_n (pc := 39) d_X11_put_39 rfl ?_
      obtain ⟨v9, M10, q11, h⟩ := oB2_some h
      refine oe_callV (pc := 40) (ci := 9) d_X11_put_40 (v_X9_lowest hK hh_h4 q11) (by omega) ml_X11_326 jJ_X9_lowest rfl rfl (oSSa hh_h4 (j := 0) (Nat.le_of_ble_eq_true rfl)) (oSSo hh_h4) ock9 rfl (Nat.le_of_ble_eq_true rfl) ⟨Nat.le_refl _, Nat.le_refl _⟩ ⟨Nat.le_refl _, Nat.le_refl _⟩ ?_
      obtain ⟨i12, h⟩ := oIx_some h
      refine oe_last (pc := 43) d_X11_put_43 (oSSa hh_h4 (j := 1) (Nat.le_of_ble_eq_true rfl)) (oSSr hh_h4) i12 ?_
      refine oe_iconst (pc := 44) (v := 1) d_X11_put_44 rfl ?_
      obtain ⟨rfl, rfl⟩ := oRes h
      exact oe_iret (pc := 45) d_X11_put_45 ⟨_, rfl, rfl⟩
    · replace h := (if_neg c8).symm.trans h
      refine oe_iload (pc := 28) d_X11_put_28 rfl ?_
      obtain ⟨rfl, rfl⟩ := oRes h
      exact oe_iret (pc := 30) d_X11_put_30 ⟨_, rfl, rfl⟩
theorem d_X11_element_0 : decode J_X11_element.2.1 0 = .ok (.aload_n 0, 1) := by decide +kernel
theorem d_X11_element_1 : decode J_X11_element.2.1 1 = .ok (.iload_n 1, 1) := by decide +kernel
theorem d_X11_element_2 : decode J_X11_element.2.1 2 = .ok (.invokevirtual 156, 3) := by decide +kernel
theorem d_X11_element_5 : decode J_X11_element.2.1 5 = .ok (.astore_n 3, 1) := by decide +kernel
theorem d_X11_element_6 : decode J_X11_element.2.1 6 = .ok (.aload_n 3, 1) := by decide +kernel
theorem d_X11_element_7 : decode J_X11_element.2.1 7 = .ok (.ifnull 12, 3) := by decide +kernel
theorem d_X11_element_10 : decode J_X11_element.2.1 10 = .ok (.aload_n 3, 1) := by decide +kernel
theorem d_X11_element_11 : decode J_X11_element.2.1 11 = .ok (.iload_n 2, 1) := by decide +kernel
theorem d_X11_element_12 : decode J_X11_element.2.1 12 = .ok (.iconst 1, 1) := by decide +kernel
theorem d_X11_element_13 : decode J_X11_element.2.1 13 = .ok (.invokevirtual 319, 3) := by decide +kernel
theorem d_X11_element_16 : decode J_X11_element.2.1 16 = .ok (.ifCond .eq 9, 3) := by decide +kernel
theorem d_X11_element_19 : decode J_X11_element.2.1 19 = .ok (.ldc2_w 330, 3) := by decide +kernel
theorem d_X11_element_22 : decode J_X11_element.2.1 22 = .ok (.goto 9, 3) := by decide +kernel
theorem d_X11_element_25 : decode J_X11_element.2.1 25 = .ok (.aload_n 3, 1) := by decide +kernel
theorem d_X11_element_26 : decode J_X11_element.2.1 26 = .ok (.getfield 322, 3) := by decide +kernel
theorem d_X11_element_29 : decode J_X11_element.2.1 29 = .ok (.iload_n 2, 1) := by decide +kernel
theorem d_X11_element_30 : decode J_X11_element.2.1 30 = .ok (.laload, 1) := by decide +kernel
theorem d_X11_element_31 : decode J_X11_element.2.1 31 = .ok (.lreturn, 1) := by decide +kernel
def f_X11_element_19 (N : Nat) (K : oK)   (M : oM) : Option (Int64 × oM) :=
  some ((-9223372036854775808), M)
set_option maxRecDepth 20000 in
theorem v_X11_element_19 {X : oX} {d N : Nat} {K : oK}   {M : oM} {v : Int64} {M' : oM}  (hd : 3 ≤ d) (hK : oSR K)   (h : f_X11_element_19 N K   M = some (v, M')) : oEv X d J_X11_element 19 [none, none, none, none] [] K M (some (.long v)) K M' := by
  unfold f_X11_element_19 at h
  refine oe_ldc2 (pc := 19) d_X11_element_19 co_X11_330 ?_
  refine oe_goto (pc := 22) (tgt := 31) d_X11_element_22 (by decide) ?_
  obtain ⟨rfl, rfl⟩ := oRes h
  exact oe_lret (pc := 31) d_X11_element_31 rfl
def f_X11_element (N : Nat) (K : oK) (p1 : Int32) (p2 : Int32) (M : oM) : Option (Int64 × oM) :=
  oB2 (f_X11_shelfAt N K p1 M) (fun v1 M2 => oCs v1 ((f_X11_element_19 N K   M2)) (fun h4 => oB2 (f_X9_refusal N K h4 p2 (1 : Int32) M2) (fun v5 M6 => (if v5 = 0 then oIx (p2) 60 (some ((M6.2 (h4 + 1) (p2 : Int32).toNatClampNeg), M6)) else (f_X11_element_19 N K   M6)))))
set_option maxRecDepth 20000 in
theorem v_X11_element {X : oX} {N : Nat} {K : oK} {p1 : Int32} {p2 : Int32} {M : oM} {v : Int64} {M' : oM} (hK : oSR K)  (h : f_X11_element N K p1 p2 M = some (v, M')) : oMet X 3 J_X11_element [(.ref 0), (.int p1), (.int p2)] K M (some (.long v)) K M' := by
  unfold f_X11_element at h
  refine oMet_of (L := [some (.ref 0), some (.int p1), some (.int p2), none]) jJ_X11_element.1 rfl (Nat.le_of_ble_eq_true rfl) rfl (Nat.le_refl _) (Nat.le_refl _) ?_
  have hd : 3 ≤ 3 := Nat.le_refl _
  refine oe_aload_n (pc := 0) d_X11_element_0 rfl ?_
  refine oe_iload_n (pc := 1) d_X11_element_1 rfl ?_
  obtain ⟨v1, M2, q3, h⟩ := oB2_some h
  cases v1 with
  | none =>
    replace h := oCsN h
    refine oe_callV (pc := 2) (ci := 11) d_X11_element_2 (v_X11_shelfAt hK  q3) (by omega) ml_X11_156 jJ_X11_shelfAt rfl rfl (oLt hK (a := 0) (Nat.le_of_ble_eq_true rfl)) (oSho hK (a := 0) (Nat.le_of_ble_eq_true rfl) rfl) ock11 rfl (Nat.le_of_ble_eq_true rfl) ⟨Nat.le_refl _, Nat.le_refl _⟩ ⟨Nat.le_refl _, Nat.le_refl _⟩ ?_
    refine oe_astore_nN (pc := 5) (L2 := [_, _, _, _]) d_X11_element_5 rfl rfl (Nat.le_of_ble_eq_true rfl) rfl ?_
    refine oe_aload_nN (pc := 6) d_X11_element_6 rfl ?_
    refine oe_ifnullN (pc := 7) (tgt := 19) d_X11_element_7 (by decide) ?_
    refine oEv.fg [false, false, false, false] ?_
    exact v_X11_element_19 hd hK   h
  | some h4 =>
    replace h := oCsS h
    have hh_h4 : oSS K h4 := o_X11_shelfAt_ok hK q3
    refine oe_callV (pc := 2) (ci := 11) d_X11_element_2 (v_X11_shelfAt hK  q3) (by omega) ml_X11_156 jJ_X11_shelfAt rfl rfl (oLt hK (a := 0) (Nat.le_of_ble_eq_true rfl)) (oSho hK (a := 0) (Nat.le_of_ble_eq_true rfl) rfl) ock11 rfl (Nat.le_of_ble_eq_true rfl) ⟨Nat.le_refl _, Nat.le_refl _⟩ ⟨Nat.le_refl _, Nat.le_refl _⟩ ?_
    refine oe_astore_n (pc := 5) (L2 := [_, _, _, _]) d_X11_element_5 rfl rfl (Nat.le_of_ble_eq_true rfl) rfl ?_
    refine oe_aload_n (pc := 6) d_X11_element_6 rfl ?_
    refine oe_ifnull (pc := 7) d_X11_element_7 ?_
    refine oe_aload_n (pc := 10) d_X11_element_10 rfl ?_
    refine oe_iload_n (pc := 11) d_X11_element_11 rfl ?_
    refine oe_iconst (pc := 12) (v := 1) d_X11_element_12 rfl ?_
    obtain ⟨v5, M6, q7, h⟩ := oB2_some h
    refine oe_callV (pc := 13) (ci := 9) d_X11_element_13 (v_X9_refusal hK hh_h4 q7) (by omega) ml_X11_319 jJ_X9_refusal rfl rfl (oSSa hh_h4 (j := 0) (Nat.le_of_ble_eq_true rfl)) (oSSo hh_h4) ock9 rfl (Nat.le_of_ble_eq_true rfl) ⟨Nat.le_refl _, Nat.le_refl _⟩ ⟨Nat.le_refl _, Nat.le_refl _⟩ ?_
    refine oe_if_eq (pc := 16) (tgt := 25) d_X11_element_16 (by decide) (fun c8 => ?_) (fun c8 => ?_)
    · replace h := (if_pos c8).symm.trans h
      refine oe_aload_n (pc := 25) d_X11_element_25 rfl ?_
      refine oe_getr (pc := 26) d_X11_element_26 fl_X11_322 ock9 (k := 0) (b := h4 + 1) (Nat.le_of_ble_eq_true rfl) (by decide) (oSSa hh_h4 (j := 0) (Nat.le_of_ble_eq_true rfl)) (oSSo hh_h4) (oSSf hh_h4) ?_
      refine oe_iload_n (pc := 29) d_X11_element_29 rfl ?_
      obtain ⟨i9, h⟩ := oIx_some h
      refine oe_lald (pc := 30) d_X11_element_30 (oSSa hh_h4 (j := 1) (Nat.le_of_ble_eq_true rfl)) (oSSr hh_h4) i9 ?_
      obtain ⟨rfl, rfl⟩ := oRes h
      exact oe_lret (pc := 31) d_X11_element_31 rfl
    · replace h := (if_neg c8).symm.trans h
      refine oEv.fg [false, false, false, false] ?_
      exact v_X11_element_19 hd hK   h
theorem d_X11_shift_0 : decode J_X11_shift.2.1 0 = .ok (.aload_n 0, 1) := by decide +kernel
theorem d_X11_shift_1 : decode J_X11_shift.2.1 1 = .ok (.iload_n 1, 1) := by decide +kernel
theorem d_X11_shift_2 : decode J_X11_shift.2.1 2 = .ok (.invokevirtual 156, 3) := by decide +kernel
theorem d_X11_shift_5 : decode J_X11_shift.2.1 5 = .ok (.astore 6, 2) := by decide +kernel
theorem d_X11_shift_7 : decode J_X11_shift.2.1 7 = .ok (.aload_n 0, 1) := by decide +kernel
theorem d_X11_shift_8 : decode J_X11_shift.2.1 8 = .ok (.iload_n 3, 1) := by decide +kernel
theorem d_X11_shift_9 : decode J_X11_shift.2.1 9 = .ok (.invokevirtual 156, 3) := by decide +kernel
theorem d_X11_shift_12 : decode J_X11_shift.2.1 12 = .ok (.astore 7, 2) := by decide +kernel
theorem d_X11_shift_14 : decode J_X11_shift.2.1 14 = .ok (.aload 6, 2) := by decide +kernel
theorem d_X11_shift_16 : decode J_X11_shift.2.1 16 = .ok (.ifnull 8, 3) := by decide +kernel
theorem d_X11_shift_19 : decode J_X11_shift.2.1 19 = .ok (.aload 7, 2) := by decide +kernel
theorem d_X11_shift_21 : decode J_X11_shift.2.1 21 = .ok (.ifnonnull 5, 3) := by decide +kernel
theorem d_X11_shift_24 : decode J_X11_shift.2.1 24 = .ok (.iconst (-1), 1) := by decide +kernel
theorem d_X11_shift_25 : decode J_X11_shift.2.1 25 = .ok (.ireturn, 1) := by decide +kernel
theorem d_X11_shift_26 : decode J_X11_shift.2.1 26 = .ok (.aload 6, 2) := by decide +kernel
theorem d_X11_shift_28 : decode J_X11_shift.2.1 28 = .ok (.getfield 160, 3) := by decide +kernel
theorem d_X11_shift_31 : decode J_X11_shift.2.1 31 = .ok (.ifCond .eq 11, 3) := by decide +kernel
theorem d_X11_shift_34 : decode J_X11_shift.2.1 34 = .ok (.aload 7, 2) := by decide +kernel
theorem d_X11_shift_36 : decode J_X11_shift.2.1 36 = .ok (.getfield 160, 3) := by decide +kernel
theorem d_X11_shift_39 : decode J_X11_shift.2.1 39 = .ok (.ifCond .ne 6, 3) := by decide +kernel
theorem d_X11_shift_42 : decode J_X11_shift.2.1 42 = .ok (.bipush (-11), 2) := by decide +kernel
theorem d_X11_shift_44 : decode J_X11_shift.2.1 44 = .ok (.ireturn, 1) := by decide +kernel
theorem d_X11_shift_45 : decode J_X11_shift.2.1 45 = .ok (.aload 6, 2) := by decide +kernel
theorem d_X11_shift_47 : decode J_X11_shift.2.1 47 = .ok (.getfield 160, 3) := by decide +kernel
theorem d_X11_shift_50 : decode J_X11_shift.2.1 50 = .ok (.iconst 2, 1) := by decide +kernel
theorem d_X11_shift_51 : decode J_X11_shift.2.1 51 = .ok (.if_icmp .ne 25, 3) := by decide +kernel
theorem d_X11_shift_54 : decode J_X11_shift.2.1 54 = .ok (.aload 7, 2) := by decide +kernel
theorem d_X11_shift_56 : decode J_X11_shift.2.1 56 = .ok (.getfield 160, 3) := by decide +kernel
theorem d_X11_shift_59 : decode J_X11_shift.2.1 59 = .ok (.iconst 2, 1) := by decide +kernel
theorem d_X11_shift_60 : decode J_X11_shift.2.1 60 = .ok (.if_icmp .ne 16, 3) := by decide +kernel
theorem d_X11_shift_63 : decode J_X11_shift.2.1 63 = .ok (.aload 6, 2) := by decide +kernel
theorem d_X11_shift_65 : decode J_X11_shift.2.1 65 = .ok (.getfield 163, 3) := by decide +kernel
theorem d_X11_shift_68 : decode J_X11_shift.2.1 68 = .ok (.aload 7, 2) := by decide +kernel
theorem d_X11_shift_70 : decode J_X11_shift.2.1 70 = .ok (.getfield 163, 3) := by decide +kernel
theorem d_X11_shift_73 : decode J_X11_shift.2.1 73 = .ok (.if_icmp .eq 6, 3) := by decide +kernel
theorem d_X11_shift_76 : decode J_X11_shift.2.1 76 = .ok (.bipush (-12), 2) := by decide +kernel
theorem d_X11_shift_78 : decode J_X11_shift.2.1 78 = .ok (.ireturn, 1) := by decide +kernel
theorem d_X11_shift_79 : decode J_X11_shift.2.1 79 = .ok (.aload 6, 2) := by decide +kernel
theorem d_X11_shift_81 : decode J_X11_shift.2.1 81 = .ok (.iload_n 2, 1) := by decide +kernel
theorem d_X11_shift_82 : decode J_X11_shift.2.1 82 = .ok (.iload 5, 2) := by decide +kernel
theorem d_X11_shift_84 : decode J_X11_shift.2.1 84 = .ok (.invokevirtual 319, 3) := by decide +kernel
theorem d_X11_shift_87 : decode J_X11_shift.2.1 87 = .ok (.ifCond .ne 15, 3) := by decide +kernel
theorem d_X11_shift_90 : decode J_X11_shift.2.1 90 = .ok (.aload 7, 2) := by decide +kernel
theorem d_X11_shift_92 : decode J_X11_shift.2.1 92 = .ok (.iload 4, 2) := by decide +kernel
theorem d_X11_shift_94 : decode J_X11_shift.2.1 94 = .ok (.iload 5, 2) := by decide +kernel
theorem d_X11_shift_96 : decode J_X11_shift.2.1 96 = .ok (.invokevirtual 319, 3) := by decide +kernel
theorem d_X11_shift_99 : decode J_X11_shift.2.1 99 = .ok (.ifCond .eq 6, 3) := by decide +kernel
theorem d_X11_shift_102 : decode J_X11_shift.2.1 102 = .ok (.bipush (-13), 2) := by decide +kernel
theorem d_X11_shift_104 : decode J_X11_shift.2.1 104 = .ok (.ireturn, 1) := by decide +kernel
theorem d_X11_shift_105 : decode J_X11_shift.2.1 105 = .ok (.aload 6, 2) := by decide +kernel
theorem d_X11_shift_107 : decode J_X11_shift.2.1 107 = .ok (.getfield 322, 3) := by decide +kernel
theorem d_X11_shift_110 : decode J_X11_shift.2.1 110 = .ok (.iload_n 2, 1) := by decide +kernel
theorem d_X11_shift_111 : decode J_X11_shift.2.1 111 = .ok (.aload 7, 2) := by decide +kernel
theorem d_X11_shift_113 : decode J_X11_shift.2.1 113 = .ok (.getfield 322, 3) := by decide +kernel
theorem d_X11_shift_116 : decode J_X11_shift.2.1 116 = .ok (.iload 4, 2) := by decide +kernel
theorem d_X11_shift_118 : decode J_X11_shift.2.1 118 = .ok (.iload 5, 2) := by decide +kernel
theorem d_X11_shift_120 : decode J_X11_shift.2.1 120 = .ok (.invokestatic 332, 3) := by decide +kernel
theorem d_X11_shift_123 : decode J_X11_shift.2.1 123 = .ok (.iload 5, 2) := by decide +kernel
theorem d_X11_shift_125 : decode J_X11_shift.2.1 125 = .ok (.ireturn, 1) := by decide +kernel
def f_X11_shift (N : Nat) (K : oK) (p1 : Int32) (p2 : Int32) (p3 : Int32) (p4 : Int32) (p5 : Int32) (M : oM) : Option (Int32 × oM) :=
  oB2 (f_X11_shelfAt N K p1 M) (fun v1 M2 => oCs v1 (oB2 (f_X11_shelfAt N K p3 M2) (fun v5 M6 => oCs v5 (some ((-1), M6)) (fun h8 => some ((-1), M6)))) (fun h4 => oB2 (f_X11_shelfAt N K p3 M2) (fun v9 M10 => oCs v9 (some ((-1), M10)) (fun h12 => (if (M10.1 h4 1) = 0 then some ((-11), M10) else (if (M10.1 h12 1) = 0 then some ((-11), M10) else (if (M10.1 h4 1) = 2 then (if (M10.1 h12 1) = 2 then (if (M10.1 h4 3) = (M10.1 h12 3) then oB2 (f_X9_refusal N K h4 p2 p5 M10) (fun v18 M19 => (if v18 = 0 then oB2 (f_X9_refusal N K h12 p4 p5 M19) (fun v22 M23 => (if v22 = 0 then oCpOk (p2) (p4) (p5) 60 60 (some (p5, (oRowL M23 (h12 + 1) (va_cpy (M23.2 (h4 + 1)) (M23.2 (h12 + 1)) (p2 : Int32).toNatClampNeg (p4 : Int32).toNatClampNeg (p5 : Int32).toNatClampNeg)))) else some ((-13), M23))) else some ((-13), M19))) else some ((-12), M10)) else some ((-12), M10)) else some ((-12), M10))))))))
set_option maxRecDepth 20000 in
theorem v_X11_shift {X : oX} {N : Nat} {K : oK} {p1 : Int32} {p2 : Int32} {p3 : Int32} {p4 : Int32} {p5 : Int32} {M : oM} {v : Int32} {M' : oM} (hK : oSR K)  (h : f_X11_shift N K p1 p2 p3 p4 p5 M = some (v, M')) : oMet X 3 J_X11_shift [(.ref 0), (.int p1), (.int p2), (.int p3), (.int p4), (.int p5)] K M (some (.int v)) K M' := by
  unfold f_X11_shift at h
  refine oMet_of (L := [some (.ref 0), some (.int p1), some (.int p2), some (.int p3), some (.int p4), some (.int p5), none, none]) jJ_X11_shift.1 rfl (Nat.le_of_ble_eq_true rfl) rfl (Nat.le_refl _) (Nat.le_refl _) ?_
  have hd : 3 ≤ 3 := Nat.le_refl _
  refine oe_aload_n (pc := 0) d_X11_shift_0 rfl ?_
  refine oe_iload_n (pc := 1) d_X11_shift_1 rfl ?_
  obtain ⟨v1, M2, q3, h⟩ := oB2_some h
  cases v1 with
  | none =>
    replace h := oCsN h
    refine oe_callV (pc := 2) (ci := 11) d_X11_shift_2 (v_X11_shelfAt hK  q3) (by omega) ml_X11_156 jJ_X11_shelfAt rfl rfl (oLt hK (a := 0) (Nat.le_of_ble_eq_true rfl)) (oSho hK (a := 0) (Nat.le_of_ble_eq_true rfl) rfl) ock11 rfl (Nat.le_of_ble_eq_true rfl) ⟨Nat.le_refl _, Nat.le_refl _⟩ ⟨Nat.le_refl _, Nat.le_refl _⟩ ?_
    refine oe_astoreN (pc := 5) (L2 := [_, _, _, _, _, _, _, _]) d_X11_shift_5 rfl (Nat.le_of_ble_eq_true rfl) rfl ?_
    refine oe_aload_n (pc := 7) d_X11_shift_7 rfl ?_
    refine oe_iload_n (pc := 8) d_X11_shift_8 rfl ?_
    obtain ⟨v5, M6, q7, h⟩ := oB2_some h
    cases v5 with
    | none =>
      replace h := oCsN h
      refine oe_callV (pc := 9) (ci := 11) d_X11_shift_9 (v_X11_shelfAt hK  q7) (by omega) ml_X11_156 jJ_X11_shelfAt rfl rfl (oLt hK (a := 0) (Nat.le_of_ble_eq_true rfl)) (oSho hK (a := 0) (Nat.le_of_ble_eq_true rfl) rfl) ock11 rfl (Nat.le_of_ble_eq_true rfl) ⟨Nat.le_refl _, Nat.le_refl _⟩ ⟨Nat.le_refl _, Nat.le_refl _⟩ ?_
      refine oe_astoreN (pc := 12) (L2 := [_, _, _, _, _, _, _, _]) d_X11_shift_12 rfl (Nat.le_of_ble_eq_true rfl) rfl ?_
      refine oe_aloadN (pc := 14) d_X11_shift_14 rfl ?_
      refine oe_ifnullN (pc := 16) (tgt := 24) d_X11_shift_16 (by decide) ?_
      refine oe_iconst (pc := 24) (v := (-1)) d_X11_shift_24 rfl ?_
      obtain ⟨rfl, rfl⟩ := oRes h
      exact oe_iret (pc := 25) d_X11_shift_25 ⟨_, rfl, rfl⟩
    | some h8 =>
      replace h := oCsS h
      have hh_h8 : oSS K h8 := o_X11_shelfAt_ok hK q7
      refine oe_callV (pc := 9) (ci := 11) d_X11_shift_9 (v_X11_shelfAt hK  q7) (by omega) ml_X11_156 jJ_X11_shelfAt rfl rfl (oLt hK (a := 0) (Nat.le_of_ble_eq_true rfl)) (oSho hK (a := 0) (Nat.le_of_ble_eq_true rfl) rfl) ock11 rfl (Nat.le_of_ble_eq_true rfl) ⟨Nat.le_refl _, Nat.le_refl _⟩ ⟨Nat.le_refl _, Nat.le_refl _⟩ ?_
      refine oe_astore (pc := 12) (L2 := [_, _, _, _, _, _, _, _]) d_X11_shift_12 rfl (Nat.le_of_ble_eq_true rfl) rfl ?_
      refine oe_aloadN (pc := 14) d_X11_shift_14 rfl ?_
      refine oe_ifnullN (pc := 16) (tgt := 24) d_X11_shift_16 (by decide) ?_
      refine oe_iconst (pc := 24) (v := (-1)) d_X11_shift_24 rfl ?_
      obtain ⟨rfl, rfl⟩ := oRes h
      exact oe_iret (pc := 25) d_X11_shift_25 ⟨_, rfl, rfl⟩
  | some h4 =>
    replace h := oCsS h
    have hh_h4 : oSS K h4 := o_X11_shelfAt_ok hK q3
    refine oe_callV (pc := 2) (ci := 11) d_X11_shift_2 (v_X11_shelfAt hK  q3) (by omega) ml_X11_156 jJ_X11_shelfAt rfl rfl (oLt hK (a := 0) (Nat.le_of_ble_eq_true rfl)) (oSho hK (a := 0) (Nat.le_of_ble_eq_true rfl) rfl) ock11 rfl (Nat.le_of_ble_eq_true rfl) ⟨Nat.le_refl _, Nat.le_refl _⟩ ⟨Nat.le_refl _, Nat.le_refl _⟩ ?_
    refine oe_astore (pc := 5) (L2 := [_, _, _, _, _, _, _, _]) d_X11_shift_5 rfl (Nat.le_of_ble_eq_true rfl) rfl ?_
    refine oe_aload_n (pc := 7) d_X11_shift_7 rfl ?_
    refine oe_iload_n (pc := 8) d_X11_shift_8 rfl ?_
    obtain ⟨v9, M10, q11, h⟩ := oB2_some h
    cases v9 with
    | none =>
      replace h := oCsN h
      refine oe_callV (pc := 9) (ci := 11) d_X11_shift_9 (v_X11_shelfAt hK  q11) (by omega) ml_X11_156 jJ_X11_shelfAt rfl rfl (oLt hK (a := 0) (Nat.le_of_ble_eq_true rfl)) (oSho hK (a := 0) (Nat.le_of_ble_eq_true rfl) rfl) ock11 rfl (Nat.le_of_ble_eq_true rfl) ⟨Nat.le_refl _, Nat.le_refl _⟩ ⟨Nat.le_refl _, Nat.le_refl _⟩ ?_
      refine oe_astoreN (pc := 12) (L2 := [_, _, _, _, _, _, _, _]) d_X11_shift_12 rfl (Nat.le_of_ble_eq_true rfl) rfl ?_
      refine oe_aload (pc := 14) d_X11_shift_14 rfl ?_
      refine oe_ifnull (pc := 16) d_X11_shift_16 ?_
      refine oe_aloadN (pc := 19) d_X11_shift_19 rfl ?_
      refine oe_ifnonnullN (pc := 21) d_X11_shift_21 ?_
      refine oe_iconst (pc := 24) (v := (-1)) d_X11_shift_24 rfl ?_
      obtain ⟨rfl, rfl⟩ := oRes h
      exact oe_iret (pc := 25) d_X11_shift_25 ⟨_, rfl, rfl⟩
    | some h12 =>
      replace h := oCsS h
      have hh_h12 : oSS K h12 := o_X11_shelfAt_ok hK q11
      refine oe_callV (pc := 9) (ci := 11) d_X11_shift_9 (v_X11_shelfAt hK  q11) (by omega) ml_X11_156 jJ_X11_shelfAt rfl rfl (oLt hK (a := 0) (Nat.le_of_ble_eq_true rfl)) (oSho hK (a := 0) (Nat.le_of_ble_eq_true rfl) rfl) ock11 rfl (Nat.le_of_ble_eq_true rfl) ⟨Nat.le_refl _, Nat.le_refl _⟩ ⟨Nat.le_refl _, Nat.le_refl _⟩ ?_
      refine oe_astore (pc := 12) (L2 := [_, _, _, _, _, _, _, _]) d_X11_shift_12 rfl (Nat.le_of_ble_eq_true rfl) rfl ?_
      refine oe_aload (pc := 14) d_X11_shift_14 rfl ?_
      refine oe_ifnull (pc := 16) d_X11_shift_16 ?_
      refine oe_aload (pc := 19) d_X11_shift_19 rfl ?_
      refine oe_ifnonnull (pc := 21) (tgt := 26) d_X11_shift_21 (by decide) ?_
      refine oe_aload (pc := 26) d_X11_shift_26 rfl ?_
      refine oe_getf (pc := 28) d_X11_shift_28 fl_X11_160 ock9 (k := 1) (Nat.le_of_ble_eq_true rfl) rfl (oSSa hh_h4 (j := 0) (Nat.le_of_ble_eq_true rfl)) (oSSo hh_h4) ?_
      refine oe_if_eq (pc := 31) (tgt := 42) d_X11_shift_31 (by decide) (fun c13 => ?_) (fun c13 => ?_)
      · replace h := (if_pos c13).symm.trans h
        refine oe_bipush (pc := 42) (v := (-11)) d_X11_shift_42 rfl ?_
        obtain ⟨rfl, rfl⟩ := oRes h
        exact oe_iret (pc := 44) d_X11_shift_44 ⟨_, rfl, rfl⟩
      · replace h := (if_neg c13).symm.trans h
        refine oe_aload (pc := 34) d_X11_shift_34 rfl ?_
        refine oe_getf (pc := 36) d_X11_shift_36 fl_X11_160 ock9 (k := 1) (Nat.le_of_ble_eq_true rfl) rfl (oSSa hh_h12 (j := 0) (Nat.le_of_ble_eq_true rfl)) (oSSo hh_h12) ?_
        refine oe_if_ne (pc := 39) (tgt := 45) d_X11_shift_39 (by decide) (fun c14 => ?_) (fun c14 => ?_)
        · replace h := (if_neg c14).symm.trans h
          refine oe_aload (pc := 45) d_X11_shift_45 rfl ?_
          refine oe_getf (pc := 47) d_X11_shift_47 fl_X11_160 ock9 (k := 1) (Nat.le_of_ble_eq_true rfl) rfl (oSSa hh_h4 (j := 0) (Nat.le_of_ble_eq_true rfl)) (oSSo hh_h4) ?_
          refine oe_iconst (pc := 50) (v := 2) d_X11_shift_50 rfl ?_
          refine oe_icmp_ne (pc := 51) (tgt := 76) d_X11_shift_51 (by decide) (fun c15 => ?_) (fun c15 => ?_)
          · replace h := (if_neg c15).symm.trans h
            refine oe_bipush (pc := 76) (v := (-12)) d_X11_shift_76 rfl ?_
            obtain ⟨rfl, rfl⟩ := oRes h
            exact oe_iret (pc := 78) d_X11_shift_78 ⟨_, rfl, rfl⟩
          · replace h := (if_pos c15).symm.trans h
            refine oe_aload (pc := 54) d_X11_shift_54 rfl ?_
            refine oe_getf (pc := 56) d_X11_shift_56 fl_X11_160 ock9 (k := 1) (Nat.le_of_ble_eq_true rfl) rfl (oSSa hh_h12 (j := 0) (Nat.le_of_ble_eq_true rfl)) (oSSo hh_h12) ?_
            refine oe_iconst (pc := 59) (v := 2) d_X11_shift_59 rfl ?_
            refine oe_icmp_ne (pc := 60) (tgt := 76) d_X11_shift_60 (by decide) (fun c16 => ?_) (fun c16 => ?_)
            · replace h := (if_neg c16).symm.trans h
              refine oe_bipush (pc := 76) (v := (-12)) d_X11_shift_76 rfl ?_
              obtain ⟨rfl, rfl⟩ := oRes h
              exact oe_iret (pc := 78) d_X11_shift_78 ⟨_, rfl, rfl⟩
            · replace h := (if_pos c16).symm.trans h
              refine oe_aload (pc := 63) d_X11_shift_63 rfl ?_
              refine oe_getf (pc := 65) d_X11_shift_65 fl_X11_163 ock9 (k := 3) (Nat.le_of_ble_eq_true rfl) rfl (oSSa hh_h4 (j := 0) (Nat.le_of_ble_eq_true rfl)) (oSSo hh_h4) ?_
              refine oe_aload (pc := 68) d_X11_shift_68 rfl ?_
              refine oe_getf (pc := 70) d_X11_shift_70 fl_X11_163 ock9 (k := 3) (Nat.le_of_ble_eq_true rfl) rfl (oSSa hh_h12 (j := 0) (Nat.le_of_ble_eq_true rfl)) (oSSo hh_h12) ?_
              refine oe_icmp_eq (pc := 73) (tgt := 79) d_X11_shift_73 (by decide) (fun c17 => ?_) (fun c17 => ?_)
              · replace h := (if_pos c17).symm.trans h
                refine oe_aload (pc := 79) d_X11_shift_79 rfl ?_
                refine oe_iload_n (pc := 81) d_X11_shift_81 rfl ?_
                refine oe_iload (pc := 82) d_X11_shift_82 rfl ?_
                obtain ⟨v18, M19, q20, h⟩ := oB2_some h
                refine oe_callV (pc := 84) (ci := 9) d_X11_shift_84 (v_X9_refusal hK hh_h4 q20) (by omega) ml_X11_319 jJ_X9_refusal rfl rfl (oSSa hh_h4 (j := 0) (Nat.le_of_ble_eq_true rfl)) (oSSo hh_h4) ock9 rfl (Nat.le_of_ble_eq_true rfl) ⟨Nat.le_refl _, Nat.le_refl _⟩ ⟨Nat.le_refl _, Nat.le_refl _⟩ ?_
                refine oe_if_ne (pc := 87) (tgt := 102) d_X11_shift_87 (by decide) (fun c21 => ?_) (fun c21 => ?_)
                · replace h := (if_neg c21).symm.trans h
                  refine oe_bipush (pc := 102) (v := (-13)) d_X11_shift_102 rfl ?_
                  obtain ⟨rfl, rfl⟩ := oRes h
                  exact oe_iret (pc := 104) d_X11_shift_104 ⟨_, rfl, rfl⟩
                · replace h := (if_pos c21).symm.trans h
                  refine oe_aload (pc := 90) d_X11_shift_90 rfl ?_
                  refine oe_iload (pc := 92) d_X11_shift_92 rfl ?_
                  refine oe_iload (pc := 94) d_X11_shift_94 rfl ?_
                  obtain ⟨v22, M23, q24, h⟩ := oB2_some h
                  refine oe_callV (pc := 96) (ci := 9) d_X11_shift_96 (v_X9_refusal hK hh_h12 q24) (by omega) ml_X11_319 jJ_X9_refusal rfl rfl (oSSa hh_h12 (j := 0) (Nat.le_of_ble_eq_true rfl)) (oSSo hh_h12) ock9 rfl (Nat.le_of_ble_eq_true rfl) ⟨Nat.le_refl _, Nat.le_refl _⟩ ⟨Nat.le_refl _, Nat.le_refl _⟩ ?_
                  refine oe_if_eq (pc := 99) (tgt := 105) d_X11_shift_99 (by decide) (fun c25 => ?_) (fun c25 => ?_)
                  · replace h := (if_pos c25).symm.trans h
                    refine oe_aload (pc := 105) d_X11_shift_105 rfl ?_
                    refine oe_getr (pc := 107) d_X11_shift_107 fl_X11_322 ock9 (k := 0) (b := h4 + 1) (Nat.le_of_ble_eq_true rfl) (by decide) (oSSa hh_h4 (j := 0) (Nat.le_of_ble_eq_true rfl)) (oSSo hh_h4) (oSSf hh_h4) ?_
                    refine oe_iload_n (pc := 110) d_X11_shift_110 rfl ?_
                    refine oe_aload (pc := 111) d_X11_shift_111 rfl ?_
                    refine oe_getr (pc := 113) d_X11_shift_113 fl_X11_322 ock9 (k := 0) (b := h12 + 1) (Nat.le_of_ble_eq_true rfl) (by decide) (oSSa hh_h12 (j := 0) (Nat.le_of_ble_eq_true rfl)) (oSSo hh_h12) (oSSf hh_h12) ?_
                    refine oe_iload (pc := 116) d_X11_shift_116 rfl ?_
                    refine oe_iload (pc := 118) d_X11_shift_118 rfl ?_
                    obtain ⟨i26, h⟩ := oCpOk_some h
                    refine oe_copyL (pc := 120) d_X11_shift_120 mc_X11_332 (by omega) (Nat.le_of_ble_eq_true rfl) (oSSa hh_h4 (j := 1) (Nat.le_of_ble_eq_true rfl)) (oSSr hh_h4) (oSSa hh_h12 (j := 1) (Nat.le_of_ble_eq_true rfl)) (oSSr hh_h12) i26 ?_
                    refine oe_iload (pc := 123) d_X11_shift_123 rfl ?_
                    obtain ⟨rfl, rfl⟩ := oRes h
                    exact oe_iret (pc := 125) d_X11_shift_125 ⟨_, rfl, rfl⟩
                  · replace h := (if_neg c25).symm.trans h
                    refine oe_bipush (pc := 102) (v := (-13)) d_X11_shift_102 rfl ?_
                    obtain ⟨rfl, rfl⟩ := oRes h
                    exact oe_iret (pc := 104) d_X11_shift_104 ⟨_, rfl, rfl⟩
              · replace h := (if_neg c17).symm.trans h
                refine oe_bipush (pc := 76) (v := (-12)) d_X11_shift_76 rfl ?_
                obtain ⟨rfl, rfl⟩ := oRes h
                exact oe_iret (pc := 78) d_X11_shift_78 ⟨_, rfl, rfl⟩
        · replace h := (if_pos c14).symm.trans h
          refine oe_bipush (pc := 42) (v := (-11)) d_X11_shift_42 rfl ?_
          obtain ⟨rfl, rfl⟩ := oRes h
          exact oe_iret (pc := 44) d_X11_shift_44 ⟨_, rfl, rfl⟩
