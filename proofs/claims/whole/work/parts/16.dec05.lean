/-! walked by program: X7_firstBores, X7_keepFirst, X7_comes, X7_greatest, X8_forgetFirst, X8_note, X8_become, X8_takeBack, X8_doAgain -/
theorem d_X7_firstBores_0 : decode J_X7_firstBores.2.1 0 = .ok (.iload_n 1, 1) := by decide +kernel
theorem d_X7_firstBores_1 : decode J_X7_firstBores.2.1 1 = .ok (.bipush 6, 2) := by decide +kernel
theorem d_X7_firstBores_3 : decode J_X7_firstBores.2.1 3 = .ok (.if_icmp .gt 13, 3) := by decide +kernel
theorem d_X7_firstBores_6 : decode J_X7_firstBores.2.1 6 = .ok (.iload_n 2, 1) := by decide +kernel
theorem d_X7_firstBores_7 : decode J_X7_firstBores.2.1 7 = .ok (.aload_n 0, 1) := by decide +kernel
theorem d_X7_firstBores_8 : decode J_X7_firstBores.2.1 8 = .ok (.getfield 31, 3) := by decide +kernel
theorem d_X7_firstBores_11 : decode J_X7_firstBores.2.1 11 = .ok (.iload_n 1, 1) := by decide +kernel
theorem d_X7_firstBores_12 : decode J_X7_firstBores.2.1 12 = .ok (.iaload, 1) := by decide +kernel
theorem d_X7_firstBores_13 : decode J_X7_firstBores.2.1 13 = .ok (.if_icmp .ge 5, 3) := by decide +kernel
theorem d_X7_firstBores_16 : decode J_X7_firstBores.2.1 16 = .ok (.iconst (-1), 1) := by decide +kernel
theorem d_X7_firstBores_17 : decode J_X7_firstBores.2.1 17 = .ok (.ireturn, 1) := by decide +kernel
theorem d_X7_firstBores_18 : decode J_X7_firstBores.2.1 18 = .ok (.iload_n 1, 1) := by decide +kernel
theorem d_X7_firstBores_19 : decode J_X7_firstBores.2.1 19 = .ok (.aload_n 0, 1) := by decide +kernel
theorem d_X7_firstBores_20 : decode J_X7_firstBores.2.1 20 = .ok (.getfield 52, 3) := by decide +kernel
theorem d_X7_firstBores_23 : decode J_X7_firstBores.2.1 23 = .ok (.if_icmp .lt 5, 3) := by decide +kernel
theorem d_X7_firstBores_26 : decode J_X7_firstBores.2.1 26 = .ok (.iload_n 3, 1) := by decide +kernel
theorem d_X7_firstBores_27 : decode J_X7_firstBores.2.1 27 = .ok (.ireturn, 1) := by decide +kernel
theorem d_X7_firstBores_28 : decode J_X7_firstBores.2.1 28 = .ok (.aload_n 0, 1) := by decide +kernel
theorem d_X7_firstBores_29 : decode J_X7_firstBores.2.1 29 = .ok (.getfield 18, 3) := by decide +kernel
theorem d_X7_firstBores_32 : decode J_X7_firstBores.2.1 32 = .ok (.iload_n 1, 1) := by decide +kernel
theorem d_X7_firstBores_33 : decode J_X7_firstBores.2.1 33 = .ok (.baload, 1) := by decide +kernel
theorem d_X7_firstBores_34 : decode J_X7_firstBores.2.1 34 = .ok (.ifCond .eq 7, 3) := by decide +kernel
theorem d_X7_firstBores_37 : decode J_X7_firstBores.2.1 37 = .ok (.iconst 0, 1) := by decide +kernel
theorem d_X7_firstBores_38 : decode J_X7_firstBores.2.1 38 = .ok (.goto 4, 3) := by decide +kernel
theorem d_X7_firstBores_41 : decode J_X7_firstBores.2.1 41 = .ok (.iload_n 2, 1) := by decide +kernel
theorem d_X7_firstBores_42 : decode J_X7_firstBores.2.1 42 = .ok (.aload_n 0, 1) := by decide +kernel
theorem d_X7_firstBores_43 : decode J_X7_firstBores.2.1 43 = .ok (.iload_n 1, 1) := by decide +kernel
theorem d_X7_firstBores_44 : decode J_X7_firstBores.2.1 44 = .ok (.invokevirtual 157, 3) := by decide +kernel
theorem d_X7_firstBores_47 : decode J_X7_firstBores.2.1 47 = .ok (.iadd, 1) := by decide +kernel
theorem d_X7_firstBores_48 : decode J_X7_firstBores.2.1 48 = .ok (.istore 4, 2) := by decide +kernel
theorem d_X7_firstBores_50 : decode J_X7_firstBores.2.1 50 = .ok (.aload_n 0, 1) := by decide +kernel
theorem d_X7_firstBores_51 : decode J_X7_firstBores.2.1 51 = .ok (.getfield 11, 3) := by decide +kernel
theorem d_X7_firstBores_54 : decode J_X7_firstBores.2.1 54 = .ok (.iload_n 1, 1) := by decide +kernel
theorem d_X7_firstBores_55 : decode J_X7_firstBores.2.1 55 = .ok (.iaload, 1) := by decide +kernel
theorem d_X7_firstBores_56 : decode J_X7_firstBores.2.1 56 = .ok (.aload_n 0, 1) := by decide +kernel
theorem d_X7_firstBores_57 : decode J_X7_firstBores.2.1 57 = .ok (.iload_n 1, 1) := by decide +kernel
theorem d_X7_firstBores_58 : decode J_X7_firstBores.2.1 58 = .ok (.invokevirtual 143, 3) := by decide +kernel
theorem d_X7_firstBores_61 : decode J_X7_firstBores.2.1 61 = .ok (.imul, 1) := by decide +kernel
theorem d_X7_firstBores_62 : decode J_X7_firstBores.2.1 62 = .ok (.istore 5, 2) := by decide +kernel
theorem d_X7_firstBores_64 : decode J_X7_firstBores.2.1 64 = .ok (.iconst (-1), 1) := by decide +kernel
theorem d_X7_firstBores_65 : decode J_X7_firstBores.2.1 65 = .ok (.istore 6, 2) := by decide +kernel
theorem d_X7_firstBores_67 : decode J_X7_firstBores.2.1 67 = .ok (.iconst 0, 1) := by decide +kernel
theorem d_X7_firstBores_68 : decode J_X7_firstBores.2.1 68 = .ok (.istore 7, 2) := by decide +kernel
theorem d_X7_firstBores_70 : decode J_X7_firstBores.2.1 70 = .ok (.iload 7, 2) := by decide +kernel
theorem d_X7_firstBores_72 : decode J_X7_firstBores.2.1 72 = .ok (.iconst 3, 1) := by decide +kernel
theorem d_X7_firstBores_73 : decode J_X7_firstBores.2.1 73 = .ok (.if_icmp .ge 76, 3) := by decide +kernel
theorem d_X7_firstBores_76 : decode J_X7_firstBores.2.1 76 = .ok (.iload 6, 2) := by decide +kernel
theorem d_X7_firstBores_78 : decode J_X7_firstBores.2.1 78 = .ok (.ifCond .ge 71, 3) := by decide +kernel
theorem d_X7_firstBores_81 : decode J_X7_firstBores.2.1 81 = .ok (.iload 5, 2) := by decide +kernel
theorem d_X7_firstBores_83 : decode J_X7_firstBores.2.1 83 = .ok (.aload_n 0, 1) := by decide +kernel
theorem d_X7_firstBores_84 : decode J_X7_firstBores.2.1 84 = .ok (.getfield 34, 3) := by decide +kernel
theorem d_X7_firstBores_87 : decode J_X7_firstBores.2.1 87 = .ok (.iload 7, 2) := by decide +kernel
theorem d_X7_firstBores_89 : decode J_X7_firstBores.2.1 89 = .ok (.iaload, 1) := by decide +kernel
theorem d_X7_firstBores_90 : decode J_X7_firstBores.2.1 90 = .ok (.if_icmp .gt 53, 3) := by decide +kernel
theorem d_X7_firstBores_93 : decode J_X7_firstBores.2.1 93 = .ok (.aload_n 0, 1) := by decide +kernel
theorem d_X7_firstBores_94 : decode J_X7_firstBores.2.1 94 = .ok (.getfield 34, 3) := by decide +kernel
theorem d_X7_firstBores_97 : decode J_X7_firstBores.2.1 97 = .ok (.iload 7, 2) := by decide +kernel
theorem d_X7_firstBores_99 : decode J_X7_firstBores.2.1 99 = .ok (.dup2, 1) := by decide +kernel
theorem d_X7_firstBores_100 : decode J_X7_firstBores.2.1 100 = .ok (.iaload, 1) := by decide +kernel
theorem d_X7_firstBores_101 : decode J_X7_firstBores.2.1 101 = .ok (.iload 5, 2) := by decide +kernel
theorem d_X7_firstBores_103 : decode J_X7_firstBores.2.1 103 = .ok (.isub, 1) := by decide +kernel
theorem d_X7_firstBores_104 : decode J_X7_firstBores.2.1 104 = .ok (.iastore, 1) := by decide +kernel
theorem d_X7_firstBores_105 : decode J_X7_firstBores.2.1 105 = .ok (.aload_n 0, 1) := by decide +kernel
theorem d_X7_firstBores_106 : decode J_X7_firstBores.2.1 106 = .ok (.iload_n 1, 1) := by decide +kernel
theorem d_X7_firstBores_107 : decode J_X7_firstBores.2.1 107 = .ok (.iconst 1, 1) := by decide +kernel
theorem d_X7_firstBores_108 : decode J_X7_firstBores.2.1 108 = .ok (.iadd, 1) := by decide +kernel
theorem d_X7_firstBores_109 : decode J_X7_firstBores.2.1 109 = .ok (.iload 4, 2) := by decide +kernel
theorem d_X7_firstBores_111 : decode J_X7_firstBores.2.1 111 = .ok (.aload_n 0, 1) := by decide +kernel
theorem d_X7_firstBores_112 : decode J_X7_firstBores.2.1 112 = .ok (.iload_n 1, 1) := by decide +kernel
theorem d_X7_firstBores_113 : decode J_X7_firstBores.2.1 113 = .ok (.iload 7, 2) := by decide +kernel
theorem d_X7_firstBores_115 : decode J_X7_firstBores.2.1 115 = .ok (.invokevirtual 149, 3) := by decide +kernel
theorem d_X7_firstBores_118 : decode J_X7_firstBores.2.1 118 = .ok (.isub, 1) := by decide +kernel
theorem d_X7_firstBores_119 : decode J_X7_firstBores.2.1 119 = .ok (.iload_n 3, 1) := by decide +kernel
theorem d_X7_firstBores_120 : decode J_X7_firstBores.2.1 120 = .ok (.bipush 10, 2) := by decide +kernel
theorem d_X7_firstBores_122 : decode J_X7_firstBores.2.1 122 = .ok (.imul, 1) := by decide +kernel
theorem d_X7_firstBores_123 : decode J_X7_firstBores.2.1 123 = .ok (.iload 7, 2) := by decide +kernel
theorem d_X7_firstBores_125 : decode J_X7_firstBores.2.1 125 = .ok (.iadd, 1) := by decide +kernel
theorem d_X7_firstBores_126 : decode J_X7_firstBores.2.1 126 = .ok (.invokestatic 111, 3) := by decide +kernel
theorem d_X7_firstBores_129 : decode J_X7_firstBores.2.1 129 = .ok (.istore 6, 2) := by decide +kernel
theorem d_X7_firstBores_131 : decode J_X7_firstBores.2.1 131 = .ok (.aload_n 0, 1) := by decide +kernel
theorem d_X7_firstBores_132 : decode J_X7_firstBores.2.1 132 = .ok (.getfield 34, 3) := by decide +kernel
theorem d_X7_firstBores_135 : decode J_X7_firstBores.2.1 135 = .ok (.iload 7, 2) := by decide +kernel
theorem d_X7_firstBores_137 : decode J_X7_firstBores.2.1 137 = .ok (.dup2, 1) := by decide +kernel
theorem d_X7_firstBores_138 : decode J_X7_firstBores.2.1 138 = .ok (.iaload, 1) := by decide +kernel
theorem d_X7_firstBores_139 : decode J_X7_firstBores.2.1 139 = .ok (.iload 5, 2) := by decide +kernel
theorem d_X7_firstBores_141 : decode J_X7_firstBores.2.1 141 = .ok (.iadd, 1) := by decide +kernel
theorem d_X7_firstBores_142 : decode J_X7_firstBores.2.1 142 = .ok (.iastore, 1) := by decide +kernel
theorem d_X7_firstBores_143 : decode J_X7_firstBores.2.1 143 = .ok (.iinc 7 1, 3) := by decide +kernel
theorem d_X7_firstBores_146 : decode J_X7_firstBores.2.1 146 = .ok (.goto (-76), 3) := by decide +kernel
theorem d_X7_firstBores_149 : decode J_X7_firstBores.2.1 149 = .ok (.iload 6, 2) := by decide +kernel
theorem d_X7_firstBores_151 : decode J_X7_firstBores.2.1 151 = .ok (.ireturn, 1) := by decide +kernel
def f_X7_firstBores_143 (N : Nat) (rS : (Int32 → Int32 → Int32 → oM → Option (Int32 × oM))) (K : oK) (r70 : (Int32 → Int32 → Int32 → Int32 → Int32 → Int32 → oM → Option (Int32 × oM))) (p1 : Int32) (p3 : Int32) (p4 : Int32) (p5 : Int32) (p6 : Int32) (p7 : Int32) (M : oM) : Option (Int32 × oM) :=
  (r70 p1 p3 p4 p5 p6 (p7 + 1) M)
set_option maxRecDepth 20000 in
theorem v_X7_firstBores_143 {X : oX} {d N : Nat} {rS : (Int32 → Int32 → Int32 → oM → Option (Int32 × oM))} {K : oK} {r70 : (Int32 → Int32 → Int32 → Int32 → Int32 → Int32 → oM → Option (Int32 × oM))} {p1 : Int32} {p3 : Int32} {p4 : Int32} {p5 : Int32} {p6 : Int32} {p7 : Int32} {M : oM} {v : Int32} {M' : oM}  (hd : 3 ≤ d) (hK : oSR K) (hS : ∃ d', d' < d ∧ ∀ (p1 : Int32) (p2 : Int32) (p3 : Int32) (M : oM) (v : Int32) (M' : oM) , rS p1 p2 p3 M = some (v, M') → oMet X d' J_X7_firstBores [(.ref 28), (.int p1), (.int p2), (.int p3)] K M (some (.int v)) K M')  (hr70 : ∀ (p1 : Int32) (p3 : Int32) (p4 : Int32) (p5 : Int32) (p6 : Int32) (p7 : Int32) (M : oM) (v : Int32) (M' : oM) , r70 p1 p3 p4 p5 p6 p7 M = some (v, M') → oEv X d J_X7_firstBores 70 [some (.ref 28), some (.int p1), none, some (.int p3), some (.int p4), some (.int p5), some (.int p6), some (.int p7)] [] K M (some (.int v)) K M') (h : f_X7_firstBores_143 N rS K r70 p1 p3 p4 p5 p6 p7 M = some (v, M')) : oEv X d J_X7_firstBores 143 [some (.ref 28), some (.int p1), none, some (.int p3), some (.int p4), some (.int p5), some (.int p6), some (.int p7)] [] K M (some (.int v)) K M' := by
  unfold f_X7_firstBores_143 at h
  refine oe_iinc (pc := 143) (v := (p7 + 1)) (L2 := [_, _, _, _, _, _, _, _]) d_X7_firstBores_143 rfl rfl rfl (Nat.le_of_ble_eq_true rfl) rfl ?_
  refine oe_goto (pc := 146) (tgt := 70) d_X7_firstBores_146 (by decide) ?_
  exact hr70 _ _ _ _ _ _ _ _ _ h
def f_X7_firstBores_70 (N : Nat) (rS : (Int32 → Int32 → Int32 → oM → Option (Int32 × oM))) (K : oK)  : Nat → Int32 → Int32 → Int32 → Int32 → Int32 → Int32 → oM → Option (Int32 × oM)
  | 0, _, _, _, _, _, _, _ => none
  | n + 1, p1, p3, p4, p5, p6, p7, M => (fun r70 => (if 3 ≤ p7 then some (p6, M) else (if 0 ≤ p6 then some (p6, M) else oIx (p7) 3 ((if (M.1 36 (p7 : Int32).toNatClampNeg) < p5 then (f_X7_firstBores_143 N rS K r70 p1 p3 p4 p5 p6 p7 M) else oIx (p7) 3 (oIx (p7) 3 (oB2 (f_X7_drop N K p1 p7 (oUp M 36 (p7 : Int32).toNatClampNeg ((M.1 36 (p7 : Int32).toNatClampNeg) - p5))) (fun v20 M21 => oB2 (rS (p1 + 1) (p4 - v20) ((p3 * 10) + p7) M21) (fun v23 M24 => oIx (p7) 3 (oIx (p7) 3 ((f_X7_firstBores_143 N rS K r70 p1 p3 p4 p5 v23 p7 (oUp M24 36 (p7 : Int32).toNatClampNeg ((M24.1 36 (p7 : Int32).toNatClampNeg) + p5)))))))))))))) (f_X7_firstBores_70 N rS K  n)
set_option maxRecDepth 20000 in
theorem v_X7_firstBores_70_L {X : oX} {d N : Nat} {rS : (Int32 → Int32 → Int32 → oM → Option (Int32 × oM))} {K : oK}  (hd : 3 ≤ d) (hK : oSR K) (hS : ∃ d', d' < d ∧ ∀ (p1 : Int32) (p2 : Int32) (p3 : Int32) (M : oM) (v : Int32) (M' : oM) , rS p1 p2 p3 M = some (v, M') → oMet X d' J_X7_firstBores [(.ref 28), (.int p1), (.int p2), (.int p3)] K M (some (.int v)) K M')  : ∀ (n : Nat) (p1 : Int32) (p3 : Int32) (p4 : Int32) (p5 : Int32) (p6 : Int32) (p7 : Int32) (M : oM) (v : Int32) (M' : oM)  , f_X7_firstBores_70 N rS K  n p1 p3 p4 p5 p6 p7 M = some (v, M') → oEv X d J_X7_firstBores 70 [some (.ref 28), some (.int p1), none, some (.int p3), some (.int p4), some (.int p5), some (.int p6), some (.int p7)] [] K M (some (.int v)) K M' := by
  intro n
  induction n with
  | zero =>
    intro p1 p3 p4 p5 p6 p7 M v M'   h
    cases h
  | succ n hr70 =>
    intro p1 p3 p4 p5 p6 p7 M v M'   h
    refine oe_iload (pc := 70) d_X7_firstBores_70 rfl ?_
    refine oe_iconst (pc := 72) (v := 3) d_X7_firstBores_72 rfl ?_
    refine oe_icmp_ge (pc := 73) (tgt := 149) d_X7_firstBores_73 (by decide) (fun c14 => ?_) (fun c14 => ?_)
    · replace h := (if_pos c14).symm.trans h
      refine oe_iload (pc := 149) d_X7_firstBores_149 rfl ?_
      obtain ⟨rfl, rfl⟩ := oRes h
      exact oe_iret (pc := 151) d_X7_firstBores_151 ⟨_, rfl, rfl⟩
    · replace h := (if_neg c14).symm.trans h
      refine oe_iload (pc := 76) d_X7_firstBores_76 rfl ?_
      refine oe_if_ge (pc := 78) (tgt := 149) d_X7_firstBores_78 (by decide) (fun c15 => ?_) (fun c15 => ?_)
      · replace h := (if_pos c15).symm.trans h
        refine oe_iload (pc := 149) d_X7_firstBores_149 rfl ?_
        obtain ⟨rfl, rfl⟩ := oRes h
        exact oe_iret (pc := 151) d_X7_firstBores_151 ⟨_, rfl, rfl⟩
      · replace h := (if_neg c15).symm.trans h
        refine oe_iload (pc := 81) d_X7_firstBores_81 rfl ?_
        refine oe_aload_n (pc := 83) d_X7_firstBores_83 rfl ?_
        refine oe_getr (pc := 84) d_X7_firstBores_84 fl_X7_34 ock7 (k := 9) (b := 36) (Nat.le_of_ble_eq_true rfl) (by decide) (oLt hK (a := 28) (Nat.le_of_ble_eq_true rfl)) (oSho hK (a := 28) (Nat.le_of_ble_eq_true rfl) rfl) (oRfK hK rfl) ?_
        refine oe_iload (pc := 87) d_X7_firstBores_87 rfl ?_
        obtain ⟨i16, h⟩ := oIx_some h
        refine oe_iald (pc := 89) d_X7_firstBores_89 (oLt hK (a := 36) (Nat.le_of_ble_eq_true rfl)) (oSha hK (a := 36) (Nat.le_of_ble_eq_true rfl) rfl) i16 ?_
        refine oe_icmp_gt (pc := 90) (tgt := 143) d_X7_firstBores_90 (by decide) (fun c17 => ?_) (fun c17 => ?_)
        · replace h := (if_pos c17).symm.trans h
          exact v_X7_firstBores_143 hd hK hS  hr70 h
        · replace h := (if_neg c17).symm.trans h
          refine oe_aload_n (pc := 93) d_X7_firstBores_93 rfl ?_
          refine oe_getr (pc := 94) d_X7_firstBores_94 fl_X7_34 ock7 (k := 9) (b := 36) (Nat.le_of_ble_eq_true rfl) (by decide) (oLt hK (a := 28) (Nat.le_of_ble_eq_true rfl)) (oSho hK (a := 28) (Nat.le_of_ble_eq_true rfl) rfl) (oRfK hK rfl) ?_
          refine oe_iload (pc := 97) d_X7_firstBores_97 rfl ?_
          refine oe_dup2 (pc := 99) d_X7_firstBores_99 rfl rfl ?_
          obtain ⟨i18, h⟩ := oIx_some h
          refine oe_iald (pc := 100) d_X7_firstBores_100 (oLt hK (a := 36) (Nat.le_of_ble_eq_true rfl)) (oSha hK (a := 36) (Nat.le_of_ble_eq_true rfl) rfl) i18 ?_
          refine oe_iload (pc := 101) d_X7_firstBores_101 rfl ?_
          refine oe_isub (pc := 103) d_X7_firstBores_103 ?_
          obtain ⟨i19, h⟩ := oIx_some h
          refine oe_iast (pc := 104) d_X7_firstBores_104 (oLt hK (a := 36) (Nat.le_of_ble_eq_true rfl)) (oSha hK (a := 36) (Nat.le_of_ble_eq_true rfl) rfl) i19 ?_
          refine oe_aload_n (pc := 105) d_X7_firstBores_105 rfl ?_
          refine oe_iload_n (pc := 106) d_X7_firstBores_106 rfl ?_
          refine oe_iconst (pc := 107) (v := 1) d_X7_firstBores_107 rfl ?_
          refine oe_iadd (pc := 108) d_X7_firstBores_108 ?_
          refine oe_iload (pc := 109) d_X7_firstBores_109 rfl ?_
          refine oe_aload_n (pc := 111) d_X7_firstBores_111 rfl ?_
          refine oe_iload_n (pc := 112) d_X7_firstBores_112 rfl ?_
          refine oe_iload (pc := 113) d_X7_firstBores_113 rfl ?_
          obtain ⟨v20, M21, q22, h⟩ := oB2_some h
          refine oe_callV (pc := 115) (ci := 7) d_X7_firstBores_115 (v_X7_drop hK  q22) (by omega) ml_X7_149 jJ_X7_drop rfl rfl (oLt hK (a := 28) (Nat.le_of_ble_eq_true rfl)) (oSho hK (a := 28) (Nat.le_of_ble_eq_true rfl) rfl) ock7 rfl (Nat.le_of_ble_eq_true rfl) ⟨Nat.le_refl _, Nat.le_refl _⟩ ⟨Nat.le_refl _, Nat.le_refl _⟩ ?_
          refine oe_isub (pc := 118) d_X7_firstBores_118 ?_
          refine oe_iload_n (pc := 119) d_X7_firstBores_119 rfl ?_
          refine oe_bipush (pc := 120) (v := 10) d_X7_firstBores_120 rfl ?_
          refine oe_imul (pc := 122) d_X7_firstBores_122 ?_
          refine oe_iload (pc := 123) d_X7_firstBores_123 rfl ?_
          refine oe_iadd (pc := 125) d_X7_firstBores_125 ?_
          obtain ⟨v23, M24, q25, h⟩ := oB2_some h
          obtain ⟨d', hdl, hS9⟩ := id hS
          refine oe_callS (pc := 126) d_X7_firstBores_126 (hS9 _ _ _ _ _ _  q25) hdl ml_X7_111 jJ_X7_firstBores rfl rfl (Nat.le_of_ble_eq_true rfl) ⟨Nat.le_refl _, Nat.le_refl _⟩ ⟨Nat.le_refl _, Nat.le_refl _⟩ ?_
          refine oe_istore (pc := 129) (L2 := [_, _, _, _, _, _, _, _]) d_X7_firstBores_129 rfl (Nat.le_of_ble_eq_true rfl) rfl ?_
          refine oe_aload_n (pc := 131) d_X7_firstBores_131 rfl ?_
          refine oe_getr (pc := 132) d_X7_firstBores_132 fl_X7_34 ock7 (k := 9) (b := 36) (Nat.le_of_ble_eq_true rfl) (by decide) (oLt hK (a := 28) (Nat.le_of_ble_eq_true rfl)) (oSho hK (a := 28) (Nat.le_of_ble_eq_true rfl) rfl) (oRfK hK rfl) ?_
          refine oe_iload (pc := 135) d_X7_firstBores_135 rfl ?_
          refine oe_dup2 (pc := 137) d_X7_firstBores_137 rfl rfl ?_
          obtain ⟨i26, h⟩ := oIx_some h
          refine oe_iald (pc := 138) d_X7_firstBores_138 (oLt hK (a := 36) (Nat.le_of_ble_eq_true rfl)) (oSha hK (a := 36) (Nat.le_of_ble_eq_true rfl) rfl) i26 ?_
          refine oe_iload (pc := 139) d_X7_firstBores_139 rfl ?_
          refine oe_iadd (pc := 141) d_X7_firstBores_141 ?_
          obtain ⟨i27, h⟩ := oIx_some h
          refine oe_iast (pc := 142) d_X7_firstBores_142 (oLt hK (a := 36) (Nat.le_of_ble_eq_true rfl)) (oSha hK (a := 36) (Nat.le_of_ble_eq_true rfl) rfl) i27 ?_
          exact v_X7_firstBores_143 hd hK hS  hr70 h
theorem v_X7_firstBores_70 {X : oX} {d N : Nat} {rS : (Int32 → Int32 → Int32 → oM → Option (Int32 × oM))} {K : oK}  {p1 : Int32} {p3 : Int32} {p4 : Int32} {p5 : Int32} {p6 : Int32} {p7 : Int32} {M : oM} {v : Int32} {M' : oM}  (hd : 3 ≤ d) (hK : oSR K) (hS : ∃ d', d' < d ∧ ∀ (p1 : Int32) (p2 : Int32) (p3 : Int32) (M : oM) (v : Int32) (M' : oM) , rS p1 p2 p3 M = some (v, M') → oMet X d' J_X7_firstBores [(.ref 28), (.int p1), (.int p2), (.int p3)] K M (some (.int v)) K M')   (h : f_X7_firstBores_70 N rS K  N p1 p3 p4 p5 p6 p7 M = some (v, M')) : oEv X d J_X7_firstBores 70 [some (.ref 28), some (.int p1), none, some (.int p3), some (.int p4), some (.int p5), some (.int p6), some (.int p7)] [] K M (some (.int v)) K M' := v_X7_firstBores_70_L hd hK hS  N p1 p3 p4 p5 p6 p7 M v M'   h
def f_X7_firstBores_42 (N : Nat) (rS : (Int32 → Int32 → Int32 → oM → Option (Int32 × oM))) (K : oK)  (p1 : Int32) (p3 : Int32) (s0 : Int32) (M : oM) : Option (Int32 × oM) :=
  oB2 (f_X7_raisedAhead N K p1 M) (fun v7 M8 => oIx (p1) 6 (oB2 (f_X7_lines N K p1 M8) (fun v11 M12 => (f_X7_firstBores_70 N rS K  N p1 p3 (s0 + v7) ((M8.1 29 (p1 : Int32).toNatClampNeg) * v11) (-1) 0 M12))))
set_option maxRecDepth 20000 in
theorem v_X7_firstBores_42 {X : oX} {d N : Nat} {rS : (Int32 → Int32 → Int32 → oM → Option (Int32 × oM))} {K : oK}  {p1 : Int32} {p3 : Int32} {s0 : Int32} {M : oM} {v : Int32} {M' : oM}  (hd : 3 ≤ d) (hK : oSR K) (hS : ∃ d', d' < d ∧ ∀ (p1 : Int32) (p2 : Int32) (p3 : Int32) (M : oM) (v : Int32) (M' : oM) , rS p1 p2 p3 M = some (v, M') → oMet X d' J_X7_firstBores [(.ref 28), (.int p1), (.int p2), (.int p3)] K M (some (.int v)) K M')   (h : f_X7_firstBores_42 N rS K  p1 p3 s0 M = some (v, M')) : oEv X d J_X7_firstBores 42 [some (.ref 28), some (.int p1), none, some (.int p3), none, none, none, none] [(.int s0)] K M (some (.int v)) K M' := by
  unfold f_X7_firstBores_42 at h
  refine oe_aload_n (pc := 42) d_X7_firstBores_42 rfl ?_
  refine oe_iload_n (pc := 43) d_X7_firstBores_43 rfl ?_
  obtain ⟨v7, M8, q9, h⟩ := oB2_some h
  refine oe_callV (pc := 44) (ci := 7) d_X7_firstBores_44 (v_X7_raisedAhead hK  q9) (by omega) ml_X7_157 jJ_X7_raisedAhead rfl rfl (oLt hK (a := 28) (Nat.le_of_ble_eq_true rfl)) (oSho hK (a := 28) (Nat.le_of_ble_eq_true rfl) rfl) ock7 rfl (Nat.le_of_ble_eq_true rfl) ⟨Nat.le_refl _, Nat.le_refl _⟩ ⟨Nat.le_refl _, Nat.le_refl _⟩ ?_
  refine oe_iadd (pc := 47) d_X7_firstBores_47 ?_
  refine oe_istore (pc := 48) (L2 := [_, _, _, _, _, _, _, _]) d_X7_firstBores_48 rfl (Nat.le_of_ble_eq_true rfl) rfl ?_
  refine oe_aload_n (pc := 50) d_X7_firstBores_50 rfl ?_
  refine oe_getr (pc := 51) d_X7_firstBores_51 fl_X7_11 ock7 (k := 2) (b := 29) (Nat.le_of_ble_eq_true rfl) (by decide) (oLt hK (a := 28) (Nat.le_of_ble_eq_true rfl)) (oSho hK (a := 28) (Nat.le_of_ble_eq_true rfl) rfl) (oRfK hK rfl) ?_
  refine oe_iload_n (pc := 54) d_X7_firstBores_54 rfl ?_
  obtain ⟨i10, h⟩ := oIx_some h
  refine oe_iald (pc := 55) d_X7_firstBores_55 (oLt hK (a := 29) (Nat.le_of_ble_eq_true rfl)) (oSha hK (a := 29) (Nat.le_of_ble_eq_true rfl) rfl) i10 ?_
  refine oe_aload_n (pc := 56) d_X7_firstBores_56 rfl ?_
  refine oe_iload_n (pc := 57) d_X7_firstBores_57 rfl ?_
  obtain ⟨v11, M12, q13, h⟩ := oB2_some h
  refine oe_callV (pc := 58) (ci := 7) d_X7_firstBores_58 (v_X7_lines hK  q13) (by omega) ml_X7_143 jJ_X7_lines rfl rfl (oLt hK (a := 28) (Nat.le_of_ble_eq_true rfl)) (oSho hK (a := 28) (Nat.le_of_ble_eq_true rfl) rfl) ock7 rfl (Nat.le_of_ble_eq_true rfl) ⟨Nat.le_refl _, Nat.le_refl _⟩ ⟨Nat.le_refl _, Nat.le_refl _⟩ ?_
  refine oe_imul (pc := 61) d_X7_firstBores_61 ?_
  refine oe_istore (pc := 62) (L2 := [_, _, _, _, _, _, _, _]) d_X7_firstBores_62 rfl (Nat.le_of_ble_eq_true rfl) rfl ?_
  refine oe_iconst (pc := 64) (v := (-1)) d_X7_firstBores_64 rfl ?_
  refine oe_istore (pc := 65) (L2 := [_, _, _, _, _, _, _, _]) d_X7_firstBores_65 rfl (Nat.le_of_ble_eq_true rfl) rfl ?_
  refine oe_iconst (pc := 67) (v := 0) d_X7_firstBores_67 rfl ?_
  refine oe_istore (pc := 68) (L2 := [_, _, _, _, _, _, _, _]) d_X7_firstBores_68 rfl (Nat.le_of_ble_eq_true rfl) rfl ?_
  exact v_X7_firstBores_70 hd hK hS   h
def f_X7_firstBores (N : Nat) (K : oK) : Nat → Int32 → Int32 → Int32 → oM → Option (Int32 × oM)
  | 0, _, _, _, _ => none
  | n + 1, p1, p2, p3, M => (fun rS => (if 6 < p1 then some ((-1), M) else oIx (p1) 7 ((if (M.1 35 (p1 : Int32).toNatClampNeg) ≤ p2 then (if p1 < (M.1 28 11) then oIx (p1) 7 ((if (M.1 31 (p1 : Int32).toNatClampNeg) = 0 then (f_X7_firstBores_42 N rS K  p1 p3 p2 M) else (f_X7_firstBores_42 N rS K  p1 p3 0 M))) else some (p3, M)) else some ((-1), M))))) (f_X7_firstBores N K n)
set_option maxRecDepth 20000 in
theorem v_X7_firstBores_R {X : oX} {N : Nat} {K : oK} (hK : oSR K) : ∀ (n : Nat) (p1 : Int32) (p2 : Int32) (p3 : Int32) (M : oM) (v : Int32) (M' : oM) , f_X7_firstBores N K n p1 p2 p3 M = some (v, M') → oMet X (3 + n) J_X7_firstBores [(.ref 28), (.int p1), (.int p2), (.int p3)] K M (some (.int v)) K M' := by
  intro n
  induction n with
  | zero =>
    intro p1 p2 p3 M v M'  h
    cases h
  | succ n hS0 =>
    intro p1 p2 p3 M v M'  h
    refine oMet_of (L := [some (.ref 28), some (.int p1), some (.int p2), some (.int p3), none, none, none, none]) jJ_X7_firstBores.1 rfl (Nat.le_of_ble_eq_true rfl) rfl (Nat.le_refl _) (Nat.le_refl _) ?_
    have hd : 3 ≤ 3 + (n + 1) := Nat.le_add_right _ _
    generalize hde : 3 + (n + 1) = d at hd ⊢
    have hS : ∃ d', d' < d ∧ ∀ (p1 : Int32) (p2 : Int32) (p3 : Int32) (M : oM) (v : Int32) (M' : oM) , f_X7_firstBores N K n p1 p2 p3 M = some (v, M') → oMet X d' J_X7_firstBores [(.ref 28), (.int p1), (.int p2), (.int p3)] K M (some (.int v)) K M' := ⟨3 + n, by omega, hS0⟩
    refine oe_iload_n (pc := 0) d_X7_firstBores_0 rfl ?_
    refine oe_bipush (pc := 1) (v := 6) d_X7_firstBores_1 rfl ?_
    refine oe_icmp_gt (pc := 3) (tgt := 16) d_X7_firstBores_3 (by decide) (fun c1 => ?_) (fun c1 => ?_)
    · replace h := (if_pos c1).symm.trans h
      refine oe_iconst (pc := 16) (v := (-1)) d_X7_firstBores_16 rfl ?_
      obtain ⟨rfl, rfl⟩ := oRes h
      exact oe_iret (pc := 17) d_X7_firstBores_17 ⟨_, rfl, rfl⟩
    · replace h := (if_neg c1).symm.trans h
      refine oe_iload_n (pc := 6) d_X7_firstBores_6 rfl ?_
      refine oe_aload_n (pc := 7) d_X7_firstBores_7 rfl ?_
      refine oe_getr (pc := 8) d_X7_firstBores_8 fl_X7_31 ock7 (k := 8) (b := 35) (Nat.le_of_ble_eq_true rfl) (by decide) (oLt hK (a := 28) (Nat.le_of_ble_eq_true rfl)) (oSho hK (a := 28) (Nat.le_of_ble_eq_true rfl) rfl) (oRfK hK rfl) ?_
      refine oe_iload_n (pc := 11) d_X7_firstBores_11 rfl ?_
      obtain ⟨i2, h⟩ := oIx_some h
      refine oe_iald (pc := 12) d_X7_firstBores_12 (oLt hK (a := 35) (Nat.le_of_ble_eq_true rfl)) (oSha hK (a := 35) (Nat.le_of_ble_eq_true rfl) rfl) i2 ?_
      refine oe_icmp_ge (pc := 13) (tgt := 18) d_X7_firstBores_13 (by decide) (fun c3 => ?_) (fun c3 => ?_)
      · replace h := (if_pos c3).symm.trans h
        refine oe_iload_n (pc := 18) d_X7_firstBores_18 rfl ?_
        refine oe_aload_n (pc := 19) d_X7_firstBores_19 rfl ?_
        refine oe_getf (pc := 20) d_X7_firstBores_20 fl_X7_52 ock7 (k := 11) (Nat.le_of_ble_eq_true rfl) rfl (oLt hK (a := 28) (Nat.le_of_ble_eq_true rfl)) (oSho hK (a := 28) (Nat.le_of_ble_eq_true rfl) rfl) ?_
        refine oe_icmp_lt (pc := 23) (tgt := 28) d_X7_firstBores_23 (by decide) (fun c4 => ?_) (fun c4 => ?_)
        · replace h := (if_pos c4).symm.trans h
          refine oe_aload_n (pc := 28) d_X7_firstBores_28 rfl ?_
          refine oe_getr (pc := 29) d_X7_firstBores_29 fl_X7_18 ock7 (k := 4) (b := 31) (Nat.le_of_ble_eq_true rfl) (by decide) (oLt hK (a := 28) (Nat.le_of_ble_eq_true rfl)) (oSho hK (a := 28) (Nat.le_of_ble_eq_true rfl) rfl) (oRfK hK rfl) ?_
          refine oe_iload_n (pc := 32) d_X7_firstBores_32 rfl ?_
          obtain ⟨i5, h⟩ := oIx_some h
          refine oe_zald (pc := 33) d_X7_firstBores_33 (oLt hK (a := 31) (Nat.le_of_ble_eq_true rfl)) (oSha hK (a := 31) (Nat.le_of_ble_eq_true rfl) rfl) i5 ?_
          refine oe_if_eq (pc := 34) (tgt := 41) d_X7_firstBores_34 (by decide) (fun c6 => ?_) (fun c6 => ?_)
          · replace h := (if_pos c6).symm.trans h
            refine oe_iload_n (pc := 41) d_X7_firstBores_41 rfl ?_
            refine oEv.fg [true, true, false, true, false, false, false, false] ?_
            exact v_X7_firstBores_42 hd hK hS   h
          · replace h := (if_neg c6).symm.trans h
            refine oe_iconst (pc := 37) (v := 0) d_X7_firstBores_37 rfl ?_
            refine oe_goto (pc := 38) (tgt := 42) d_X7_firstBores_38 (by decide) ?_
            refine oEv.fg [true, true, false, true, false, false, false, false] ?_
            exact v_X7_firstBores_42 hd hK hS   h
        · replace h := (if_neg c4).symm.trans h
          refine oe_iload_n (pc := 26) d_X7_firstBores_26 rfl ?_
          obtain ⟨rfl, rfl⟩ := oRes h
          exact oe_iret (pc := 27) d_X7_firstBores_27 ⟨_, rfl, rfl⟩
      · replace h := (if_neg c3).symm.trans h
        refine oe_iconst (pc := 16) (v := (-1)) d_X7_firstBores_16 rfl ?_
        obtain ⟨rfl, rfl⟩ := oRes h
        exact oe_iret (pc := 17) d_X7_firstBores_17 ⟨_, rfl, rfl⟩
theorem d_X7_keepFirst_0 : decode J_X7_keepFirst.2.1 0 = .ok (.iconst 0, 1) := by decide +kernel
theorem d_X7_keepFirst_1 : decode J_X7_keepFirst.2.1 1 = .ok (.istore_n 2, 1) := by decide +kernel
theorem d_X7_keepFirst_2 : decode J_X7_keepFirst.2.1 2 = .ok (.iconst 0, 1) := by decide +kernel
theorem d_X7_keepFirst_3 : decode J_X7_keepFirst.2.1 3 = .ok (.istore_n 3, 1) := by decide +kernel
theorem d_X7_keepFirst_4 : decode J_X7_keepFirst.2.1 4 = .ok (.iload_n 3, 1) := by decide +kernel
theorem d_X7_keepFirst_5 : decode J_X7_keepFirst.2.1 5 = .ok (.aload_n 0, 1) := by decide +kernel
theorem d_X7_keepFirst_6 : decode J_X7_keepFirst.2.1 6 = .ok (.getfield 52, 3) := by decide +kernel
theorem d_X7_keepFirst_9 : decode J_X7_keepFirst.2.1 9 = .ok (.if_icmp .ge 28, 3) := by decide +kernel
theorem d_X7_keepFirst_12 : decode J_X7_keepFirst.2.1 12 = .ok (.aload_n 0, 1) := by decide +kernel
theorem d_X7_keepFirst_13 : decode J_X7_keepFirst.2.1 13 = .ok (.iload_n 3, 1) := by decide +kernel
theorem d_X7_keepFirst_14 : decode J_X7_keepFirst.2.1 14 = .ok (.invokevirtual 123, 3) := by decide +kernel
theorem d_X7_keepFirst_17 : decode J_X7_keepFirst.2.1 17 = .ok (.ifCond .eq 12, 3) := by decide +kernel
theorem d_X7_keepFirst_20 : decode J_X7_keepFirst.2.1 20 = .ok (.iload_n 2, 1) := by decide +kernel
theorem d_X7_keepFirst_21 : decode J_X7_keepFirst.2.1 21 = .ok (.bipush 10, 2) := by decide +kernel
theorem d_X7_keepFirst_23 : decode J_X7_keepFirst.2.1 23 = .ok (.imul, 1) := by decide +kernel
theorem d_X7_keepFirst_24 : decode J_X7_keepFirst.2.1 24 = .ok (.iload_n 3, 1) := by decide +kernel
theorem d_X7_keepFirst_25 : decode J_X7_keepFirst.2.1 25 = .ok (.iadd, 1) := by decide +kernel
theorem d_X7_keepFirst_26 : decode J_X7_keepFirst.2.1 26 = .ok (.goto 4, 3) := by decide +kernel
theorem d_X7_keepFirst_29 : decode J_X7_keepFirst.2.1 29 = .ok (.iload_n 2, 1) := by decide +kernel
theorem d_X7_keepFirst_30 : decode J_X7_keepFirst.2.1 30 = .ok (.istore_n 2, 1) := by decide +kernel
theorem d_X7_keepFirst_31 : decode J_X7_keepFirst.2.1 31 = .ok (.iinc 3 1, 3) := by decide +kernel
theorem d_X7_keepFirst_34 : decode J_X7_keepFirst.2.1 34 = .ok (.goto (-30), 3) := by decide +kernel
theorem d_X7_keepFirst_37 : decode J_X7_keepFirst.2.1 37 = .ok (.iload_n 1, 1) := by decide +kernel
theorem d_X7_keepFirst_38 : decode J_X7_keepFirst.2.1 38 = .ok (.ifCond .lt 44, 3) := by decide +kernel
theorem d_X7_keepFirst_41 : decode J_X7_keepFirst.2.1 41 = .ok (.aload_n 0, 1) := by decide +kernel
theorem d_X7_keepFirst_42 : decode J_X7_keepFirst.2.1 42 = .ok (.getfield 95, 3) := by decide +kernel
theorem d_X7_keepFirst_45 : decode J_X7_keepFirst.2.1 45 = .ok (.ifCond .lt 27, 3) := by decide +kernel
theorem d_X7_keepFirst_48 : decode J_X7_keepFirst.2.1 48 = .ok (.iload_n 1, 1) := by decide +kernel
theorem d_X7_keepFirst_49 : decode J_X7_keepFirst.2.1 49 = .ok (.aload_n 0, 1) := by decide +kernel
theorem d_X7_keepFirst_50 : decode J_X7_keepFirst.2.1 50 = .ok (.getfield 95, 3) := by decide +kernel
theorem d_X7_keepFirst_53 : decode J_X7_keepFirst.2.1 53 = .ok (.if_icmp .lt 19, 3) := by decide +kernel
theorem d_X7_keepFirst_56 : decode J_X7_keepFirst.2.1 56 = .ok (.iload_n 1, 1) := by decide +kernel
theorem d_X7_keepFirst_57 : decode J_X7_keepFirst.2.1 57 = .ok (.aload_n 0, 1) := by decide +kernel
theorem d_X7_keepFirst_58 : decode J_X7_keepFirst.2.1 58 = .ok (.getfield 95, 3) := by decide +kernel
theorem d_X7_keepFirst_61 : decode J_X7_keepFirst.2.1 61 = .ok (.if_icmp .ne 21, 3) := by decide +kernel
theorem d_X7_keepFirst_64 : decode J_X7_keepFirst.2.1 64 = .ok (.iload_n 2, 1) := by decide +kernel
theorem d_X7_keepFirst_65 : decode J_X7_keepFirst.2.1 65 = .ok (.aload_n 0, 1) := by decide +kernel
theorem d_X7_keepFirst_66 : decode J_X7_keepFirst.2.1 66 = .ok (.getfield 98, 3) := by decide +kernel
theorem d_X7_keepFirst_69 : decode J_X7_keepFirst.2.1 69 = .ok (.if_icmp .ge 13, 3) := by decide +kernel
theorem d_X7_keepFirst_72 : decode J_X7_keepFirst.2.1 72 = .ok (.aload_n 0, 1) := by decide +kernel
theorem d_X7_keepFirst_73 : decode J_X7_keepFirst.2.1 73 = .ok (.iload_n 1, 1) := by decide +kernel
theorem d_X7_keepFirst_74 : decode J_X7_keepFirst.2.1 74 = .ok (.putfield 95, 3) := by decide +kernel
theorem d_X7_keepFirst_77 : decode J_X7_keepFirst.2.1 77 = .ok (.aload_n 0, 1) := by decide +kernel
theorem d_X7_keepFirst_78 : decode J_X7_keepFirst.2.1 78 = .ok (.iload_n 2, 1) := by decide +kernel
theorem d_X7_keepFirst_79 : decode J_X7_keepFirst.2.1 79 = .ok (.putfield 98, 3) := by decide +kernel
theorem d_X7_keepFirst_82 : decode J_X7_keepFirst.2.1 82 = .ok (.return_, 1) := by decide +kernel
def f_X7_keepFirst_72 (N : Nat) (K : oK)  (p1 : Int32) (p2 : Int32) (M : oM) : Option (Unit × oM) :=
  some ((), (oUp (oUp M 28 14 p1) 28 15 p2))
set_option maxRecDepth 20000 in
theorem v_X7_keepFirst_72 {X : oX} {d N : Nat} {K : oK}  {p1 : Int32} {p2 : Int32} {M : oM} {v : Unit} {M' : oM}  (hd : 2 ≤ d) (hK : oSR K)   (h : f_X7_keepFirst_72 N K  p1 p2 M = some (v, M')) : oEv X d J_X7_keepFirst 72 [some (.ref 28), some (.int p1), some (.int p2), none] [] K M none K M' := by
  unfold f_X7_keepFirst_72 at h
  refine oe_aload_n (pc := 72) d_X7_keepFirst_72 rfl ?_
  refine oe_iload_n (pc := 73) d_X7_keepFirst_73 rfl ?_
  refine oe_putf (pc := 74) d_X7_keepFirst_74 fl_X7_95 ock7 (k := 14) (Nat.le_of_ble_eq_true rfl) rfl rfl (oLt hK (a := 28) (Nat.le_of_ble_eq_true rfl)) (oSho hK (a := 28) (Nat.le_of_ble_eq_true rfl) rfl) ?_
  refine oe_aload_n (pc := 77) d_X7_keepFirst_77 rfl ?_
  refine oe_iload_n (pc := 78) d_X7_keepFirst_78 rfl ?_
  refine oe_putf (pc := 79) d_X7_keepFirst_79 fl_X7_98 ock7 (k := 15) (Nat.le_of_ble_eq_true rfl) rfl rfl (oLt hK (a := 28) (Nat.le_of_ble_eq_true rfl)) (oSho hK (a := 28) (Nat.le_of_ble_eq_true rfl) rfl) ?_
  obtain ⟨rfl, rfl⟩ := oRes h
  exact oe_vret (pc := 82) d_X7_keepFirst_82 rfl
def f_X7_keepFirst_30 (N : Nat) (K : oK) (r4 : (Int32 → Int32 → Int32 → oM → Option (Unit × oM))) (p1 : Int32) (p3 : Int32) (s0 : Int32) (M : oM) : Option (Unit × oM) :=
  (r4 p1 s0 (p3 + 1) M)
set_option maxRecDepth 20000 in
theorem v_X7_keepFirst_30 {X : oX} {d N : Nat} {K : oK} {r4 : (Int32 → Int32 → Int32 → oM → Option (Unit × oM))} {p1 : Int32} {p3 : Int32} {s0 : Int32} {M : oM} {v : Unit} {M' : oM}  (hd : 2 ≤ d) (hK : oSR K)  (hr4 : ∀ (p1 : Int32) (p2 : Int32) (p3 : Int32) (M : oM) (v : Unit) (M' : oM) , r4 p1 p2 p3 M = some (v, M') → oEv X d J_X7_keepFirst 4 [some (.ref 28), some (.int p1), some (.int p2), some (.int p3)] [] K M none K M') (h : f_X7_keepFirst_30 N K r4 p1 p3 s0 M = some (v, M')) : oEv X d J_X7_keepFirst 30 [some (.ref 28), some (.int p1), none, some (.int p3)] [(.int s0)] K M none K M' := by
  unfold f_X7_keepFirst_30 at h
  refine oe_istore_n (pc := 30) (L2 := [_, _, _, _]) d_X7_keepFirst_30 rfl rfl (Nat.le_of_ble_eq_true rfl) rfl ?_
  refine oe_iinc (pc := 31) (v := (p3 + 1)) (L2 := [_, _, _, _]) d_X7_keepFirst_31 rfl rfl rfl (Nat.le_of_ble_eq_true rfl) rfl ?_
  refine oe_goto (pc := 34) (tgt := 4) d_X7_keepFirst_34 (by decide) ?_
  exact hr4 _ _ _ _ _ _ h
def f_X7_keepFirst_4 (N : Nat) (K : oK)  : Nat → Int32 → Int32 → Int32 → oM → Option (Unit × oM)
  | 0, _, _, _, _ => none
  | n + 1, p1, p2, p3, M => (fun r4 => (if (M.1 28 11) ≤ p3 then (if p1 < 0 then some ((), M) else (if (M.1 28 14) < 0 then (f_X7_keepFirst_72 N K  p1 p2 M) else (if p1 < (M.1 28 14) then (f_X7_keepFirst_72 N K  p1 p2 M) else (if p1 = (M.1 28 14) then (if (M.1 28 15) ≤ p2 then some ((), M) else (f_X7_keepFirst_72 N K  p1 p2 M)) else some ((), M))))) else oB2 (f_X7_standsAhead N K p3 M) (fun v7 M8 => cond v7 ((f_X7_keepFirst_30 N K r4 p1 p3 ((p2 * 10) + p3) M8)) ((f_X7_keepFirst_30 N K r4 p1 p3 p2 M8))))) (f_X7_keepFirst_4 N K  n)
set_option maxRecDepth 20000 in
theorem v_X7_keepFirst_4_L {X : oX} {d N : Nat} {K : oK}  (hd : 2 ≤ d) (hK : oSR K)  : ∀ (n : Nat) (p1 : Int32) (p2 : Int32) (p3 : Int32) (M : oM) (v : Unit) (M' : oM)  , f_X7_keepFirst_4 N K  n p1 p2 p3 M = some (v, M') → oEv X d J_X7_keepFirst 4 [some (.ref 28), some (.int p1), some (.int p2), some (.int p3)] [] K M none K M' := by
  intro n
  induction n with
  | zero =>
    intro p1 p2 p3 M v M'   h
    cases h
  | succ n hr4 =>
    intro p1 p2 p3 M v M'   h
    refine oe_iload_n (pc := 4) d_X7_keepFirst_4 rfl ?_
    refine oe_aload_n (pc := 5) d_X7_keepFirst_5 rfl ?_
    refine oe_getf (pc := 6) d_X7_keepFirst_6 fl_X7_52 ock7 (k := 11) (Nat.le_of_ble_eq_true rfl) rfl (oLt hK (a := 28) (Nat.le_of_ble_eq_true rfl)) (oSho hK (a := 28) (Nat.le_of_ble_eq_true rfl) rfl) ?_
    refine oe_icmp_ge (pc := 9) (tgt := 37) d_X7_keepFirst_9 (by decide) (fun c1 => ?_) (fun c1 => ?_)
    · replace h := (if_pos c1).symm.trans h
      refine oe_iload_n (pc := 37) d_X7_keepFirst_37 rfl ?_
      refine oe_if_lt (pc := 38) (tgt := 82) d_X7_keepFirst_38 (by decide) (fun c2 => ?_) (fun c2 => ?_)
      · replace h := (if_pos c2).symm.trans h
        obtain ⟨rfl, rfl⟩ := oRes h
        exact oe_vret (pc := 82) d_X7_keepFirst_82 rfl
      · replace h := (if_neg c2).symm.trans h
        refine oe_aload_n (pc := 41) d_X7_keepFirst_41 rfl ?_
        refine oe_getf (pc := 42) d_X7_keepFirst_42 fl_X7_95 ock7 (k := 14) (Nat.le_of_ble_eq_true rfl) rfl (oLt hK (a := 28) (Nat.le_of_ble_eq_true rfl)) (oSho hK (a := 28) (Nat.le_of_ble_eq_true rfl) rfl) ?_
        refine oe_if_lt (pc := 45) (tgt := 72) d_X7_keepFirst_45 (by decide) (fun c3 => ?_) (fun c3 => ?_)
        · replace h := (if_pos c3).symm.trans h
          refine oEv.fg [true, true, true, false] ?_
          exact v_X7_keepFirst_72 hd hK   h
        · replace h := (if_neg c3).symm.trans h
          refine oe_iload_n (pc := 48) d_X7_keepFirst_48 rfl ?_
          refine oe_aload_n (pc := 49) d_X7_keepFirst_49 rfl ?_
          refine oe_getf (pc := 50) d_X7_keepFirst_50 fl_X7_95 ock7 (k := 14) (Nat.le_of_ble_eq_true rfl) rfl (oLt hK (a := 28) (Nat.le_of_ble_eq_true rfl)) (oSho hK (a := 28) (Nat.le_of_ble_eq_true rfl) rfl) ?_
          refine oe_icmp_lt (pc := 53) (tgt := 72) d_X7_keepFirst_53 (by decide) (fun c4 => ?_) (fun c4 => ?_)
          · replace h := (if_pos c4).symm.trans h
            refine oEv.fg [true, true, true, false] ?_
            exact v_X7_keepFirst_72 hd hK   h
          · replace h := (if_neg c4).symm.trans h
            refine oe_iload_n (pc := 56) d_X7_keepFirst_56 rfl ?_
            refine oe_aload_n (pc := 57) d_X7_keepFirst_57 rfl ?_
            refine oe_getf (pc := 58) d_X7_keepFirst_58 fl_X7_95 ock7 (k := 14) (Nat.le_of_ble_eq_true rfl) rfl (oLt hK (a := 28) (Nat.le_of_ble_eq_true rfl)) (oSho hK (a := 28) (Nat.le_of_ble_eq_true rfl) rfl) ?_
            refine oe_icmp_ne (pc := 61) (tgt := 82) d_X7_keepFirst_61 (by decide) (fun c5 => ?_) (fun c5 => ?_)
            · replace h := (if_neg c5).symm.trans h
              obtain ⟨rfl, rfl⟩ := oRes h
              exact oe_vret (pc := 82) d_X7_keepFirst_82 rfl
            · replace h := (if_pos c5).symm.trans h
              refine oe_iload_n (pc := 64) d_X7_keepFirst_64 rfl ?_
              refine oe_aload_n (pc := 65) d_X7_keepFirst_65 rfl ?_
              refine oe_getf (pc := 66) d_X7_keepFirst_66 fl_X7_98 ock7 (k := 15) (Nat.le_of_ble_eq_true rfl) rfl (oLt hK (a := 28) (Nat.le_of_ble_eq_true rfl)) (oSho hK (a := 28) (Nat.le_of_ble_eq_true rfl) rfl) ?_
              refine oe_icmp_ge (pc := 69) (tgt := 82) d_X7_keepFirst_69 (by decide) (fun c6 => ?_) (fun c6 => ?_)
              · replace h := (if_pos c6).symm.trans h
                obtain ⟨rfl, rfl⟩ := oRes h
                exact oe_vret (pc := 82) d_X7_keepFirst_82 rfl
              · replace h := (if_neg c6).symm.trans h
                refine oEv.fg [true, true, true, false] ?_
                exact v_X7_keepFirst_72 hd hK   h
    · replace h := (if_neg c1).symm.trans h
      refine oe_aload_n (pc := 12) d_X7_keepFirst_12 rfl ?_
      refine oe_iload_n (pc := 13) d_X7_keepFirst_13 rfl ?_
      obtain ⟨v7, M8, q9, h⟩ := oB2_some h
      cases v7 with
      | true =>
        replace h := oCt h
        refine oe_callV (pc := 14) (ci := 7) d_X7_keepFirst_14 (v_X7_standsAhead hK  q9) (by omega) ml_X7_123 jJ_X7_standsAhead rfl rfl (oLt hK (a := 28) (Nat.le_of_ble_eq_true rfl)) (oSho hK (a := 28) (Nat.le_of_ble_eq_true rfl) rfl) ock7 rfl (Nat.le_of_ble_eq_true rfl) ⟨Nat.le_refl _, Nat.le_refl _⟩ ⟨Nat.le_refl _, Nat.le_refl _⟩ ?_
        refine oe_if_eq (pc := 17) (tgt := 29) d_X7_keepFirst_17 (by decide) (fun c => absurd c (by decide)) (fun _ => ?_)
        refine oe_iload_n (pc := 20) d_X7_keepFirst_20 rfl ?_
        refine oe_bipush (pc := 21) (v := 10) d_X7_keepFirst_21 rfl ?_
        refine oe_imul (pc := 23) d_X7_keepFirst_23 ?_
        refine oe_iload_n (pc := 24) d_X7_keepFirst_24 rfl ?_
        refine oe_iadd (pc := 25) d_X7_keepFirst_25 ?_
        refine oe_goto (pc := 26) (tgt := 30) d_X7_keepFirst_26 (by decide) ?_
        refine oEv.fg [true, true, false, true] ?_
        exact v_X7_keepFirst_30 hd hK  hr4 h
      | false =>
        replace h := oCf h
        refine oe_callV (pc := 14) (ci := 7) d_X7_keepFirst_14 (v_X7_standsAhead hK  q9) (by omega) ml_X7_123 jJ_X7_standsAhead rfl rfl (oLt hK (a := 28) (Nat.le_of_ble_eq_true rfl)) (oSho hK (a := 28) (Nat.le_of_ble_eq_true rfl) rfl) ock7 rfl (Nat.le_of_ble_eq_true rfl) ⟨Nat.le_refl _, Nat.le_refl _⟩ ⟨Nat.le_refl _, Nat.le_refl _⟩ ?_
        refine oe_if_eq (pc := 17) (tgt := 29) d_X7_keepFirst_17 (by decide) (fun _ => ?_) (fun c => absurd (by decide) c)
        refine oe_iload_n (pc := 29) d_X7_keepFirst_29 rfl ?_
        refine oEv.fg [true, true, false, true] ?_
        exact v_X7_keepFirst_30 hd hK  hr4 h
theorem v_X7_keepFirst_4 {X : oX} {d N : Nat} {K : oK}  {p1 : Int32} {p2 : Int32} {p3 : Int32} {M : oM} {v : Unit} {M' : oM}  (hd : 2 ≤ d) (hK : oSR K)   (h : f_X7_keepFirst_4 N K  N p1 p2 p3 M = some (v, M')) : oEv X d J_X7_keepFirst 4 [some (.ref 28), some (.int p1), some (.int p2), some (.int p3)] [] K M none K M' := v_X7_keepFirst_4_L hd hK  N p1 p2 p3 M v M'   h
def f_X7_keepFirst (N : Nat) (K : oK) (p1 : Int32) (M : oM) : Option (Unit × oM) :=
  (f_X7_keepFirst_4 N K  N p1 0 0 M)
set_option maxRecDepth 20000 in
theorem v_X7_keepFirst {X : oX} {N : Nat} {K : oK} {p1 : Int32} {M : oM} {v : Unit} {M' : oM} (hK : oSR K)  (h : f_X7_keepFirst N K p1 M = some (v, M')) : oMet X 2 J_X7_keepFirst [(.ref 28), (.int p1)] K M none K M' := by
  unfold f_X7_keepFirst at h
  refine oMet_of (L := [some (.ref 28), some (.int p1), none, none]) jJ_X7_keepFirst.1 rfl (Nat.le_of_ble_eq_true rfl) rfl (Nat.le_refl _) (Nat.le_refl _) ?_
  have hd : 2 ≤ 2 := Nat.le_refl _
  refine oe_iconst (pc := 0) (v := 0) d_X7_keepFirst_0 rfl ?_
  refine oe_istore_n (pc := 1) (L2 := [_, _, _, _]) d_X7_keepFirst_1 rfl rfl (Nat.le_of_ble_eq_true rfl) rfl ?_
  refine oe_iconst (pc := 2) (v := 0) d_X7_keepFirst_2 rfl ?_
  refine oe_istore_n (pc := 3) (L2 := [_, _, _, _]) d_X7_keepFirst_3 rfl rfl (Nat.le_of_ble_eq_true rfl) rfl ?_
  exact v_X7_keepFirst_4 hd hK   h
theorem d_X7_comes_0 : decode J_X7_comes.2.1 0 = .ok (.aload_n 0, 1) := by decide +kernel
theorem d_X7_comes_1 : decode J_X7_comes.2.1 1 = .ok (.iload_n 1, 1) := by decide +kernel
theorem d_X7_comes_2 : decode J_X7_comes.2.1 2 = .ok (.invokevirtual 91, 3) := by decide +kernel
theorem d_X7_comes_5 : decode J_X7_comes.2.1 5 = .ok (.aload_n 0, 1) := by decide +kernel
theorem d_X7_comes_6 : decode J_X7_comes.2.1 6 = .ok (.iconst (-1), 1) := by decide +kernel
theorem d_X7_comes_7 : decode J_X7_comes.2.1 7 = .ok (.putfield 95, 3) := by decide +kernel
theorem d_X7_comes_10 : decode J_X7_comes.2.1 10 = .ok (.aload_n 0, 1) := by decide +kernel
theorem d_X7_comes_11 : decode J_X7_comes.2.1 11 = .ok (.iconst 0, 1) := by decide +kernel
theorem d_X7_comes_12 : decode J_X7_comes.2.1 12 = .ok (.putfield 98, 3) := by decide +kernel
theorem d_X7_comes_15 : decode J_X7_comes.2.1 15 = .ok (.iconst 0, 1) := by decide +kernel
theorem d_X7_comes_16 : decode J_X7_comes.2.1 16 = .ok (.istore_n 3, 1) := by decide +kernel
theorem d_X7_comes_17 : decode J_X7_comes.2.1 17 = .ok (.iload_n 3, 1) := by decide +kernel
theorem d_X7_comes_18 : decode J_X7_comes.2.1 18 = .ok (.iconst 1, 1) := by decide +kernel
theorem d_X7_comes_19 : decode J_X7_comes.2.1 19 = .ok (.aload_n 0, 1) := by decide +kernel
theorem d_X7_comes_20 : decode J_X7_comes.2.1 20 = .ok (.getfield 52, 3) := by decide +kernel
theorem d_X7_comes_23 : decode J_X7_comes.2.1 23 = .ok (.ishl, 1) := by decide +kernel
theorem d_X7_comes_24 : decode J_X7_comes.2.1 24 = .ok (.if_icmp .ge 38, 3) := by decide +kernel
theorem d_X7_comes_27 : decode J_X7_comes.2.1 27 = .ok (.aload_n 0, 1) := by decide +kernel
theorem d_X7_comes_28 : decode J_X7_comes.2.1 28 = .ok (.iload_n 3, 1) := by decide +kernel
theorem d_X7_comes_29 : decode J_X7_comes.2.1 29 = .ok (.invokevirtual 101, 3) := by decide +kernel
theorem d_X7_comes_32 : decode J_X7_comes.2.1 32 = .ok (.ifCond .eq 24, 3) := by decide +kernel
theorem d_X7_comes_35 : decode J_X7_comes.2.1 35 = .ok (.aload_n 0, 1) := by decide +kernel
theorem d_X7_comes_36 : decode J_X7_comes.2.1 36 = .ok (.iload_n 3, 1) := by decide +kernel
theorem d_X7_comes_37 : decode J_X7_comes.2.1 37 = .ok (.putfield 105, 3) := by decide +kernel
theorem d_X7_comes_40 : decode J_X7_comes.2.1 40 = .ok (.aload_n 0, 1) := by decide +kernel
theorem d_X7_comes_41 : decode J_X7_comes.2.1 41 = .ok (.iload_n 2, 1) := by decide +kernel
theorem d_X7_comes_42 : decode J_X7_comes.2.1 42 = .ok (.invokevirtual 108, 3) := by decide +kernel
theorem d_X7_comes_45 : decode J_X7_comes.2.1 45 = .ok (.aload_n 0, 1) := by decide +kernel
theorem d_X7_comes_46 : decode J_X7_comes.2.1 46 = .ok (.aload_n 0, 1) := by decide +kernel
theorem d_X7_comes_47 : decode J_X7_comes.2.1 47 = .ok (.iconst 0, 1) := by decide +kernel
theorem d_X7_comes_48 : decode J_X7_comes.2.1 48 = .ok (.iconst 0, 1) := by decide +kernel
theorem d_X7_comes_49 : decode J_X7_comes.2.1 49 = .ok (.iconst 0, 1) := by decide +kernel
theorem d_X7_comes_50 : decode J_X7_comes.2.1 50 = .ok (.invokestatic 111, 3) := by decide +kernel
theorem d_X7_comes_53 : decode J_X7_comes.2.1 53 = .ok (.invokevirtual 115, 3) := by decide +kernel
theorem d_X7_comes_56 : decode J_X7_comes.2.1 56 = .ok (.iinc 3 1, 3) := by decide +kernel
theorem d_X7_comes_59 : decode J_X7_comes.2.1 59 = .ok (.goto (-42), 3) := by decide +kernel
theorem d_X7_comes_62 : decode J_X7_comes.2.1 62 = .ok (.aload_n 0, 1) := by decide +kernel
theorem d_X7_comes_63 : decode J_X7_comes.2.1 63 = .ok (.getfield 95, 3) := by decide +kernel
theorem d_X7_comes_66 : decode J_X7_comes.2.1 66 = .ok (.ifCond .lt 7, 3) := by decide +kernel
theorem d_X7_comes_69 : decode J_X7_comes.2.1 69 = .ok (.iconst 1, 1) := by decide +kernel
theorem d_X7_comes_70 : decode J_X7_comes.2.1 70 = .ok (.goto 4, 3) := by decide +kernel
theorem d_X7_comes_73 : decode J_X7_comes.2.1 73 = .ok (.iconst 0, 1) := by decide +kernel
theorem d_X7_comes_74 : decode J_X7_comes.2.1 74 = .ok (.ireturn, 1) := by decide +kernel
def f_X7_comes_56 (N : Nat) (K : oK) (r17 : (Int32 → Int32 → oM → Option (Bool × oM))) (p2 : Int32) (p3 : Int32) (M : oM) : Option (Bool × oM) :=
  (r17 p2 (p3 + 1) M)
set_option maxRecDepth 20000 in
theorem v_X7_comes_56 {X : oX} {d N : Nat} {K : oK} {r17 : (Int32 → Int32 → oM → Option (Bool × oM))} {p2 : Int32} {p3 : Int32} {M : oM} {v : Bool} {M' : oM}  (hd : 13 ≤ d) (hK : oSR K)  (hr17 : ∀ (p2 : Int32) (p3 : Int32) (M : oM) (v : Bool) (M' : oM) , r17 p2 p3 M = some (v, M') → oEv X d J_X7_comes 17 [some (.ref 28), none, some (.int p2), some (.int p3)] [] K M (some (.int (oBi v))) K M') (h : f_X7_comes_56 N K r17 p2 p3 M = some (v, M')) : oEv X d J_X7_comes 56 [some (.ref 28), none, some (.int p2), some (.int p3)] [] K M (some (.int (oBi v))) K M' := by
  unfold f_X7_comes_56 at h
  refine oe_iinc (pc := 56) (v := (p3 + 1)) (L2 := [_, _, _, _]) d_X7_comes_56 rfl rfl rfl (Nat.le_of_ble_eq_true rfl) rfl ?_
  refine oe_goto (pc := 59) (tgt := 17) d_X7_comes_59 (by decide) ?_
  exact hr17 _ _ _ _ _ h
def f_X7_comes_17 (N : Nat) (K : oK)  : Nat → Int32 → Int32 → oM → Option (Bool × oM)
  | 0, _, _, _ => none
  | n + 1, p2, p3, M => (fun r17 => (if ((1 : Int32) <<< ((M.1 28 11) &&& 31)) ≤ p3 then (if (M.1 28 14) < 0 then some (false, M) else some (true, M)) else oB2 (f_X7_mayStand N K p3 M) (fun v6 M7 => cond v6 (oB2 (f_X7_setFloors N K p2 (oUp M7 28 13 p3)) (fun v9 M10 => oB2 (f_X7_firstBores N K 9 (0 : Int32) (0 : Int32) (0 : Int32) M10) (fun v12 M13 => oB2 (f_X7_keepFirst N K v12 M13) (fun v15 M16 => (f_X7_comes_56 N K r17 p2 p3 M16))))) ((f_X7_comes_56 N K r17 p2 p3 M7))))) (f_X7_comes_17 N K  n)
set_option maxRecDepth 20000 in
theorem v_X7_comes_17_L {X : oX} {d N : Nat} {K : oK}  (hd : 13 ≤ d) (hK : oSR K)  : ∀ (n : Nat) (p2 : Int32) (p3 : Int32) (M : oM) (v : Bool) (M' : oM)  , f_X7_comes_17 N K  n p2 p3 M = some (v, M') → oEv X d J_X7_comes 17 [some (.ref 28), none, some (.int p2), some (.int p3)] [] K M (some (.int (oBi v))) K M' := by
  intro n
  induction n with
  | zero =>
    intro p2 p3 M v M'   h
    cases h
  | succ n hr17 =>
    intro p2 p3 M v M'   h
    refine oe_iload_n (pc := 17) d_X7_comes_17 rfl ?_
    refine oe_iconst (pc := 18) (v := 1) d_X7_comes_18 rfl ?_
    refine oe_aload_n (pc := 19) d_X7_comes_19 rfl ?_
    refine oe_getf (pc := 20) d_X7_comes_20 fl_X7_52 ock7 (k := 11) (Nat.le_of_ble_eq_true rfl) rfl (oLt hK (a := 28) (Nat.le_of_ble_eq_true rfl)) (oSho hK (a := 28) (Nat.le_of_ble_eq_true rfl) rfl) ?_
    refine oe_ishl (pc := 23) d_X7_comes_23 ?_
    refine oe_icmp_ge (pc := 24) (tgt := 62) d_X7_comes_24 (by decide) (fun c4 => ?_) (fun c4 => ?_)
    · replace h := (if_pos c4).symm.trans h
      refine oe_aload_n (pc := 62) d_X7_comes_62 rfl ?_
      refine oe_getf (pc := 63) d_X7_comes_63 fl_X7_95 ock7 (k := 14) (Nat.le_of_ble_eq_true rfl) rfl (oLt hK (a := 28) (Nat.le_of_ble_eq_true rfl)) (oSho hK (a := 28) (Nat.le_of_ble_eq_true rfl) rfl) ?_
      refine oe_if_lt (pc := 66) (tgt := 73) d_X7_comes_66 (by decide) (fun c5 => ?_) (fun c5 => ?_)
      · replace h := (if_pos c5).symm.trans h
        refine oe_iconst (pc := 73) (v := 0) d_X7_comes_73 rfl ?_
        obtain ⟨rfl, rfl⟩ := oRes h
        exact oe_iret (pc := 74) d_X7_comes_74 ⟨_, rfl, rfl⟩
      · replace h := (if_neg c5).symm.trans h
        refine oe_iconst (pc := 69) (v := 1) d_X7_comes_69 rfl ?_
        refine oe_goto (pc := 70) (tgt := 74) d_X7_comes_70 (by decide) ?_
        obtain ⟨rfl, rfl⟩ := oRes h
        exact oe_iret (pc := 74) d_X7_comes_74 ⟨_, rfl, rfl⟩
    · replace h := (if_neg c4).symm.trans h
      refine oe_aload_n (pc := 27) d_X7_comes_27 rfl ?_
      refine oe_iload_n (pc := 28) d_X7_comes_28 rfl ?_
      obtain ⟨v6, M7, q8, h⟩ := oB2_some h
      cases v6 with
      | true =>
        replace h := oCt h
        refine oe_callV (pc := 29) (ci := 7) d_X7_comes_29 (v_X7_mayStand hK  q8) (by omega) ml_X7_101 jJ_X7_mayStand rfl rfl (oLt hK (a := 28) (Nat.le_of_ble_eq_true rfl)) (oSho hK (a := 28) (Nat.le_of_ble_eq_true rfl) rfl) ock7 rfl (Nat.le_of_ble_eq_true rfl) ⟨Nat.le_refl _, Nat.le_refl _⟩ ⟨Nat.le_refl _, Nat.le_refl _⟩ ?_
        refine oe_if_eq (pc := 32) (tgt := 56) d_X7_comes_32 (by decide) (fun c => absurd c (by decide)) (fun _ => ?_)
        refine oe_aload_n (pc := 35) d_X7_comes_35 rfl ?_
        refine oe_iload_n (pc := 36) d_X7_comes_36 rfl ?_
        refine oe_putf (pc := 37) d_X7_comes_37 fl_X7_105 ock7 (k := 13) (Nat.le_of_ble_eq_true rfl) rfl rfl (oLt hK (a := 28) (Nat.le_of_ble_eq_true rfl)) (oSho hK (a := 28) (Nat.le_of_ble_eq_true rfl) rfl) ?_
        refine oe_aload_n (pc := 40) d_X7_comes_40 rfl ?_
        refine oe_iload_n (pc := 41) d_X7_comes_41 rfl ?_
        obtain ⟨v9, M10, q11, h⟩ := oB2_some h
        refine oe_callV (pc := 42) (ci := 7) d_X7_comes_42 (v_X7_setFloors hK  q11) (by omega) ml_X7_108 jJ_X7_setFloors rfl rfl (oLt hK (a := 28) (Nat.le_of_ble_eq_true rfl)) (oSho hK (a := 28) (Nat.le_of_ble_eq_true rfl) rfl) ock7 rfl (Nat.le_of_ble_eq_true rfl) ⟨Nat.le_refl _, Nat.le_refl _⟩ ⟨Nat.le_refl _, Nat.le_refl _⟩ ?_
        refine oe_aload_n (pc := 45) d_X7_comes_45 rfl ?_
        refine oe_aload_n (pc := 46) d_X7_comes_46 rfl ?_
        refine oe_iconst (pc := 47) (v := 0) d_X7_comes_47 rfl ?_
        refine oe_iconst (pc := 48) (v := 0) d_X7_comes_48 rfl ?_
        refine oe_iconst (pc := 49) (v := 0) d_X7_comes_49 rfl ?_
        obtain ⟨v12, M13, q14, h⟩ := oB2_some h
        refine oe_callS (pc := 50) d_X7_comes_50 (v_X7_firstBores_R hK 9 _ _ _ _ _ _  q14) (by omega) ml_X7_111 jJ_X7_firstBores rfl rfl (Nat.le_of_ble_eq_true rfl) ⟨Nat.le_refl _, Nat.le_refl _⟩ ⟨Nat.le_refl _, Nat.le_refl _⟩ ?_
        obtain ⟨v15, M16, q17, h⟩ := oB2_some h
        refine oe_callV (pc := 53) (ci := 7) d_X7_comes_53 (v_X7_keepFirst hK  q17) (by omega) ml_X7_115 jJ_X7_keepFirst rfl rfl (oLt hK (a := 28) (Nat.le_of_ble_eq_true rfl)) (oSho hK (a := 28) (Nat.le_of_ble_eq_true rfl) rfl) ock7 rfl (Nat.le_of_ble_eq_true rfl) ⟨Nat.le_refl _, Nat.le_refl _⟩ ⟨Nat.le_refl _, Nat.le_refl _⟩ ?_
        exact v_X7_comes_56 hd hK  hr17 h
      | false =>
        replace h := oCf h
        refine oe_callV (pc := 29) (ci := 7) d_X7_comes_29 (v_X7_mayStand hK  q8) (by omega) ml_X7_101 jJ_X7_mayStand rfl rfl (oLt hK (a := 28) (Nat.le_of_ble_eq_true rfl)) (oSho hK (a := 28) (Nat.le_of_ble_eq_true rfl) rfl) ock7 rfl (Nat.le_of_ble_eq_true rfl) ⟨Nat.le_refl _, Nat.le_refl _⟩ ⟨Nat.le_refl _, Nat.le_refl _⟩ ?_
        refine oe_if_eq (pc := 32) (tgt := 56) d_X7_comes_32 (by decide) (fun _ => ?_) (fun c => absurd (by decide) c)
        exact v_X7_comes_56 hd hK  hr17 h
theorem v_X7_comes_17 {X : oX} {d N : Nat} {K : oK}  {p2 : Int32} {p3 : Int32} {M : oM} {v : Bool} {M' : oM}  (hd : 13 ≤ d) (hK : oSR K)   (h : f_X7_comes_17 N K  N p2 p3 M = some (v, M')) : oEv X d J_X7_comes 17 [some (.ref 28), none, some (.int p2), some (.int p3)] [] K M (some (.int (oBi v))) K M' := v_X7_comes_17_L hd hK  N p2 p3 M v M'   h
def f_X7_comes (N : Nat) (K : oK) (p1 : Int32) (p2 : Int32) (M : oM) : Option (Bool × oM) :=
  oB2 (f_X7_weigh N K p1 M) (fun v1 M2 => (f_X7_comes_17 N K  N p2 0 (oUp (oUp M2 28 14 ((-1) : Int32)) 28 15 (0 : Int32))))
set_option maxRecDepth 20000 in
theorem v_X7_comes {X : oX} {N : Nat} {K : oK} {p1 : Int32} {p2 : Int32} {M : oM} {v : Bool} {M' : oM} (hK : oSR K)  (h : f_X7_comes N K p1 p2 M = some (v, M')) : oMet X 13 J_X7_comes [(.ref 28), (.int p1), (.int p2)] K M (some (.int (oBi v))) K M' := by
  unfold f_X7_comes at h
  refine oMet_of (L := [some (.ref 28), some (.int p1), some (.int p2), none]) jJ_X7_comes.1 rfl (Nat.le_of_ble_eq_true rfl) rfl (Nat.le_refl _) (Nat.le_refl _) ?_
  have hd : 13 ≤ 13 := Nat.le_refl _
  refine oe_aload_n (pc := 0) d_X7_comes_0 rfl ?_
  refine oe_iload_n (pc := 1) d_X7_comes_1 rfl ?_
  obtain ⟨v1, M2, q3, h⟩ := oB2_some h
  refine oe_callV (pc := 2) (ci := 7) d_X7_comes_2 (v_X7_weigh hK  q3) (by omega) ml_X7_91 jJ_X7_weigh rfl rfl (oLt hK (a := 28) (Nat.le_of_ble_eq_true rfl)) (oSho hK (a := 28) (Nat.le_of_ble_eq_true rfl) rfl) ock7 rfl (Nat.le_of_ble_eq_true rfl) ⟨Nat.le_refl _, Nat.le_refl _⟩ ⟨Nat.le_refl _, Nat.le_refl _⟩ ?_
  refine oe_aload_n (pc := 5) d_X7_comes_5 rfl ?_
  refine oe_iconst (pc := 6) (v := (-1)) d_X7_comes_6 rfl ?_
  refine oe_putf (pc := 7) d_X7_comes_7 fl_X7_95 ock7 (k := 14) (Nat.le_of_ble_eq_true rfl) rfl rfl (oLt hK (a := 28) (Nat.le_of_ble_eq_true rfl)) (oSho hK (a := 28) (Nat.le_of_ble_eq_true rfl) rfl) ?_
  refine oe_aload_n (pc := 10) d_X7_comes_10 rfl ?_
  refine oe_iconst (pc := 11) (v := 0) d_X7_comes_11 rfl ?_
  refine oe_putf (pc := 12) d_X7_comes_12 fl_X7_98 ock7 (k := 15) (Nat.le_of_ble_eq_true rfl) rfl rfl (oLt hK (a := 28) (Nat.le_of_ble_eq_true rfl)) (oSho hK (a := 28) (Nat.le_of_ble_eq_true rfl) rfl) ?_
  refine oe_iconst (pc := 15) (v := 0) d_X7_comes_15 rfl ?_
  refine oe_istore_n (pc := 16) (L2 := [_, _, _, _]) d_X7_comes_16 rfl rfl (Nat.le_of_ble_eq_true rfl) rfl ?_
  refine oEv.fg [true, false, true, true] ?_
  exact v_X7_comes_17 hd hK   h
theorem d_X7_greatest_0 : decode J_X7_greatest.2.1 0 = .ok (.iconst (-1), 1) := by decide +kernel
theorem d_X7_greatest_1 : decode J_X7_greatest.2.1 1 = .ok (.istore_n 2, 1) := by decide +kernel
theorem d_X7_greatest_2 : decode J_X7_greatest.2.1 2 = .ok (.sipush 600, 3) := by decide +kernel
theorem d_X7_greatest_5 : decode J_X7_greatest.2.1 5 = .ok (.istore_n 3, 1) := by decide +kernel
theorem d_X7_greatest_6 : decode J_X7_greatest.2.1 6 = .ok (.iconst 0, 1) := by decide +kernel
theorem d_X7_greatest_7 : decode J_X7_greatest.2.1 7 = .ok (.istore 4, 2) := by decide +kernel
theorem d_X7_greatest_9 : decode J_X7_greatest.2.1 9 = .ok (.iload 4, 2) := by decide +kernel
theorem d_X7_greatest_11 : decode J_X7_greatest.2.1 11 = .ok (.bipush 10, 2) := by decide +kernel
theorem d_X7_greatest_13 : decode J_X7_greatest.2.1 13 = .ok (.if_icmp .ge 44, 3) := by decide +kernel
theorem d_X7_greatest_16 : decode J_X7_greatest.2.1 16 = .ok (.iload_n 2, 1) := by decide +kernel
theorem d_X7_greatest_17 : decode J_X7_greatest.2.1 17 = .ok (.iload_n 3, 1) := by decide +kernel
theorem d_X7_greatest_18 : decode J_X7_greatest.2.1 18 = .ok (.if_icmp .ge 39, 3) := by decide +kernel
theorem d_X7_greatest_21 : decode J_X7_greatest.2.1 21 = .ok (.iload_n 2, 1) := by decide +kernel
theorem d_X7_greatest_22 : decode J_X7_greatest.2.1 22 = .ok (.iload_n 3, 1) := by decide +kernel
theorem d_X7_greatest_23 : decode J_X7_greatest.2.1 23 = .ok (.iadd, 1) := by decide +kernel
theorem d_X7_greatest_24 : decode J_X7_greatest.2.1 24 = .ok (.iconst 1, 1) := by decide +kernel
theorem d_X7_greatest_25 : decode J_X7_greatest.2.1 25 = .ok (.iadd, 1) := by decide +kernel
theorem d_X7_greatest_26 : decode J_X7_greatest.2.1 26 = .ok (.iconst 2, 1) := by decide +kernel
theorem d_X7_greatest_27 : decode J_X7_greatest.2.1 27 = .ok (.idiv, 1) := by decide +kernel
theorem d_X7_greatest_28 : decode J_X7_greatest.2.1 28 = .ok (.istore 5, 2) := by decide +kernel
theorem d_X7_greatest_30 : decode J_X7_greatest.2.1 30 = .ok (.aload_n 0, 1) := by decide +kernel
theorem d_X7_greatest_31 : decode J_X7_greatest.2.1 31 = .ok (.iload 5, 2) := by decide +kernel
theorem d_X7_greatest_33 : decode J_X7_greatest.2.1 33 = .ok (.iload_n 1, 1) := by decide +kernel
theorem d_X7_greatest_34 : decode J_X7_greatest.2.1 34 = .ok (.invokevirtual 87, 3) := by decide +kernel
theorem d_X7_greatest_37 : decode J_X7_greatest.2.1 37 = .ok (.ifCond .eq 9, 3) := by decide +kernel
theorem d_X7_greatest_40 : decode J_X7_greatest.2.1 40 = .ok (.iload 5, 2) := by decide +kernel
theorem d_X7_greatest_42 : decode J_X7_greatest.2.1 42 = .ok (.istore_n 2, 1) := by decide +kernel
theorem d_X7_greatest_43 : decode J_X7_greatest.2.1 43 = .ok (.goto 8, 3) := by decide +kernel
theorem d_X7_greatest_46 : decode J_X7_greatest.2.1 46 = .ok (.iload 5, 2) := by decide +kernel
theorem d_X7_greatest_48 : decode J_X7_greatest.2.1 48 = .ok (.iconst 1, 1) := by decide +kernel
theorem d_X7_greatest_49 : decode J_X7_greatest.2.1 49 = .ok (.isub, 1) := by decide +kernel
theorem d_X7_greatest_50 : decode J_X7_greatest.2.1 50 = .ok (.istore_n 3, 1) := by decide +kernel
theorem d_X7_greatest_51 : decode J_X7_greatest.2.1 51 = .ok (.iinc 4 1, 3) := by decide +kernel
theorem d_X7_greatest_54 : decode J_X7_greatest.2.1 54 = .ok (.goto (-45), 3) := by decide +kernel
theorem d_X7_greatest_57 : decode J_X7_greatest.2.1 57 = .ok (.iload_n 2, 1) := by decide +kernel
theorem d_X7_greatest_58 : decode J_X7_greatest.2.1 58 = .ok (.ifCond .lt 16, 3) := by decide +kernel
theorem d_X7_greatest_61 : decode J_X7_greatest.2.1 61 = .ok (.aload_n 0, 1) := by decide +kernel
theorem d_X7_greatest_62 : decode J_X7_greatest.2.1 62 = .ok (.iload_n 2, 1) := by decide +kernel
theorem d_X7_greatest_63 : decode J_X7_greatest.2.1 63 = .ok (.iload_n 1, 1) := by decide +kernel
theorem d_X7_greatest_64 : decode J_X7_greatest.2.1 64 = .ok (.invokevirtual 87, 3) := by decide +kernel
theorem d_X7_greatest_67 : decode J_X7_greatest.2.1 67 = .ok (.ifCond .eq 7, 3) := by decide +kernel
theorem d_X7_greatest_70 : decode J_X7_greatest.2.1 70 = .ok (.iload_n 2, 1) := by decide +kernel
theorem d_X7_greatest_71 : decode J_X7_greatest.2.1 71 = .ok (.goto 5, 3) := by decide +kernel
theorem d_X7_greatest_74 : decode J_X7_greatest.2.1 74 = .ok (.bipush (-2), 2) := by decide +kernel
theorem d_X7_greatest_76 : decode J_X7_greatest.2.1 76 = .ok (.ireturn, 1) := by decide +kernel
def f_X7_greatest_57 (N : Nat) (K : oK)  (p1 : Int32) (p2 : Int32) (M : oM) : Option (Int32 × oM) :=
  (if p2 < 0 then some ((-2), M) else oB2 (f_X7_comes N K p2 p1 M) (fun v3 M4 => cond v3 (some (p2, M4)) (some ((-2), M4))))
set_option maxRecDepth 20000 in
theorem v_X7_greatest_57 {X : oX} {d N : Nat} {K : oK}  {p1 : Int32} {p2 : Int32} {M : oM} {v : Int32} {M' : oM}  (hd : 14 ≤ d) (hK : oSR K)   (h : f_X7_greatest_57 N K  p1 p2 M = some (v, M')) : oEv X d J_X7_greatest 57 [some (.ref 28), some (.int p1), some (.int p2), none, none, none] [] K M (some (.int v)) K M' := by
  unfold f_X7_greatest_57 at h
  refine oe_iload_n (pc := 57) d_X7_greatest_57 rfl ?_
  refine oe_if_lt (pc := 58) (tgt := 74) d_X7_greatest_58 (by decide) (fun c2 => ?_) (fun c2 => ?_)
  · replace h := (if_pos c2).symm.trans h
    refine oe_bipush (pc := 74) (v := (-2)) d_X7_greatest_74 rfl ?_
    obtain ⟨rfl, rfl⟩ := oRes h
    exact oe_iret (pc := 76) d_X7_greatest_76 ⟨_, rfl, rfl⟩
  · replace h := (if_neg c2).symm.trans h
    refine oe_aload_n (pc := 61) d_X7_greatest_61 rfl ?_
    refine oe_iload_n (pc := 62) d_X7_greatest_62 rfl ?_
    refine oe_iload_n (pc := 63) d_X7_greatest_63 rfl ?_
    obtain ⟨v3, M4, q5, h⟩ := oB2_some h
    cases v3 with
    | true =>
      replace h := oCt h
      refine oe_callV (pc := 64) (ci := 7) d_X7_greatest_64 (v_X7_comes hK  q5) (by omega) ml_X7_87 jJ_X7_comes rfl rfl (oLt hK (a := 28) (Nat.le_of_ble_eq_true rfl)) (oSho hK (a := 28) (Nat.le_of_ble_eq_true rfl) rfl) ock7 rfl (Nat.le_of_ble_eq_true rfl) ⟨Nat.le_refl _, Nat.le_refl _⟩ ⟨Nat.le_refl _, Nat.le_refl _⟩ ?_
      refine oe_if_eq (pc := 67) (tgt := 74) d_X7_greatest_67 (by decide) (fun c => absurd c (by decide)) (fun _ => ?_)
      refine oe_iload_n (pc := 70) d_X7_greatest_70 rfl ?_
      refine oe_goto (pc := 71) (tgt := 76) d_X7_greatest_71 (by decide) ?_
      obtain ⟨rfl, rfl⟩ := oRes h
      exact oe_iret (pc := 76) d_X7_greatest_76 ⟨_, rfl, rfl⟩
    | false =>
      replace h := oCf h
      refine oe_callV (pc := 64) (ci := 7) d_X7_greatest_64 (v_X7_comes hK  q5) (by omega) ml_X7_87 jJ_X7_comes rfl rfl (oLt hK (a := 28) (Nat.le_of_ble_eq_true rfl)) (oSho hK (a := 28) (Nat.le_of_ble_eq_true rfl) rfl) ock7 rfl (Nat.le_of_ble_eq_true rfl) ⟨Nat.le_refl _, Nat.le_refl _⟩ ⟨Nat.le_refl _, Nat.le_refl _⟩ ?_
      refine oe_if_eq (pc := 67) (tgt := 74) d_X7_greatest_67 (by decide) (fun _ => ?_) (fun c => absurd (by decide) c)
      refine oe_bipush (pc := 74) (v := (-2)) d_X7_greatest_74 rfl ?_
      obtain ⟨rfl, rfl⟩ := oRes h
      exact oe_iret (pc := 76) d_X7_greatest_76 ⟨_, rfl, rfl⟩
def f_X7_greatest_51 (N : Nat) (K : oK) (r9 : (Int32 → Int32 → Int32 → Int32 → oM → Option (Int32 × oM))) (p1 : Int32) (p2 : Int32) (p3 : Int32) (p4 : Int32) (M : oM) : Option (Int32 × oM) :=
  (r9 p1 p2 p3 (p4 + 1) M)
set_option maxRecDepth 20000 in
theorem v_X7_greatest_51 {X : oX} {d N : Nat} {K : oK} {r9 : (Int32 → Int32 → Int32 → Int32 → oM → Option (Int32 × oM))} {p1 : Int32} {p2 : Int32} {p3 : Int32} {p4 : Int32} {M : oM} {v : Int32} {M' : oM}  (hd : 14 ≤ d) (hK : oSR K)  (hr9 : ∀ (p1 : Int32) (p2 : Int32) (p3 : Int32) (p4 : Int32) (M : oM) (v : Int32) (M' : oM) , r9 p1 p2 p3 p4 M = some (v, M') → oEv X d J_X7_greatest 9 [some (.ref 28), some (.int p1), some (.int p2), some (.int p3), some (.int p4), none] [] K M (some (.int v)) K M') (h : f_X7_greatest_51 N K r9 p1 p2 p3 p4 M = some (v, M')) : oEv X d J_X7_greatest 51 [some (.ref 28), some (.int p1), some (.int p2), some (.int p3), some (.int p4), none] [] K M (some (.int v)) K M' := by
  unfold f_X7_greatest_51 at h
  refine oe_iinc (pc := 51) (v := (p4 + 1)) (L2 := [_, _, _, _, _, _]) d_X7_greatest_51 rfl rfl rfl (Nat.le_of_ble_eq_true rfl) rfl ?_
  refine oe_goto (pc := 54) (tgt := 9) d_X7_greatest_54 (by decide) ?_
  exact hr9 _ _ _ _ _ _ _ h
def f_X7_greatest_9 (N : Nat) (K : oK)  : Nat → Int32 → Int32 → Int32 → Int32 → oM → Option (Int32 × oM)
  | 0, _, _, _, _, _ => none
  | n + 1, p1, p2, p3, p4, M => (fun r9 => (if 10 ≤ p4 then (f_X7_greatest_57 N K  p1 p2 M) else (if p3 ≤ p2 then (f_X7_greatest_57 N K  p1 p2 M) else oB2 (f_X7_comes N K (((p2 + p3) + 1) / 2) p1 M) (fun v7 M8 => cond v7 ((f_X7_greatest_51 N K r9 p1 (((p2 + p3) + 1) / 2) p3 p4 M8)) ((f_X7_greatest_51 N K r9 p1 p2 ((((p2 + p3) + 1) / 2) - 1) p4 M8)))))) (f_X7_greatest_9 N K  n)
set_option maxRecDepth 20000 in
theorem v_X7_greatest_9_L {X : oX} {d N : Nat} {K : oK}  (hd : 14 ≤ d) (hK : oSR K)  : ∀ (n : Nat) (p1 : Int32) (p2 : Int32) (p3 : Int32) (p4 : Int32) (M : oM) (v : Int32) (M' : oM)  , f_X7_greatest_9 N K  n p1 p2 p3 p4 M = some (v, M') → oEv X d J_X7_greatest 9 [some (.ref 28), some (.int p1), some (.int p2), some (.int p3), some (.int p4), none] [] K M (some (.int v)) K M' := by
  intro n
  induction n with
  | zero =>
    intro p1 p2 p3 p4 M v M'   h
    cases h
  | succ n hr9 =>
    intro p1 p2 p3 p4 M v M'   h
    refine oe_iload (pc := 9) d_X7_greatest_9 rfl ?_
    refine oe_bipush (pc := 11) (v := 10) d_X7_greatest_11 rfl ?_
    refine oe_icmp_ge (pc := 13) (tgt := 57) d_X7_greatest_13 (by decide) (fun c1 => ?_) (fun c1 => ?_)
    · replace h := (if_pos c1).symm.trans h
      refine oEv.fg [true, true, true, false, false, false] ?_
      exact v_X7_greatest_57 hd hK   h
    · replace h := (if_neg c1).symm.trans h
      refine oe_iload_n (pc := 16) d_X7_greatest_16 rfl ?_
      refine oe_iload_n (pc := 17) d_X7_greatest_17 rfl ?_
      refine oe_icmp_ge (pc := 18) (tgt := 57) d_X7_greatest_18 (by decide) (fun c6 => ?_) (fun c6 => ?_)
      · replace h := (if_pos c6).symm.trans h
        refine oEv.fg [true, true, true, false, false, false] ?_
        exact v_X7_greatest_57 hd hK   h
      · replace h := (if_neg c6).symm.trans h
        refine oe_iload_n (pc := 21) d_X7_greatest_21 rfl ?_
        refine oe_iload_n (pc := 22) d_X7_greatest_22 rfl ?_
        refine oe_iadd (pc := 23) d_X7_greatest_23 ?_
        refine oe_iconst (pc := 24) (v := 1) d_X7_greatest_24 rfl ?_
        refine oe_iadd (pc := 25) d_X7_greatest_25 ?_
        refine oe_iconst (pc := 26) (v := 2) d_X7_greatest_26 rfl ?_
        refine oe_idiv (pc := 27) d_X7_greatest_27 (by decide) ?_
        refine oe_istore (pc := 28) (L2 := [_, _, _, _, _, _]) d_X7_greatest_28 rfl (Nat.le_of_ble_eq_true rfl) rfl ?_
        refine oe_aload_n (pc := 30) d_X7_greatest_30 rfl ?_
        refine oe_iload (pc := 31) d_X7_greatest_31 rfl ?_
        refine oe_iload_n (pc := 33) d_X7_greatest_33 rfl ?_
        obtain ⟨v7, M8, q9, h⟩ := oB2_some h
        cases v7 with
        | true =>
          replace h := oCt h
          refine oe_callV (pc := 34) (ci := 7) d_X7_greatest_34 (v_X7_comes hK  q9) (by omega) ml_X7_87 jJ_X7_comes rfl rfl (oLt hK (a := 28) (Nat.le_of_ble_eq_true rfl)) (oSho hK (a := 28) (Nat.le_of_ble_eq_true rfl) rfl) ock7 rfl (Nat.le_of_ble_eq_true rfl) ⟨Nat.le_refl _, Nat.le_refl _⟩ ⟨Nat.le_refl _, Nat.le_refl _⟩ ?_
          refine oe_if_eq (pc := 37) (tgt := 46) d_X7_greatest_37 (by decide) (fun c => absurd c (by decide)) (fun _ => ?_)
          refine oe_iload (pc := 40) d_X7_greatest_40 rfl ?_
          refine oe_istore_n (pc := 42) (L2 := [_, _, _, _, _, _]) d_X7_greatest_42 rfl rfl (Nat.le_of_ble_eq_true rfl) rfl ?_
          refine oe_goto (pc := 43) (tgt := 51) d_X7_greatest_43 (by decide) ?_
          refine oEv.fg [true, true, true, true, true, false] ?_
          exact v_X7_greatest_51 hd hK  hr9 h
        | false =>
          replace h := oCf h
          refine oe_callV (pc := 34) (ci := 7) d_X7_greatest_34 (v_X7_comes hK  q9) (by omega) ml_X7_87 jJ_X7_comes rfl rfl (oLt hK (a := 28) (Nat.le_of_ble_eq_true rfl)) (oSho hK (a := 28) (Nat.le_of_ble_eq_true rfl) rfl) ock7 rfl (Nat.le_of_ble_eq_true rfl) ⟨Nat.le_refl _, Nat.le_refl _⟩ ⟨Nat.le_refl _, Nat.le_refl _⟩ ?_
          refine oe_if_eq (pc := 37) (tgt := 46) d_X7_greatest_37 (by decide) (fun _ => ?_) (fun c => absurd (by decide) c)
          refine oe_iload (pc := 46) d_X7_greatest_46 rfl ?_
          refine oe_iconst (pc := 48) (v := 1) d_X7_greatest_48 rfl ?_
          refine oe_isub (pc := 49) d_X7_greatest_49 ?_
          refine oe_istore_n (pc := 50) (L2 := [_, _, _, _, _, _]) d_X7_greatest_50 rfl rfl (Nat.le_of_ble_eq_true rfl) rfl ?_
          refine oEv.fg [true, true, true, true, true, false] ?_
          exact v_X7_greatest_51 hd hK  hr9 h
theorem v_X7_greatest_9 {X : oX} {d N : Nat} {K : oK}  {p1 : Int32} {p2 : Int32} {p3 : Int32} {p4 : Int32} {M : oM} {v : Int32} {M' : oM}  (hd : 14 ≤ d) (hK : oSR K)   (h : f_X7_greatest_9 N K  N p1 p2 p3 p4 M = some (v, M')) : oEv X d J_X7_greatest 9 [some (.ref 28), some (.int p1), some (.int p2), some (.int p3), some (.int p4), none] [] K M (some (.int v)) K M' := v_X7_greatest_9_L hd hK  N p1 p2 p3 p4 M v M'   h
def f_X7_greatest (N : Nat) (K : oK) (p1 : Int32) (M : oM) : Option (Int32 × oM) :=
  (f_X7_greatest_9 N K  N p1 (-1) 600 0 M)
set_option maxRecDepth 20000 in
theorem v_X7_greatest {X : oX} {N : Nat} {K : oK} {p1 : Int32} {M : oM} {v : Int32} {M' : oM} (hK : oSR K)  (h : f_X7_greatest N K p1 M = some (v, M')) : oMet X 14 J_X7_greatest [(.ref 28), (.int p1)] K M (some (.int v)) K M' := by
  unfold f_X7_greatest at h
  refine oMet_of (L := [some (.ref 28), some (.int p1), none, none, none, none]) jJ_X7_greatest.1 rfl (Nat.le_of_ble_eq_true rfl) rfl (Nat.le_refl _) (Nat.le_refl _) ?_
  have hd : 14 ≤ 14 := Nat.le_refl _
  refine oe_iconst (pc := 0) (v := (-1)) d_X7_greatest_0 rfl ?_
  refine oe_istore_n (pc := 1) (L2 := [_, _, _, _, _, _]) d_X7_greatest_1 rfl rfl (Nat.le_of_ble_eq_true rfl) rfl ?_
  refine oe_sipush (pc := 2) (v := 600) d_X7_greatest_2 rfl ?_
  refine oe_istore_n (pc := 5) (L2 := [_, _, _, _, _, _]) d_X7_greatest_5 rfl rfl (Nat.le_of_ble_eq_true rfl) rfl ?_
  refine oe_iconst (pc := 6) (v := 0) d_X7_greatest_6 rfl ?_
  refine oe_istore (pc := 7) (L2 := [_, _, _, _, _, _]) d_X7_greatest_7 rfl (Nat.le_of_ble_eq_true rfl) rfl ?_
  exact v_X7_greatest_9 hd hK   h
theorem d_X8_forgetFirst_0 : decode J_X8_forgetFirst.2.1 0 = .ok (.aload_n 0, 1) := by decide +kernel
theorem d_X8_forgetFirst_1 : decode J_X8_forgetFirst.2.1 1 = .ok (.iconst 1, 1) := by decide +kernel
theorem d_X8_forgetFirst_2 : decode J_X8_forgetFirst.2.1 2 = .ok (.aload_n 0, 1) := by decide +kernel
theorem d_X8_forgetFirst_3 : decode J_X8_forgetFirst.2.1 3 = .ok (.iconst 0, 1) := by decide +kernel
theorem d_X8_forgetFirst_4 : decode J_X8_forgetFirst.2.1 4 = .ok (.aload_n 0, 1) := by decide +kernel
theorem d_X8_forgetFirst_5 : decode J_X8_forgetFirst.2.1 5 = .ok (.arraylength, 1) := by decide +kernel
theorem d_X8_forgetFirst_6 : decode J_X8_forgetFirst.2.1 6 = .ok (.iconst 1, 1) := by decide +kernel
theorem d_X8_forgetFirst_7 : decode J_X8_forgetFirst.2.1 7 = .ok (.isub, 1) := by decide +kernel
theorem d_X8_forgetFirst_8 : decode J_X8_forgetFirst.2.1 8 = .ok (.invokestatic 47, 3) := by decide +kernel
theorem d_X8_forgetFirst_11 : decode J_X8_forgetFirst.2.1 11 = .ok (.return_, 1) := by decide +kernel
def f_X8_forgetFirst (N : Nat) (K : oK) (p0 : Nat) (M : oM) : Option (Unit × oM) :=
  oCpOk (1) (0) (((Int32.ofNat 40) - 1)) 40 40 (some ((), (oRow M p0 (va_cpy (M.1 p0) (M.1 p0) (1 : Int32).toNatClampNeg (0 : Int32).toNatClampNeg (((Int32.ofNat 40) - 1) : Int32).toNatClampNeg))))
set_option maxRecDepth 20000 in
theorem v_X8_forgetFirst {X : oX} {N : Nat} {K : oK} {p0 : Nat} {M : oM} {v : Unit} {M' : oM} (hK : oSR K) (hh_p0 : p0 < K.1 ∧ K.2.2.1 p0 = (0, 40)) (h : f_X8_forgetFirst N K p0 M = some (v, M')) : oMet X 1 J_X8_forgetFirst [(.ref p0)] K M none K M' := by
  unfold f_X8_forgetFirst at h
  refine oMet_of (L := [some (.ref p0)]) jJ_X8_forgetFirst.1 rfl (Nat.le_of_ble_eq_true rfl) rfl (Nat.le_refl _) (Nat.le_refl _) ?_
  have hd : 1 ≤ 1 := Nat.le_refl _
  refine oe_aload_n (pc := 0) d_X8_forgetFirst_0 rfl ?_
  refine oe_iconst (pc := 1) (v := 1) d_X8_forgetFirst_1 rfl ?_
  refine oe_aload_n (pc := 2) d_X8_forgetFirst_2 rfl ?_
  refine oe_iconst (pc := 3) (v := 0) d_X8_forgetFirst_3 rfl ?_
  refine oe_aload_n (pc := 4) d_X8_forgetFirst_4 rfl ?_
  refine oe_alenI (pc := 5) d_X8_forgetFirst_5 hh_p0.1 hh_p0.2 rfl ?_
  refine oe_iconst (pc := 6) (v := 1) d_X8_forgetFirst_6 rfl ?_
  refine oe_isub (pc := 7) d_X8_forgetFirst_7 ?_
  obtain ⟨i1, h⟩ := oCpOk_some h
  refine oe_copyI (pc := 8) d_X8_forgetFirst_8 mc_X8_47 (by omega) (Nat.le_of_ble_eq_true rfl) hh_p0.1 hh_p0.2 hh_p0.1 hh_p0.2 i1 ?_
  obtain ⟨rfl, rfl⟩ := oRes h
  exact oe_vret (pc := 11) d_X8_forgetFirst_11 rfl
theorem d_X8_note_0 : decode J_X8_note.2.1 0 = .ok (.aload_n 0, 1) := by decide +kernel
theorem d_X8_note_1 : decode J_X8_note.2.1 1 = .ok (.getfield 36, 3) := by decide +kernel
theorem d_X8_note_4 : decode J_X8_note.2.1 4 = .ok (.bipush 40, 2) := by decide +kernel
theorem d_X8_note_6 : decode J_X8_note.2.1 6 = .ok (.if_icmp .lt 30, 3) := by decide +kernel
theorem d_X8_note_9 : decode J_X8_note.2.1 9 = .ok (.aload_n 0, 1) := by decide +kernel
theorem d_X8_note_10 : decode J_X8_note.2.1 10 = .ok (.getfield 15, 3) := by decide +kernel
theorem d_X8_note_13 : decode J_X8_note.2.1 13 = .ok (.invokestatic 40, 3) := by decide +kernel
theorem d_X8_note_16 : decode J_X8_note.2.1 16 = .ok (.aload_n 0, 1) := by decide +kernel
theorem d_X8_note_17 : decode J_X8_note.2.1 17 = .ok (.getfield 18, 3) := by decide +kernel
theorem d_X8_note_20 : decode J_X8_note.2.1 20 = .ok (.invokestatic 40, 3) := by decide +kernel
theorem d_X8_note_23 : decode J_X8_note.2.1 23 = .ok (.aload_n 0, 1) := by decide +kernel
theorem d_X8_note_24 : decode J_X8_note.2.1 24 = .ok (.getfield 21, 3) := by decide +kernel
theorem d_X8_note_27 : decode J_X8_note.2.1 27 = .ok (.invokestatic 40, 3) := by decide +kernel
theorem d_X8_note_30 : decode J_X8_note.2.1 30 = .ok (.aload_n 0, 1) := by decide +kernel
theorem d_X8_note_31 : decode J_X8_note.2.1 31 = .ok (.bipush 39, 2) := by decide +kernel
theorem d_X8_note_33 : decode J_X8_note.2.1 33 = .ok (.putfield 36, 3) := by decide +kernel
theorem d_X8_note_36 : decode J_X8_note.2.1 36 = .ok (.aload_n 0, 1) := by decide +kernel
theorem d_X8_note_37 : decode J_X8_note.2.1 37 = .ok (.getfield 15, 3) := by decide +kernel
theorem d_X8_note_40 : decode J_X8_note.2.1 40 = .ok (.aload_n 0, 1) := by decide +kernel
theorem d_X8_note_41 : decode J_X8_note.2.1 41 = .ok (.getfield 36, 3) := by decide +kernel
theorem d_X8_note_44 : decode J_X8_note.2.1 44 = .ok (.iload_n 1, 1) := by decide +kernel
theorem d_X8_note_45 : decode J_X8_note.2.1 45 = .ok (.iastore, 1) := by decide +kernel
theorem d_X8_note_46 : decode J_X8_note.2.1 46 = .ok (.aload_n 0, 1) := by decide +kernel
theorem d_X8_note_47 : decode J_X8_note.2.1 47 = .ok (.getfield 18, 3) := by decide +kernel
theorem d_X8_note_50 : decode J_X8_note.2.1 50 = .ok (.aload_n 0, 1) := by decide +kernel
theorem d_X8_note_51 : decode J_X8_note.2.1 51 = .ok (.getfield 36, 3) := by decide +kernel
theorem d_X8_note_54 : decode J_X8_note.2.1 54 = .ok (.iload_n 2, 1) := by decide +kernel
theorem d_X8_note_55 : decode J_X8_note.2.1 55 = .ok (.iastore, 1) := by decide +kernel
theorem d_X8_note_56 : decode J_X8_note.2.1 56 = .ok (.aload_n 0, 1) := by decide +kernel
theorem d_X8_note_57 : decode J_X8_note.2.1 57 = .ok (.getfield 21, 3) := by decide +kernel
theorem d_X8_note_60 : decode J_X8_note.2.1 60 = .ok (.aload_n 0, 1) := by decide +kernel
theorem d_X8_note_61 : decode J_X8_note.2.1 61 = .ok (.getfield 36, 3) := by decide +kernel
theorem d_X8_note_64 : decode J_X8_note.2.1 64 = .ok (.iload_n 3, 1) := by decide +kernel
theorem d_X8_note_65 : decode J_X8_note.2.1 65 = .ok (.iastore, 1) := by decide +kernel
theorem d_X8_note_66 : decode J_X8_note.2.1 66 = .ok (.aload_n 0, 1) := by decide +kernel
theorem d_X8_note_67 : decode J_X8_note.2.1 67 = .ok (.dup, 1) := by decide +kernel
theorem d_X8_note_68 : decode J_X8_note.2.1 68 = .ok (.getfield 36, 3) := by decide +kernel
theorem d_X8_note_71 : decode J_X8_note.2.1 71 = .ok (.iconst 1, 1) := by decide +kernel
theorem d_X8_note_72 : decode J_X8_note.2.1 72 = .ok (.iadd, 1) := by decide +kernel
theorem d_X8_note_73 : decode J_X8_note.2.1 73 = .ok (.putfield 36, 3) := by decide +kernel
theorem d_X8_note_76 : decode J_X8_note.2.1 76 = .ok (.aload_n 0, 1) := by decide +kernel
theorem d_X8_note_77 : decode J_X8_note.2.1 77 = .ok (.aload_n 0, 1) := by decide +kernel
theorem d_X8_note_78 : decode J_X8_note.2.1 78 = .ok (.getfield 36, 3) := by decide +kernel
theorem d_X8_note_81 : decode J_X8_note.2.1 81 = .ok (.putfield 44, 3) := by decide +kernel
theorem d_X8_note_84 : decode J_X8_note.2.1 84 = .ok (.return_, 1) := by decide +kernel
def f_X8_note_36 (N : Nat) (K : oK)  (p1 : Int32) (p2 : Int32) (p3 : Int32) (M : oM) : Option (Unit × oM) :=
  oIx ((M.1 1 5)) 40 (oIx (((oUp M 3 ((M.1 1 5) : Int32).toNatClampNeg p1).1 1 5)) 40 (oIx (((oUp (oUp M 3 ((M.1 1 5) : Int32).toNatClampNeg p1) 4 (((oUp M 3 ((M.1 1 5) : Int32).toNatClampNeg p1).1 1 5) : Int32).toNatClampNeg p2).1 1 5)) 40 (some ((), (oUp (oUp (oUp (oUp (oUp M 3 ((M.1 1 5) : Int32).toNatClampNeg p1) 4 (((oUp M 3 ((M.1 1 5) : Int32).toNatClampNeg p1).1 1 5) : Int32).toNatClampNeg p2) 5 (((oUp (oUp M 3 ((M.1 1 5) : Int32).toNatClampNeg p1) 4 (((oUp M 3 ((M.1 1 5) : Int32).toNatClampNeg p1).1 1 5) : Int32).toNatClampNeg p2).1 1 5) : Int32).toNatClampNeg p3) 1 5 (((oUp (oUp (oUp M 3 ((M.1 1 5) : Int32).toNatClampNeg p1) 4 (((oUp M 3 ((M.1 1 5) : Int32).toNatClampNeg p1).1 1 5) : Int32).toNatClampNeg p2) 5 (((oUp (oUp M 3 ((M.1 1 5) : Int32).toNatClampNeg p1) 4 (((oUp M 3 ((M.1 1 5) : Int32).toNatClampNeg p1).1 1 5) : Int32).toNatClampNeg p2).1 1 5) : Int32).toNatClampNeg p3).1 1 5) + 1)) 1 4 ((oUp (oUp (oUp (oUp M 3 ((M.1 1 5) : Int32).toNatClampNeg p1) 4 (((oUp M 3 ((M.1 1 5) : Int32).toNatClampNeg p1).1 1 5) : Int32).toNatClampNeg p2) 5 (((oUp (oUp M 3 ((M.1 1 5) : Int32).toNatClampNeg p1) 4 (((oUp M 3 ((M.1 1 5) : Int32).toNatClampNeg p1).1 1 5) : Int32).toNatClampNeg p2).1 1 5) : Int32).toNatClampNeg p3) 1 5 (((oUp (oUp (oUp M 3 ((M.1 1 5) : Int32).toNatClampNeg p1) 4 (((oUp M 3 ((M.1 1 5) : Int32).toNatClampNeg p1).1 1 5) : Int32).toNatClampNeg p2) 5 (((oUp (oUp M 3 ((M.1 1 5) : Int32).toNatClampNeg p1) 4 (((oUp M 3 ((M.1 1 5) : Int32).toNatClampNeg p1).1 1 5) : Int32).toNatClampNeg p2).1 1 5) : Int32).toNatClampNeg p3).1 1 5) + 1)).1 1 5))))))
set_option maxRecDepth 20000 in
theorem v_X8_note_36 {X : oX} {d N : Nat} {K : oK}  {p1 : Int32} {p2 : Int32} {p3 : Int32} {M : oM} {v : Unit} {M' : oM}  (hd : 2 ≤ d) (hK : oSR K)   (h : f_X8_note_36 N K  p1 p2 p3 M = some (v, M')) : oEv X d J_X8_note 36 [some (.ref 1), some (.int p1), some (.int p2), some (.int p3)] [] K M none K M' := by
  unfold f_X8_note_36 at h
  refine oe_aload_n (pc := 36) d_X8_note_36 rfl ?_
  refine oe_getr (pc := 37) d_X8_note_37 fl_X8_15 ock8 (k := 1) (b := 3) (Nat.le_of_ble_eq_true rfl) (by decide) (oLt hK (a := 1) (Nat.le_of_ble_eq_true rfl)) (oSho hK (a := 1) (Nat.le_of_ble_eq_true rfl) rfl) (oRfK hK rfl) ?_
  refine oe_aload_n (pc := 40) d_X8_note_40 rfl ?_
  refine oe_getf (pc := 41) d_X8_note_41 fl_X8_36 ock8 (k := 5) (Nat.le_of_ble_eq_true rfl) rfl (oLt hK (a := 1) (Nat.le_of_ble_eq_true rfl)) (oSho hK (a := 1) (Nat.le_of_ble_eq_true rfl) rfl) ?_
  refine oe_iload_n (pc := 44) d_X8_note_44 rfl ?_
  obtain ⟨i2, h⟩ := oIx_some h
  refine oe_iast (pc := 45) d_X8_note_45 (oLt hK (a := 3) (Nat.le_of_ble_eq_true rfl)) (oSha hK (a := 3) (Nat.le_of_ble_eq_true rfl) rfl) i2 ?_
  refine oe_aload_n (pc := 46) d_X8_note_46 rfl ?_
  refine oe_getr (pc := 47) d_X8_note_47 fl_X8_18 ock8 (k := 2) (b := 4) (Nat.le_of_ble_eq_true rfl) (by decide) (oLt hK (a := 1) (Nat.le_of_ble_eq_true rfl)) (oSho hK (a := 1) (Nat.le_of_ble_eq_true rfl) rfl) (oRfK hK rfl) ?_
  refine oe_aload_n (pc := 50) d_X8_note_50 rfl ?_
  refine oe_getf (pc := 51) d_X8_note_51 fl_X8_36 ock8 (k := 5) (Nat.le_of_ble_eq_true rfl) rfl (oLt hK (a := 1) (Nat.le_of_ble_eq_true rfl)) (oSho hK (a := 1) (Nat.le_of_ble_eq_true rfl) rfl) ?_
  refine oe_iload_n (pc := 54) d_X8_note_54 rfl ?_
  obtain ⟨i3, h⟩ := oIx_some h
  refine oe_iast (pc := 55) d_X8_note_55 (oLt hK (a := 4) (Nat.le_of_ble_eq_true rfl)) (oSha hK (a := 4) (Nat.le_of_ble_eq_true rfl) rfl) i3 ?_
  refine oe_aload_n (pc := 56) d_X8_note_56 rfl ?_
  refine oe_getr (pc := 57) d_X8_note_57 fl_X8_21 ock8 (k := 3) (b := 5) (Nat.le_of_ble_eq_true rfl) (by decide) (oLt hK (a := 1) (Nat.le_of_ble_eq_true rfl)) (oSho hK (a := 1) (Nat.le_of_ble_eq_true rfl) rfl) (oRfK hK rfl) ?_
  refine oe_aload_n (pc := 60) d_X8_note_60 rfl ?_
  refine oe_getf (pc := 61) d_X8_note_61 fl_X8_36 ock8 (k := 5) (Nat.le_of_ble_eq_true rfl) rfl (oLt hK (a := 1) (Nat.le_of_ble_eq_true rfl)) (oSho hK (a := 1) (Nat.le_of_ble_eq_true rfl) rfl) ?_
  refine oe_iload_n (pc := 64) d_X8_note_64 rfl ?_
  obtain ⟨i4, h⟩ := oIx_some h
  refine oe_iast (pc := 65) d_X8_note_65 (oLt hK (a := 5) (Nat.le_of_ble_eq_true rfl)) (oSha hK (a := 5) (Nat.le_of_ble_eq_true rfl) rfl) i4 ?_
  refine oe_aload_n (pc := 66) d_X8_note_66 rfl ?_
  refine oe_dup (pc := 67) d_X8_note_67 rfl ?_
  refine oe_getf (pc := 68) d_X8_note_68 fl_X8_36 ock8 (k := 5) (Nat.le_of_ble_eq_true rfl) rfl (oLt hK (a := 1) (Nat.le_of_ble_eq_true rfl)) (oSho hK (a := 1) (Nat.le_of_ble_eq_true rfl) rfl) ?_
  refine oe_iconst (pc := 71) (v := 1) d_X8_note_71 rfl ?_
  refine oe_iadd (pc := 72) d_X8_note_72 ?_
  refine oe_putf (pc := 73) d_X8_note_73 fl_X8_36 ock8 (k := 5) (Nat.le_of_ble_eq_true rfl) rfl rfl (oLt hK (a := 1) (Nat.le_of_ble_eq_true rfl)) (oSho hK (a := 1) (Nat.le_of_ble_eq_true rfl) rfl) ?_
  refine oe_aload_n (pc := 76) d_X8_note_76 rfl ?_
  refine oe_aload_n (pc := 77) d_X8_note_77 rfl ?_
  refine oe_getf (pc := 78) d_X8_note_78 fl_X8_36 ock8 (k := 5) (Nat.le_of_ble_eq_true rfl) rfl (oLt hK (a := 1) (Nat.le_of_ble_eq_true rfl)) (oSho hK (a := 1) (Nat.le_of_ble_eq_true rfl) rfl) ?_
  refine oe_putf (pc := 81) d_X8_note_81 fl_X8_44 ock8 (k := 4) (Nat.le_of_ble_eq_true rfl) rfl rfl (oLt hK (a := 1) (Nat.le_of_ble_eq_true rfl)) (oSho hK (a := 1) (Nat.le_of_ble_eq_true rfl) rfl) ?_
  obtain ⟨rfl, rfl⟩ := oRes h
  exact oe_vret (pc := 84) d_X8_note_84 rfl
def f_X8_note (N : Nat) (K : oK) (p1 : Int32) (p2 : Int32) (p3 : Int32) (M : oM) : Option (Unit × oM) :=
  (if (M.1 1 5) < 40 then (f_X8_note_36 N K  p1 p2 p3 M) else oB2 (f_X8_forgetFirst N K 3 M) (fun v5 M6 => oB2 (f_X8_forgetFirst N K 4 M6) (fun v8 M9 => oB2 (f_X8_forgetFirst N K 5 M9) (fun v11 M12 => (f_X8_note_36 N K  p1 p2 p3 (oUp M12 1 5 (39 : Int32)))))))
set_option maxRecDepth 20000 in
theorem v_X8_note {X : oX} {N : Nat} {K : oK} {p1 : Int32} {p2 : Int32} {p3 : Int32} {M : oM} {v : Unit} {M' : oM} (hK : oSR K)  (h : f_X8_note N K p1 p2 p3 M = some (v, M')) : oMet X 2 J_X8_note [(.ref 1), (.int p1), (.int p2), (.int p3)] K M none K M' := by
  unfold f_X8_note at h
  refine oMet_of (L := [some (.ref 1), some (.int p1), some (.int p2), some (.int p3)]) jJ_X8_note.1 rfl (Nat.le_of_ble_eq_true rfl) rfl (Nat.le_refl _) (Nat.le_refl _) ?_
  have hd : 2 ≤ 2 := Nat.le_refl _
  refine oe_aload_n (pc := 0) d_X8_note_0 rfl ?_
  refine oe_getf (pc := 1) d_X8_note_1 fl_X8_36 ock8 (k := 5) (Nat.le_of_ble_eq_true rfl) rfl (oLt hK (a := 1) (Nat.le_of_ble_eq_true rfl)) (oSho hK (a := 1) (Nat.le_of_ble_eq_true rfl) rfl) ?_
  refine oe_bipush (pc := 4) (v := 40) d_X8_note_4 rfl ?_
  refine oe_icmp_lt (pc := 6) (tgt := 36) d_X8_note_6 (by decide) (fun c1 => ?_) (fun c1 => ?_)
  · replace h := (if_pos c1).symm.trans h
    exact v_X8_note_36 hd hK   h
  · replace h := (if_neg c1).symm.trans h
    refine oe_aload_n (pc := 9) d_X8_note_9 rfl ?_
    refine oe_getr (pc := 10) d_X8_note_10 fl_X8_15 ock8 (k := 1) (b := 3) (Nat.le_of_ble_eq_true rfl) (by decide) (oLt hK (a := 1) (Nat.le_of_ble_eq_true rfl)) (oSho hK (a := 1) (Nat.le_of_ble_eq_true rfl) rfl) (oRfK hK rfl) ?_
    obtain ⟨v5, M6, q7, h⟩ := oB2_some h
    refine oe_callS (pc := 13) d_X8_note_13 (v_X8_forgetFirst hK ⟨(oLt hK (a := 3) (Nat.le_of_ble_eq_true rfl)), (oSha hK (a := 3) (Nat.le_of_ble_eq_true rfl) rfl)⟩ q7) (by omega) ml_X8_40 jJ_X8_forgetFirst rfl rfl (Nat.le_of_ble_eq_true rfl) ⟨Nat.le_refl _, Nat.le_refl _⟩ ⟨Nat.le_refl _, Nat.le_refl _⟩ ?_
    refine oe_aload_n (pc := 16) d_X8_note_16 rfl ?_
    refine oe_getr (pc := 17) d_X8_note_17 fl_X8_18 ock8 (k := 2) (b := 4) (Nat.le_of_ble_eq_true rfl) (by decide) (oLt hK (a := 1) (Nat.le_of_ble_eq_true rfl)) (oSho hK (a := 1) (Nat.le_of_ble_eq_true rfl) rfl) (oRfK hK rfl) ?_
    obtain ⟨v8, M9, q10, h⟩ := oB2_some h
    refine oe_callS (pc := 20) d_X8_note_20 (v_X8_forgetFirst hK ⟨(oLt hK (a := 4) (Nat.le_of_ble_eq_true rfl)), (oSha hK (a := 4) (Nat.le_of_ble_eq_true rfl) rfl)⟩ q10) (by omega) ml_X8_40 jJ_X8_forgetFirst rfl rfl (Nat.le_of_ble_eq_true rfl) ⟨Nat.le_refl _, Nat.le_refl _⟩ ⟨Nat.le_refl _, Nat.le_refl _⟩ ?_
    refine oe_aload_n (pc := 23) d_X8_note_23 rfl ?_
    refine oe_getr (pc := 24) d_X8_note_24 fl_X8_21 ock8 (k := 3) (b := 5) (Nat.le_of_ble_eq_true rfl) (by decide) (oLt hK (a := 1) (Nat.le_of_ble_eq_true rfl)) (oSho hK (a := 1) (Nat.le_of_ble_eq_true rfl) rfl) (oRfK hK rfl) ?_
    obtain ⟨v11, M12, q13, h⟩ := oB2_some h
    refine oe_callS (pc := 27) d_X8_note_27 (v_X8_forgetFirst hK ⟨(oLt hK (a := 5) (Nat.le_of_ble_eq_true rfl)), (oSha hK (a := 5) (Nat.le_of_ble_eq_true rfl) rfl)⟩ q13) (by omega) ml_X8_40 jJ_X8_forgetFirst rfl rfl (Nat.le_of_ble_eq_true rfl) ⟨Nat.le_refl _, Nat.le_refl _⟩ ⟨Nat.le_refl _, Nat.le_refl _⟩ ?_
    refine oe_aload_n (pc := 30) d_X8_note_30 rfl ?_
    refine oe_bipush (pc := 31) (v := 39) d_X8_note_31 rfl ?_
    refine oe_putf (pc := 33) d_X8_note_33 fl_X8_36 ock8 (k := 5) (Nat.le_of_ble_eq_true rfl) rfl rfl (oLt hK (a := 1) (Nat.le_of_ble_eq_true rfl)) (oSho hK (a := 1) (Nat.le_of_ble_eq_true rfl) rfl) ?_
    exact v_X8_note_36 hd hK   h
theorem d_X8_become_0 : decode J_X8_become.2.1 0 = .ok (.aload_n 0, 1) := by decide +kernel
theorem d_X8_become_1 : decode J_X8_become.2.1 1 = .ok (.iload_n 1, 1) := by decide +kernel
theorem d_X8_become_2 : decode J_X8_become.2.1 2 = .ok (.invokevirtual 24, 3) := by decide +kernel
theorem d_X8_become_5 : decode J_X8_become.2.1 5 = .ok (.istore_n 3, 1) := by decide +kernel
theorem d_X8_become_6 : decode J_X8_become.2.1 6 = .ok (.iload_n 3, 1) := by decide +kernel
theorem d_X8_become_7 : decode J_X8_become.2.1 7 = .ok (.iload_n 2, 1) := by decide +kernel
theorem d_X8_become_8 : decode J_X8_become.2.1 8 = .ok (.if_icmp .eq 16, 3) := by decide +kernel
theorem d_X8_become_11 : decode J_X8_become.2.1 11 = .ok (.aload_n 0, 1) := by decide +kernel
theorem d_X8_become_12 : decode J_X8_become.2.1 12 = .ok (.iload_n 1, 1) := by decide +kernel
theorem d_X8_become_13 : decode J_X8_become.2.1 13 = .ok (.iload_n 3, 1) := by decide +kernel
theorem d_X8_become_14 : decode J_X8_become.2.1 14 = .ok (.iload_n 2, 1) := by decide +kernel
theorem d_X8_become_15 : decode J_X8_become.2.1 15 = .ok (.invokevirtual 28, 3) := by decide +kernel
theorem d_X8_become_18 : decode J_X8_become.2.1 18 = .ok (.aload_n 0, 1) := by decide +kernel
theorem d_X8_become_19 : decode J_X8_become.2.1 19 = .ok (.iload_n 1, 1) := by decide +kernel
theorem d_X8_become_20 : decode J_X8_become.2.1 20 = .ok (.iload_n 2, 1) := by decide +kernel
theorem d_X8_become_21 : decode J_X8_become.2.1 21 = .ok (.invokevirtual 32, 3) := by decide +kernel
theorem d_X8_become_24 : decode J_X8_become.2.1 24 = .ok (.iload_n 3, 1) := by decide +kernel
theorem d_X8_become_25 : decode J_X8_become.2.1 25 = .ok (.ireturn, 1) := by decide +kernel
def f_X8_become (N : Nat) (K : oK) (p1 : Int32) (p2 : Int32) (M : oM) : Option (Int32 × oM) :=
  oB2 (f_X8_at N K p1 M) (fun v1 M2 => (if v1 = p2 then some (v1, M2) else oB2 (f_X8_note N K p1 v1 p2 M2) (fun v5 M6 => oB2 (f_X8_begin N K p1 p2 M6) (fun v8 M9 => some (v1, M9)))))
set_option maxRecDepth 20000 in
theorem v_X8_become {X : oX} {N : Nat} {K : oK} {p1 : Int32} {p2 : Int32} {M : oM} {v : Int32} {M' : oM} (hK : oSR K)  (h : f_X8_become N K p1 p2 M = some (v, M')) : oMet X 3 J_X8_become [(.ref 1), (.int p1), (.int p2)] K M (some (.int v)) K M' := by
  unfold f_X8_become at h
  refine oMet_of (L := [some (.ref 1), some (.int p1), some (.int p2), none]) jJ_X8_become.1 rfl (Nat.le_of_ble_eq_true rfl) rfl (Nat.le_refl _) (Nat.le_refl _) ?_
  have hd : 3 ≤ 3 := Nat.le_refl _
  refine oe_aload_n (pc := 0) d_X8_become_0 rfl ?_
  refine oe_iload_n (pc := 1) d_X8_become_1 rfl ?_
  obtain ⟨v1, M2, q3, h⟩ := oB2_some h
  refine oe_callV (pc := 2) (ci := 8) d_X8_become_2 (v_X8_at hK  q3) (by omega) ml_X8_24 jJ_X8_at rfl rfl (oLt hK (a := 1) (Nat.le_of_ble_eq_true rfl)) (oSho hK (a := 1) (Nat.le_of_ble_eq_true rfl) rfl) ock8 rfl (Nat.le_of_ble_eq_true rfl) ⟨Nat.le_refl _, Nat.le_refl _⟩ ⟨Nat.le_refl _, Nat.le_refl _⟩ ?_
  refine oe_istore_n (pc := 5) (L2 := [_, _, _, _]) d_X8_become_5 rfl rfl (Nat.le_of_ble_eq_true rfl) rfl ?_
  refine oe_iload_n (pc := 6) d_X8_become_6 rfl ?_
  refine oe_iload_n (pc := 7) d_X8_become_7 rfl ?_
  refine oe_icmp_eq (pc := 8) (tgt := 24) d_X8_become_8 (by decide) (fun c4 => ?_) (fun c4 => ?_)
  · replace h := (if_pos c4).symm.trans h
    refine oe_iload_n (pc := 24) d_X8_become_24 rfl ?_
    obtain ⟨rfl, rfl⟩ := oRes h
    exact oe_iret (pc := 25) d_X8_become_25 ⟨_, rfl, rfl⟩
  · replace h := (if_neg c4).symm.trans h
    refine oe_aload_n (pc := 11) d_X8_become_11 rfl ?_
    refine oe_iload_n (pc := 12) d_X8_become_12 rfl ?_
    refine oe_iload_n (pc := 13) d_X8_become_13 rfl ?_
    refine oe_iload_n (pc := 14) d_X8_become_14 rfl ?_
    obtain ⟨v5, M6, q7, h⟩ := oB2_some h
    refine oe_callV (pc := 15) (ci := 8) d_X8_become_15 (v_X8_note hK  q7) (by omega) ml_X8_28 jJ_X8_note rfl rfl (oLt hK (a := 1) (Nat.le_of_ble_eq_true rfl)) (oSho hK (a := 1) (Nat.le_of_ble_eq_true rfl) rfl) ock8 rfl (Nat.le_of_ble_eq_true rfl) ⟨Nat.le_refl _, Nat.le_refl _⟩ ⟨Nat.le_refl _, Nat.le_refl _⟩ ?_
    refine oe_aload_n (pc := 18) d_X8_become_18 rfl ?_
    refine oe_iload_n (pc := 19) d_X8_become_19 rfl ?_
    refine oe_iload_n (pc := 20) d_X8_become_20 rfl ?_
    obtain ⟨v8, M9, q10, h⟩ := oB2_some h
    refine oe_callV (pc := 21) (ci := 8) d_X8_become_21 (v_X8_begin hK  q10) (by omega) ml_X8_32 jJ_X8_begin rfl rfl (oLt hK (a := 1) (Nat.le_of_ble_eq_true rfl)) (oSho hK (a := 1) (Nat.le_of_ble_eq_true rfl) rfl) ock8 rfl (Nat.le_of_ble_eq_true rfl) ⟨Nat.le_refl _, Nat.le_refl _⟩ ⟨Nat.le_refl _, Nat.le_refl _⟩ ?_
    refine oe_iload_n (pc := 24) d_X8_become_24 rfl ?_
    obtain ⟨rfl, rfl⟩ := oRes h
    exact oe_iret (pc := 25) d_X8_become_25 ⟨_, rfl, rfl⟩
theorem d_X8_takeBack_0 : decode J_X8_takeBack.2.1 0 = .ok (.aload_n 0, 1) := by decide +kernel
theorem d_X8_takeBack_1 : decode J_X8_takeBack.2.1 1 = .ok (.getfield 36, 3) := by decide +kernel
theorem d_X8_takeBack_4 : decode J_X8_takeBack.2.1 4 = .ok (.ifCond .gt 6, 3) := by decide +kernel
theorem d_X8_takeBack_7 : decode J_X8_takeBack.2.1 7 = .ok (.bipush (-5), 2) := by decide +kernel
theorem d_X8_takeBack_9 : decode J_X8_takeBack.2.1 9 = .ok (.ireturn, 1) := by decide +kernel
theorem d_X8_takeBack_10 : decode J_X8_takeBack.2.1 10 = .ok (.aload_n 0, 1) := by decide +kernel
theorem d_X8_takeBack_11 : decode J_X8_takeBack.2.1 11 = .ok (.dup, 1) := by decide +kernel
theorem d_X8_takeBack_12 : decode J_X8_takeBack.2.1 12 = .ok (.getfield 36, 3) := by decide +kernel
theorem d_X8_takeBack_15 : decode J_X8_takeBack.2.1 15 = .ok (.iconst 1, 1) := by decide +kernel
theorem d_X8_takeBack_16 : decode J_X8_takeBack.2.1 16 = .ok (.isub, 1) := by decide +kernel
theorem d_X8_takeBack_17 : decode J_X8_takeBack.2.1 17 = .ok (.putfield 36, 3) := by decide +kernel
theorem d_X8_takeBack_20 : decode J_X8_takeBack.2.1 20 = .ok (.aload_n 0, 1) := by decide +kernel
theorem d_X8_takeBack_21 : decode J_X8_takeBack.2.1 21 = .ok (.aload_n 0, 1) := by decide +kernel
theorem d_X8_takeBack_22 : decode J_X8_takeBack.2.1 22 = .ok (.getfield 15, 3) := by decide +kernel
theorem d_X8_takeBack_25 : decode J_X8_takeBack.2.1 25 = .ok (.aload_n 0, 1) := by decide +kernel
theorem d_X8_takeBack_26 : decode J_X8_takeBack.2.1 26 = .ok (.getfield 36, 3) := by decide +kernel
theorem d_X8_takeBack_29 : decode J_X8_takeBack.2.1 29 = .ok (.iaload, 1) := by decide +kernel
theorem d_X8_takeBack_30 : decode J_X8_takeBack.2.1 30 = .ok (.aload_n 0, 1) := by decide +kernel
theorem d_X8_takeBack_31 : decode J_X8_takeBack.2.1 31 = .ok (.getfield 18, 3) := by decide +kernel
theorem d_X8_takeBack_34 : decode J_X8_takeBack.2.1 34 = .ok (.aload_n 0, 1) := by decide +kernel
theorem d_X8_takeBack_35 : decode J_X8_takeBack.2.1 35 = .ok (.getfield 36, 3) := by decide +kernel
theorem d_X8_takeBack_38 : decode J_X8_takeBack.2.1 38 = .ok (.iaload, 1) := by decide +kernel
theorem d_X8_takeBack_39 : decode J_X8_takeBack.2.1 39 = .ok (.invokevirtual 32, 3) := by decide +kernel
theorem d_X8_takeBack_42 : decode J_X8_takeBack.2.1 42 = .ok (.aload_n 0, 1) := by decide +kernel
theorem d_X8_takeBack_43 : decode J_X8_takeBack.2.1 43 = .ok (.getfield 36, 3) := by decide +kernel
theorem d_X8_takeBack_46 : decode J_X8_takeBack.2.1 46 = .ok (.ireturn, 1) := by decide +kernel
def f_X8_takeBack (N : Nat) (K : oK)  (M : oM) : Option (Int32 × oM) :=
  (if 0 < (M.1 1 5) then oIx (((oUp M 1 5 ((M.1 1 5) - 1)).1 1 5)) 40 (oIx (((oUp M 1 5 ((M.1 1 5) - 1)).1 1 5)) 40 (oB2 (f_X8_begin N K ((oUp M 1 5 ((M.1 1 5) - 1)).1 3 (((oUp M 1 5 ((M.1 1 5) - 1)).1 1 5) : Int32).toNatClampNeg) ((oUp M 1 5 ((M.1 1 5) - 1)).1 4 (((oUp M 1 5 ((M.1 1 5) - 1)).1 1 5) : Int32).toNatClampNeg) (oUp M 1 5 ((M.1 1 5) - 1))) (fun v4 M5 => some ((M5.1 1 5), M5)))) else some ((-5), M))
set_option maxRecDepth 20000 in
theorem v_X8_takeBack {X : oX} {N : Nat} {K : oK}  {M : oM} {v : Int32} {M' : oM} (hK : oSR K)  (h : f_X8_takeBack N K  M = some (v, M')) : oMet X 2 J_X8_takeBack [(.ref 1)] K M (some (.int v)) K M' := by
  unfold f_X8_takeBack at h
  refine oMet_of (L := [some (.ref 1)]) jJ_X8_takeBack.1 rfl (Nat.le_of_ble_eq_true rfl) rfl (Nat.le_refl _) (Nat.le_refl _) ?_
  have hd : 2 ≤ 2 := Nat.le_refl _
  refine oe_aload_n (pc := 0) d_X8_takeBack_0 rfl ?_
  refine oe_getf (pc := 1) d_X8_takeBack_1 fl_X8_36 ock8 (k := 5) (Nat.le_of_ble_eq_true rfl) rfl (oLt hK (a := 1) (Nat.le_of_ble_eq_true rfl)) (oSho hK (a := 1) (Nat.le_of_ble_eq_true rfl) rfl) ?_
  refine oe_if_gt (pc := 4) (tgt := 10) d_X8_takeBack_4 (by decide) (fun c1 => ?_) (fun c1 => ?_)
  · replace h := (if_pos c1).symm.trans h
    refine oe_aload_n (pc := 10) d_X8_takeBack_10 rfl ?_
    refine oe_dup (pc := 11) d_X8_takeBack_11 rfl ?_
    refine oe_getf (pc := 12) d_X8_takeBack_12 fl_X8_36 ock8 (k := 5) (Nat.le_of_ble_eq_true rfl) rfl (oLt hK (a := 1) (Nat.le_of_ble_eq_true rfl)) (oSho hK (a := 1) (Nat.le_of_ble_eq_true rfl) rfl) ?_
    refine oe_iconst (pc := 15) (v := 1) d_X8_takeBack_15 rfl ?_
    refine oe_isub (pc := 16) d_X8_takeBack_16 ?_
    refine oe_putf (pc := 17) d_X8_takeBack_17 fl_X8_36 ock8 (k := 5) (Nat.le_of_ble_eq_true rfl) rfl rfl (oLt hK (a := 1) (Nat.le_of_ble_eq_true rfl)) (oSho hK (a := 1) (Nat.le_of_ble_eq_true rfl) rfl) ?_
    refine oe_aload_n (pc := 20) d_X8_takeBack_20 rfl ?_
    refine oe_aload_n (pc := 21) d_X8_takeBack_21 rfl ?_
    refine oe_getr (pc := 22) d_X8_takeBack_22 fl_X8_15 ock8 (k := 1) (b := 3) (Nat.le_of_ble_eq_true rfl) (by decide) (oLt hK (a := 1) (Nat.le_of_ble_eq_true rfl)) (oSho hK (a := 1) (Nat.le_of_ble_eq_true rfl) rfl) (oRfK hK rfl) ?_
    refine oe_aload_n (pc := 25) d_X8_takeBack_25 rfl ?_
    refine oe_getf (pc := 26) d_X8_takeBack_26 fl_X8_36 ock8 (k := 5) (Nat.le_of_ble_eq_true rfl) rfl (oLt hK (a := 1) (Nat.le_of_ble_eq_true rfl)) (oSho hK (a := 1) (Nat.le_of_ble_eq_true rfl) rfl) ?_
    obtain ⟨i2, h⟩ := oIx_some h
    refine oe_iald (pc := 29) d_X8_takeBack_29 (oLt hK (a := 3) (Nat.le_of_ble_eq_true rfl)) (oSha hK (a := 3) (Nat.le_of_ble_eq_true rfl) rfl) i2 ?_
    refine oe_aload_n (pc := 30) d_X8_takeBack_30 rfl ?_
    refine oe_getr (pc := 31) d_X8_takeBack_31 fl_X8_18 ock8 (k := 2) (b := 4) (Nat.le_of_ble_eq_true rfl) (by decide) (oLt hK (a := 1) (Nat.le_of_ble_eq_true rfl)) (oSho hK (a := 1) (Nat.le_of_ble_eq_true rfl) rfl) (oRfK hK rfl) ?_
    refine oe_aload_n (pc := 34) d_X8_takeBack_34 rfl ?_
    refine oe_getf (pc := 35) d_X8_takeBack_35 fl_X8_36 ock8 (k := 5) (Nat.le_of_ble_eq_true rfl) rfl (oLt hK (a := 1) (Nat.le_of_ble_eq_true rfl)) (oSho hK (a := 1) (Nat.le_of_ble_eq_true rfl) rfl) ?_
    obtain ⟨i3, h⟩ := oIx_some h
    refine oe_iald (pc := 38) d_X8_takeBack_38 (oLt hK (a := 4) (Nat.le_of_ble_eq_true rfl)) (oSha hK (a := 4) (Nat.le_of_ble_eq_true rfl) rfl) i3 ?_
    obtain ⟨v4, M5, q6, h⟩ := oB2_some h
    refine oe_callV (pc := 39) (ci := 8) d_X8_takeBack_39 (v_X8_begin hK  q6) (by omega) ml_X8_32 jJ_X8_begin rfl rfl (oLt hK (a := 1) (Nat.le_of_ble_eq_true rfl)) (oSho hK (a := 1) (Nat.le_of_ble_eq_true rfl) rfl) ock8 rfl (Nat.le_of_ble_eq_true rfl) ⟨Nat.le_refl _, Nat.le_refl _⟩ ⟨Nat.le_refl _, Nat.le_refl _⟩ ?_
    refine oe_aload_n (pc := 42) d_X8_takeBack_42 rfl ?_
    refine oe_getf (pc := 43) d_X8_takeBack_43 fl_X8_36 ock8 (k := 5) (Nat.le_of_ble_eq_true rfl) rfl (oLt hK (a := 1) (Nat.le_of_ble_eq_true rfl)) (oSho hK (a := 1) (Nat.le_of_ble_eq_true rfl) rfl) ?_
    obtain ⟨rfl, rfl⟩ := oRes h
    exact oe_iret (pc := 46) d_X8_takeBack_46 ⟨_, rfl, rfl⟩
  · replace h := (if_neg c1).symm.trans h
    refine oe_bipush (pc := 7) (v := (-5)) d_X8_takeBack_7 rfl ?_
    obtain ⟨rfl, rfl⟩ := oRes h
    exact oe_iret (pc := 9) d_X8_takeBack_9 ⟨_, rfl, rfl⟩
theorem d_X8_doAgain_0 : decode J_X8_doAgain.2.1 0 = .ok (.aload_n 0, 1) := by decide +kernel
theorem d_X8_doAgain_1 : decode J_X8_doAgain.2.1 1 = .ok (.getfield 36, 3) := by decide +kernel
theorem d_X8_doAgain_4 : decode J_X8_doAgain.2.1 4 = .ok (.aload_n 0, 1) := by decide +kernel
theorem d_X8_doAgain_5 : decode J_X8_doAgain.2.1 5 = .ok (.getfield 44, 3) := by decide +kernel
theorem d_X8_doAgain_8 : decode J_X8_doAgain.2.1 8 = .ok (.if_icmp .lt 6, 3) := by decide +kernel
theorem d_X8_doAgain_11 : decode J_X8_doAgain.2.1 11 = .ok (.bipush (-5), 2) := by decide +kernel
theorem d_X8_doAgain_13 : decode J_X8_doAgain.2.1 13 = .ok (.ireturn, 1) := by decide +kernel
theorem d_X8_doAgain_14 : decode J_X8_doAgain.2.1 14 = .ok (.aload_n 0, 1) := by decide +kernel
theorem d_X8_doAgain_15 : decode J_X8_doAgain.2.1 15 = .ok (.aload_n 0, 1) := by decide +kernel
theorem d_X8_doAgain_16 : decode J_X8_doAgain.2.1 16 = .ok (.getfield 15, 3) := by decide +kernel
theorem d_X8_doAgain_19 : decode J_X8_doAgain.2.1 19 = .ok (.aload_n 0, 1) := by decide +kernel
theorem d_X8_doAgain_20 : decode J_X8_doAgain.2.1 20 = .ok (.getfield 36, 3) := by decide +kernel
theorem d_X8_doAgain_23 : decode J_X8_doAgain.2.1 23 = .ok (.iaload, 1) := by decide +kernel
theorem d_X8_doAgain_24 : decode J_X8_doAgain.2.1 24 = .ok (.aload_n 0, 1) := by decide +kernel
theorem d_X8_doAgain_25 : decode J_X8_doAgain.2.1 25 = .ok (.getfield 21, 3) := by decide +kernel
theorem d_X8_doAgain_28 : decode J_X8_doAgain.2.1 28 = .ok (.aload_n 0, 1) := by decide +kernel
theorem d_X8_doAgain_29 : decode J_X8_doAgain.2.1 29 = .ok (.getfield 36, 3) := by decide +kernel
theorem d_X8_doAgain_32 : decode J_X8_doAgain.2.1 32 = .ok (.iaload, 1) := by decide +kernel
theorem d_X8_doAgain_33 : decode J_X8_doAgain.2.1 33 = .ok (.invokevirtual 32, 3) := by decide +kernel
theorem d_X8_doAgain_36 : decode J_X8_doAgain.2.1 36 = .ok (.aload_n 0, 1) := by decide +kernel
theorem d_X8_doAgain_37 : decode J_X8_doAgain.2.1 37 = .ok (.dup, 1) := by decide +kernel
theorem d_X8_doAgain_38 : decode J_X8_doAgain.2.1 38 = .ok (.getfield 36, 3) := by decide +kernel
theorem d_X8_doAgain_41 : decode J_X8_doAgain.2.1 41 = .ok (.iconst 1, 1) := by decide +kernel
theorem d_X8_doAgain_42 : decode J_X8_doAgain.2.1 42 = .ok (.iadd, 1) := by decide +kernel
theorem d_X8_doAgain_43 : decode J_X8_doAgain.2.1 43 = .ok (.putfield 36, 3) := by decide +kernel
theorem d_X8_doAgain_46 : decode J_X8_doAgain.2.1 46 = .ok (.aload_n 0, 1) := by decide +kernel
theorem d_X8_doAgain_47 : decode J_X8_doAgain.2.1 47 = .ok (.getfield 44, 3) := by decide +kernel
theorem d_X8_doAgain_50 : decode J_X8_doAgain.2.1 50 = .ok (.aload_n 0, 1) := by decide +kernel
theorem d_X8_doAgain_51 : decode J_X8_doAgain.2.1 51 = .ok (.getfield 36, 3) := by decide +kernel
theorem d_X8_doAgain_54 : decode J_X8_doAgain.2.1 54 = .ok (.isub, 1) := by decide +kernel
theorem d_X8_doAgain_55 : decode J_X8_doAgain.2.1 55 = .ok (.ireturn, 1) := by decide +kernel
def f_X8_doAgain (N : Nat) (K : oK)  (M : oM) : Option (Int32 × oM) :=
  (if (M.1 1 5) < (M.1 1 4) then oIx ((M.1 1 5)) 40 (oIx ((M.1 1 5)) 40 (oB2 (f_X8_begin N K (M.1 3 ((M.1 1 5) : Int32).toNatClampNeg) (M.1 5 ((M.1 1 5) : Int32).toNatClampNeg) M) (fun v4 M5 => some ((((oUp M5 1 5 ((M5.1 1 5) + 1)).1 1 4) - ((oUp M5 1 5 ((M5.1 1 5) + 1)).1 1 5)), (oUp M5 1 5 ((M5.1 1 5) + 1)))))) else some ((-5), M))
set_option maxRecDepth 20000 in
theorem v_X8_doAgain {X : oX} {N : Nat} {K : oK}  {M : oM} {v : Int32} {M' : oM} (hK : oSR K)  (h : f_X8_doAgain N K  M = some (v, M')) : oMet X 2 J_X8_doAgain [(.ref 1)] K M (some (.int v)) K M' := by
  unfold f_X8_doAgain at h
  refine oMet_of (L := [some (.ref 1)]) jJ_X8_doAgain.1 rfl (Nat.le_of_ble_eq_true rfl) rfl (Nat.le_refl _) (Nat.le_refl _) ?_
  have hd : 2 ≤ 2 := Nat.le_refl _
  refine oe_aload_n (pc := 0) d_X8_doAgain_0 rfl ?_
  refine oe_getf (pc := 1) d_X8_doAgain_1 fl_X8_36 ock8 (k := 5) (Nat.le_of_ble_eq_true rfl) rfl (oLt hK (a := 1) (Nat.le_of_ble_eq_true rfl)) (oSho hK (a := 1) (Nat.le_of_ble_eq_true rfl) rfl) ?_
  refine oe_aload_n (pc := 4) d_X8_doAgain_4 rfl ?_
  refine oe_getf (pc := 5) d_X8_doAgain_5 fl_X8_44 ock8 (k := 4) (Nat.le_of_ble_eq_true rfl) rfl (oLt hK (a := 1) (Nat.le_of_ble_eq_true rfl)) (oSho hK (a := 1) (Nat.le_of_ble_eq_true rfl) rfl) ?_
  refine oe_icmp_lt (pc := 8) (tgt := 14) d_X8_doAgain_8 (by decide) (fun c1 => ?_) (fun c1 => ?_)
  · replace h := (if_pos c1).symm.trans h
    refine oe_aload_n (pc := 14) d_X8_doAgain_14 rfl ?_
    refine oe_aload_n (pc := 15) d_X8_doAgain_15 rfl ?_
    refine oe_getr (pc := 16) d_X8_doAgain_16 fl_X8_15 ock8 (k := 1) (b := 3) (Nat.le_of_ble_eq_true rfl) (by decide) (oLt hK (a := 1) (Nat.le_of_ble_eq_true rfl)) (oSho hK (a := 1) (Nat.le_of_ble_eq_true rfl) rfl) (oRfK hK rfl) ?_
    refine oe_aload_n (pc := 19) d_X8_doAgain_19 rfl ?_
    refine oe_getf (pc := 20) d_X8_doAgain_20 fl_X8_36 ock8 (k := 5) (Nat.le_of_ble_eq_true rfl) rfl (oLt hK (a := 1) (Nat.le_of_ble_eq_true rfl)) (oSho hK (a := 1) (Nat.le_of_ble_eq_true rfl) rfl) ?_
    obtain ⟨i2, h⟩ := oIx_some h
    refine oe_iald (pc := 23) d_X8_doAgain_23 (oLt hK (a := 3) (Nat.le_of_ble_eq_true rfl)) (oSha hK (a := 3) (Nat.le_of_ble_eq_true rfl) rfl) i2 ?_
    refine oe_aload_n (pc := 24) d_X8_doAgain_24 rfl ?_
    refine oe_getr (pc := 25) d_X8_doAgain_25 fl_X8_21 ock8 (k := 3) (b := 5) (Nat.le_of_ble_eq_true rfl) (by decide) (oLt hK (a := 1) (Nat.le_of_ble_eq_true rfl)) (oSho hK (a := 1) (Nat.le_of_ble_eq_true rfl) rfl) (oRfK hK rfl) ?_
    refine oe_aload_n (pc := 28) d_X8_doAgain_28 rfl ?_
    refine oe_getf (pc := 29) d_X8_doAgain_29 fl_X8_36 ock8 (k := 5) (Nat.le_of_ble_eq_true rfl) rfl (oLt hK (a := 1) (Nat.le_of_ble_eq_true rfl)) (oSho hK (a := 1) (Nat.le_of_ble_eq_true rfl) rfl) ?_
    obtain ⟨i3, h⟩ := oIx_some h
    refine oe_iald (pc := 32) d_X8_doAgain_32 (oLt hK (a := 5) (Nat.le_of_ble_eq_true rfl)) (oSha hK (a := 5) (Nat.le_of_ble_eq_true rfl) rfl) i3 ?_
    obtain ⟨v4, M5, q6, h⟩ := oB2_some h
    refine oe_callV (pc := 33) (ci := 8) d_X8_doAgain_33 (v_X8_begin hK  q6) (by omega) ml_X8_32 jJ_X8_begin rfl rfl (oLt hK (a := 1) (Nat.le_of_ble_eq_true rfl)) (oSho hK (a := 1) (Nat.le_of_ble_eq_true rfl) rfl) ock8 rfl (Nat.le_of_ble_eq_true rfl) ⟨Nat.le_refl _, Nat.le_refl _⟩ ⟨Nat.le_refl _, Nat.le_refl _⟩ ?_
    refine oe_aload_n (pc := 36) d_X8_doAgain_36 rfl ?_
    refine oe_dup (pc := 37) d_X8_doAgain_37 rfl ?_
    refine oe_getf (pc := 38) d_X8_doAgain_38 fl_X8_36 ock8 (k := 5) (Nat.le_of_ble_eq_true rfl) rfl (oLt hK (a := 1) (Nat.le_of_ble_eq_true rfl)) (oSho hK (a := 1) (Nat.le_of_ble_eq_true rfl) rfl) ?_
    refine oe_iconst (pc := 41) (v := 1) d_X8_doAgain_41 rfl ?_
    refine oe_iadd (pc := 42) d_X8_doAgain_42 ?_
    refine oe_putf (pc := 43) d_X8_doAgain_43 fl_X8_36 ock8 (k := 5) (Nat.le_of_ble_eq_true rfl) rfl rfl (oLt hK (a := 1) (Nat.le_of_ble_eq_true rfl)) (oSho hK (a := 1) (Nat.le_of_ble_eq_true rfl) rfl) ?_
    refine oe_aload_n (pc := 46) d_X8_doAgain_46 rfl ?_
    refine oe_getf (pc := 47) d_X8_doAgain_47 fl_X8_44 ock8 (k := 4) (Nat.le_of_ble_eq_true rfl) rfl (oLt hK (a := 1) (Nat.le_of_ble_eq_true rfl)) (oSho hK (a := 1) (Nat.le_of_ble_eq_true rfl) rfl) ?_
    refine oe_aload_n (pc := 50) d_X8_doAgain_50 rfl ?_
    refine oe_getf (pc := 51) d_X8_doAgain_51 fl_X8_36 ock8 (k := 5) (Nat.le_of_ble_eq_true rfl) rfl (oLt hK (a := 1) (Nat.le_of_ble_eq_true rfl)) (oSho hK (a := 1) (Nat.le_of_ble_eq_true rfl) rfl) ?_
    refine oe_isub (pc := 54) d_X8_doAgain_54 ?_
    obtain ⟨rfl, rfl⟩ := oRes h
    exact oe_iret (pc := 55) d_X8_doAgain_55 ⟨_, rfl, rfl⟩
  · replace h := (if_neg c1).symm.trans h
    refine oe_bipush (pc := 11) (v := (-5)) d_X8_doAgain_11 rfl ?_
    obtain ⟨rfl, rfl⟩ := oRes h
    exact oe_iret (pc := 13) d_X8_doAgain_13 ⟨_, rfl, rfl⟩
