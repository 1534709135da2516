/-! walked by program: X4_soonest, X5_add, X5_keepLeast, X5_give, X5_carry, X6_isSort, X6_end, X6_add, X7_takePart -/
theorem d_X4_soonest_0 : decode J_X4_soonest.2.1 0 = .ok (.iload_n 1, 1) := by decide +kernel
theorem d_X4_soonest_1 : decode J_X4_soonest.2.1 1 = .ok (.iconst 1, 1) := by decide +kernel
theorem d_X4_soonest_2 : decode J_X4_soonest.2.1 2 = .ok (.if_icmp .lt 19, 3) := by decide +kernel
theorem d_X4_soonest_5 : decode J_X4_soonest.2.1 5 = .ok (.aload_n 0, 1) := by decide +kernel
theorem d_X4_soonest_6 : decode J_X4_soonest.2.1 6 = .ok (.iload_n 2, 1) := by decide +kernel
theorem d_X4_soonest_7 : decode J_X4_soonest.2.1 7 = .ok (.invokevirtual 49, 3) := by decide +kernel
theorem d_X4_soonest_10 : decode J_X4_soonest.2.1 10 = .ok (.ifCond .eq 11, 3) := by decide +kernel
theorem d_X4_soonest_13 : decode J_X4_soonest.2.1 13 = .ok (.aload_n 0, 1) := by decide +kernel
theorem d_X4_soonest_14 : decode J_X4_soonest.2.1 14 = .ok (.iload_n 3, 1) := by decide +kernel
theorem d_X4_soonest_15 : decode J_X4_soonest.2.1 15 = .ok (.invokevirtual 49, 3) := by decide +kernel
theorem d_X4_soonest_18 : decode J_X4_soonest.2.1 18 = .ok (.ifCond .ne 6, 3) := by decide +kernel
theorem d_X4_soonest_21 : decode J_X4_soonest.2.1 21 = .ok (.bipush (-2), 2) := by decide +kernel
theorem d_X4_soonest_23 : decode J_X4_soonest.2.1 23 = .ok (.ireturn, 1) := by decide +kernel
theorem d_X4_soonest_24 : decode J_X4_soonest.2.1 24 = .ok (.iconst 0, 1) := by decide +kernel
theorem d_X4_soonest_25 : decode J_X4_soonest.2.1 25 = .ok (.istore 4, 2) := by decide +kernel
theorem d_X4_soonest_27 : decode J_X4_soonest.2.1 27 = .ok (.iload 4, 2) := by decide +kernel
theorem d_X4_soonest_29 : decode J_X4_soonest.2.1 29 = .ok (.aload_n 0, 1) := by decide +kernel
theorem d_X4_soonest_30 : decode J_X4_soonest.2.1 30 = .ok (.getfield 28, 3) := by decide +kernel
theorem d_X4_soonest_33 : decode J_X4_soonest.2.1 33 = .ok (.if_icmp .ge 18, 3) := by decide +kernel
theorem d_X4_soonest_36 : decode J_X4_soonest.2.1 36 = .ok (.aload_n 0, 1) := by decide +kernel
theorem d_X4_soonest_37 : decode J_X4_soonest.2.1 37 = .ok (.getfield 21, 3) := by decide +kernel
theorem d_X4_soonest_40 : decode J_X4_soonest.2.1 40 = .ok (.iload 4, 2) := by decide +kernel
theorem d_X4_soonest_42 : decode J_X4_soonest.2.1 42 = .ok (.ldc 52, 2) := by decide +kernel
theorem d_X4_soonest_44 : decode J_X4_soonest.2.1 44 = .ok (.iastore, 1) := by decide +kernel
theorem d_X4_soonest_45 : decode J_X4_soonest.2.1 45 = .ok (.iinc 4 1, 3) := by decide +kernel
theorem d_X4_soonest_48 : decode J_X4_soonest.2.1 48 = .ok (.goto (-21), 3) := by decide +kernel
theorem d_X4_soonest_51 : decode J_X4_soonest.2.1 51 = .ok (.aload_n 0, 1) := by decide +kernel
theorem d_X4_soonest_52 : decode J_X4_soonest.2.1 52 = .ok (.getfield 21, 3) := by decide +kernel
theorem d_X4_soonest_55 : decode J_X4_soonest.2.1 55 = .ok (.iload_n 2, 1) := by decide +kernel
theorem d_X4_soonest_56 : decode J_X4_soonest.2.1 56 = .ok (.iconst 0, 1) := by decide +kernel
theorem d_X4_soonest_57 : decode J_X4_soonest.2.1 57 = .ok (.iastore, 1) := by decide +kernel
theorem d_X4_soonest_58 : decode J_X4_soonest.2.1 58 = .ok (.iconst 0, 1) := by decide +kernel
theorem d_X4_soonest_59 : decode J_X4_soonest.2.1 59 = .ok (.istore 4, 2) := by decide +kernel
theorem d_X4_soonest_61 : decode J_X4_soonest.2.1 61 = .ok (.iload 4, 2) := by decide +kernel
theorem d_X4_soonest_63 : decode J_X4_soonest.2.1 63 = .ok (.aload_n 0, 1) := by decide +kernel
theorem d_X4_soonest_64 : decode J_X4_soonest.2.1 64 = .ok (.getfield 28, 3) := by decide +kernel
theorem d_X4_soonest_67 : decode J_X4_soonest.2.1 67 = .ok (.if_icmp .ge 82, 3) := by decide +kernel
theorem d_X4_soonest_70 : decode J_X4_soonest.2.1 70 = .ok (.iconst 0, 1) := by decide +kernel
theorem d_X4_soonest_71 : decode J_X4_soonest.2.1 71 = .ok (.istore 5, 2) := by decide +kernel
theorem d_X4_soonest_73 : decode J_X4_soonest.2.1 73 = .ok (.iload 5, 2) := by decide +kernel
theorem d_X4_soonest_75 : decode J_X4_soonest.2.1 75 = .ok (.aload_n 0, 1) := by decide +kernel
theorem d_X4_soonest_76 : decode J_X4_soonest.2.1 76 = .ok (.getfield 32, 3) := by decide +kernel
theorem d_X4_soonest_79 : decode J_X4_soonest.2.1 79 = .ok (.if_icmp .ge 64, 3) := by decide +kernel
theorem d_X4_soonest_82 : decode J_X4_soonest.2.1 82 = .ok (.aload_n 0, 1) := by decide +kernel
theorem d_X4_soonest_83 : decode J_X4_soonest.2.1 83 = .ok (.getfield 18, 3) := by decide +kernel
theorem d_X4_soonest_86 : decode J_X4_soonest.2.1 86 = .ok (.iload 5, 2) := by decide +kernel
theorem d_X4_soonest_88 : decode J_X4_soonest.2.1 88 = .ok (.iaload, 1) := by decide +kernel
theorem d_X4_soonest_89 : decode J_X4_soonest.2.1 89 = .ok (.iload_n 1, 1) := by decide +kernel
theorem d_X4_soonest_90 : decode J_X4_soonest.2.1 90 = .ok (.iadd, 1) := by decide +kernel
theorem d_X4_soonest_91 : decode J_X4_soonest.2.1 91 = .ok (.iconst 1, 1) := by decide +kernel
theorem d_X4_soonest_92 : decode J_X4_soonest.2.1 92 = .ok (.isub, 1) := by decide +kernel
theorem d_X4_soonest_93 : decode J_X4_soonest.2.1 93 = .ok (.iload_n 1, 1) := by decide +kernel
theorem d_X4_soonest_94 : decode J_X4_soonest.2.1 94 = .ok (.idiv, 1) := by decide +kernel
theorem d_X4_soonest_95 : decode J_X4_soonest.2.1 95 = .ok (.istore 6, 2) := by decide +kernel
theorem d_X4_soonest_97 : decode J_X4_soonest.2.1 97 = .ok (.aload_n 0, 1) := by decide +kernel
theorem d_X4_soonest_98 : decode J_X4_soonest.2.1 98 = .ok (.aload_n 0, 1) := by decide +kernel
theorem d_X4_soonest_99 : decode J_X4_soonest.2.1 99 = .ok (.getfield 9, 3) := by decide +kernel
theorem d_X4_soonest_102 : decode J_X4_soonest.2.1 102 = .ok (.iload 5, 2) := by decide +kernel
theorem d_X4_soonest_104 : decode J_X4_soonest.2.1 104 = .ok (.iaload, 1) := by decide +kernel
theorem d_X4_soonest_105 : decode J_X4_soonest.2.1 105 = .ok (.aload_n 0, 1) := by decide +kernel
theorem d_X4_soonest_106 : decode J_X4_soonest.2.1 106 = .ok (.getfield 15, 3) := by decide +kernel
theorem d_X4_soonest_109 : decode J_X4_soonest.2.1 109 = .ok (.iload 5, 2) := by decide +kernel
theorem d_X4_soonest_111 : decode J_X4_soonest.2.1 111 = .ok (.iaload, 1) := by decide +kernel
theorem d_X4_soonest_112 : decode J_X4_soonest.2.1 112 = .ok (.iload 6, 2) := by decide +kernel
theorem d_X4_soonest_114 : decode J_X4_soonest.2.1 114 = .ok (.invokevirtual 53, 3) := by decide +kernel
theorem d_X4_soonest_117 : decode J_X4_soonest.2.1 117 = .ok (.aload_n 0, 1) := by decide +kernel
theorem d_X4_soonest_118 : decode J_X4_soonest.2.1 118 = .ok (.aload_n 0, 1) := by decide +kernel
theorem d_X4_soonest_119 : decode J_X4_soonest.2.1 119 = .ok (.getfield 15, 3) := by decide +kernel
theorem d_X4_soonest_122 : decode J_X4_soonest.2.1 122 = .ok (.iload 5, 2) := by decide +kernel
theorem d_X4_soonest_124 : decode J_X4_soonest.2.1 124 = .ok (.iaload, 1) := by decide +kernel
theorem d_X4_soonest_125 : decode J_X4_soonest.2.1 125 = .ok (.aload_n 0, 1) := by decide +kernel
theorem d_X4_soonest_126 : decode J_X4_soonest.2.1 126 = .ok (.getfield 9, 3) := by decide +kernel
theorem d_X4_soonest_129 : decode J_X4_soonest.2.1 129 = .ok (.iload 5, 2) := by decide +kernel
theorem d_X4_soonest_131 : decode J_X4_soonest.2.1 131 = .ok (.iaload, 1) := by decide +kernel
theorem d_X4_soonest_132 : decode J_X4_soonest.2.1 132 = .ok (.iload 6, 2) := by decide +kernel
theorem d_X4_soonest_134 : decode J_X4_soonest.2.1 134 = .ok (.invokevirtual 53, 3) := by decide +kernel
theorem d_X4_soonest_137 : decode J_X4_soonest.2.1 137 = .ok (.iinc 5 1, 3) := by decide +kernel
theorem d_X4_soonest_140 : decode J_X4_soonest.2.1 140 = .ok (.goto (-67), 3) := by decide +kernel
theorem d_X4_soonest_143 : decode J_X4_soonest.2.1 143 = .ok (.iinc 4 1, 3) := by decide +kernel
theorem d_X4_soonest_146 : decode J_X4_soonest.2.1 146 = .ok (.goto (-85), 3) := by decide +kernel
theorem d_X4_soonest_149 : decode J_X4_soonest.2.1 149 = .ok (.aload_n 0, 1) := by decide +kernel
theorem d_X4_soonest_150 : decode J_X4_soonest.2.1 150 = .ok (.getfield 21, 3) := by decide +kernel
theorem d_X4_soonest_153 : decode J_X4_soonest.2.1 153 = .ok (.iload_n 3, 1) := by decide +kernel
theorem d_X4_soonest_154 : decode J_X4_soonest.2.1 154 = .ok (.iaload, 1) := by decide +kernel
theorem d_X4_soonest_155 : decode J_X4_soonest.2.1 155 = .ok (.ldc 52, 2) := by decide +kernel
theorem d_X4_soonest_157 : decode J_X4_soonest.2.1 157 = .ok (.if_icmp .lt 8, 3) := by decide +kernel
theorem d_X4_soonest_160 : decode J_X4_soonest.2.1 160 = .ok (.bipush (-2), 2) := by decide +kernel
theorem d_X4_soonest_162 : decode J_X4_soonest.2.1 162 = .ok (.goto 9, 3) := by decide +kernel
theorem d_X4_soonest_165 : decode J_X4_soonest.2.1 165 = .ok (.aload_n 0, 1) := by decide +kernel
theorem d_X4_soonest_166 : decode J_X4_soonest.2.1 166 = .ok (.getfield 21, 3) := by decide +kernel
theorem d_X4_soonest_169 : decode J_X4_soonest.2.1 169 = .ok (.iload_n 3, 1) := by decide +kernel
theorem d_X4_soonest_170 : decode J_X4_soonest.2.1 170 = .ok (.iaload, 1) := by decide +kernel
theorem d_X4_soonest_171 : decode J_X4_soonest.2.1 171 = .ok (.ireturn, 1) := by decide +kernel
def f_X4_soonest_73 (N : Nat) (K : oK) (r61 : (Int32 → Int32 → Int32 → oM → Option (Int32 × oM))) : Nat → Int32 → Int32 → Int32 → Int32 → oM → Option (Int32 × oM)
  | 0, _, _, _, _, _ => none
  | n + 1, p1, p3, p4, p5, M => (fun r73 => (if (M.1 6 6) ≤ p5 then (r61 p1 p3 (p4 + 1) M) else oIx (p5) 20 (oNz (p1) (oIx (p5) 20 (oIx (p5) 20 (oB2 (f_X4_hasten N K (M.1 7 (p5 : Int32).toNatClampNeg) (M.1 8 (p5 : Int32).toNatClampNeg) ((((M.1 9 (p5 : Int32).toNatClampNeg) + p1) - 1) / p1) M) (fun v18 M19 => oIx (p5) 20 (oIx (p5) 20 (oB2 (f_X4_hasten N K (M19.1 8 (p5 : Int32).toNatClampNeg) (M19.1 7 (p5 : Int32).toNatClampNeg) ((((M.1 9 (p5 : Int32).toNatClampNeg) + p1) - 1) / p1) M19) (fun v23 M24 => (r73 p1 p3 p4 (p5 + 1) M24))))))))))) (f_X4_soonest_73 N K r61 n)
set_option maxRecDepth 20000 in
theorem v_X4_soonest_73_L {X : oX} {d N : Nat} {K : oK} {r61 : (Int32 → Int32 → Int32 → oM → Option (Int32 × oM))} (hd : 2 ≤ d) (hK : oSR K) (hr61 : ∀ (p1 : Int32) (p3 : Int32) (p4 : Int32) (M : oM) (v : Int32) (M' : oM) , r61 p1 p3 p4 M = some (v, M') → oEv X d J_X4_soonest 61 [some (.ref 6), some (.int p1), none, some (.int p3), some (.int p4), none, none] [] K M (some (.int v)) K M') : ∀ (n : Nat) (p1 : Int32) (p3 : Int32) (p4 : Int32) (p5 : Int32) (M : oM) (v : Int32) (M' : oM)  , f_X4_soonest_73 N K r61 n p1 p3 p4 p5 M = some (v, M') → oEv X d J_X4_soonest 73 [some (.ref 6), some (.int p1), none, some (.int p3), some (.int p4), some (.int p5), none] [] K M (some (.int v)) K M' := by
  intro n
  induction n with
  | zero =>
    intro p1 p3 p4 p5 M v M'   h
    cases h
  | succ n hr73 =>
    intro p1 p3 p4 p5 M v M'   h
    refine oe_iload (pc := 73) d_X4_soonest_73 rfl ?_
    refine oe_aload_n (pc := 75) d_X4_soonest_75 rfl ?_
    refine oe_getf (pc := 76) d_X4_soonest_76 fl_X4_32 ock4 (k := 6) (Nat.le_of_ble_eq_true rfl) rfl (oLt hK (a := 6) (Nat.le_of_ble_eq_true rfl)) (oSho hK (a := 6) (Nat.le_of_ble_eq_true rfl) rfl) ?_
    refine oe_icmp_ge (pc := 79) (tgt := 143) d_X4_soonest_79 (by decide) (fun c14 => ?_) (fun c14 => ?_)
    · replace h := (if_pos c14).symm.trans h
      refine oe_iinc (pc := 143) (v := (p4 + 1)) (L2 := [_, _, _, _, _, _, _]) d_X4_soonest_143 rfl rfl rfl (Nat.le_of_ble_eq_true rfl) rfl ?_
      refine oe_goto (pc := 146) (tgt := 61) d_X4_soonest_146 (by decide) ?_
      refine oEv.fg [true, true, false, true, true, false, false] ?_
      exact hr61 _ _ _ _ _ _ h
    · replace h := (if_neg c14).symm.trans h
      refine oe_aload_n (pc := 82) d_X4_soonest_82 rfl ?_
      refine oe_getr (pc := 83) d_X4_soonest_83 fl_X4_18 ock4 (k := 3) (b := 9) (Nat.le_of_ble_eq_true rfl) (by decide) (oLt hK (a := 6) (Nat.le_of_ble_eq_true rfl)) (oSho hK (a := 6) (Nat.le_of_ble_eq_true rfl) rfl) (oRfK hK rfl) ?_
      refine oe_iload (pc := 86) d_X4_soonest_86 rfl ?_
      obtain ⟨i15, h⟩ := oIx_some h
      refine oe_iald (pc := 88) d_X4_soonest_88 (oLt hK (a := 9) (Nat.le_of_ble_eq_true rfl)) (oSha hK (a := 9) (Nat.le_of_ble_eq_true rfl) rfl) i15 ?_
      refine oe_iload_n (pc := 89) d_X4_soonest_89 rfl ?_
      refine oe_iadd (pc := 90) d_X4_soonest_90 ?_
      refine oe_iconst (pc := 91) (v := 1) d_X4_soonest_91 rfl ?_
      refine oe_isub (pc := 92) d_X4_soonest_92 ?_
      refine oe_iload_n (pc := 93) d_X4_soonest_93 rfl ?_
      obtain ⟨z94, h⟩ := oNz_some h
      refine oe_idiv (pc := 94) d_X4_soonest_94 z94 ?_
      refine oe_istore (pc := 95) (L2 := [_, _, _, _, _, _, _]) d_X4_soonest_95 rfl (Nat.le_of_ble_eq_true rfl) rfl ?_
      refine oe_aload_n (pc := 97) d_X4_soonest_97 rfl ?_
      refine oe_aload_n (pc := 98) d_X4_soonest_98 rfl ?_
      refine oe_getr (pc := 99) d_X4_soonest_99 fl_X4_9 ock4 (k := 1) (b := 7) (Nat.le_of_ble_eq_true rfl) (by decide) (oLt hK (a := 6) (Nat.le_of_ble_eq_true rfl)) (oSho hK (a := 6) (Nat.le_of_ble_eq_true rfl) rfl) (oRfK hK rfl) ?_
      refine oe_iload (pc := 102) d_X4_soonest_102 rfl ?_
      obtain ⟨i16, h⟩ := oIx_some h
      refine oe_iald (pc := 104) d_X4_soonest_104 (oLt hK (a := 7) (Nat.le_of_ble_eq_true rfl)) (oSha hK (a := 7) (Nat.le_of_ble_eq_true rfl) rfl) i16 ?_
      refine oe_aload_n (pc := 105) d_X4_soonest_105 rfl ?_
      refine oe_getr (pc := 106) d_X4_soonest_106 fl_X4_15 ock4 (k := 2) (b := 8) (Nat.le_of_ble_eq_true rfl) (by decide) (oLt hK (a := 6) (Nat.le_of_ble_eq_true rfl)) (oSho hK (a := 6) (Nat.le_of_ble_eq_true rfl) rfl) (oRfK hK rfl) ?_
      refine oe_iload (pc := 109) d_X4_soonest_109 rfl ?_
      obtain ⟨i17, h⟩ := oIx_some h
      refine oe_iald (pc := 111) d_X4_soonest_111 (oLt hK (a := 8) (Nat.le_of_ble_eq_true rfl)) (oSha hK (a := 8) (Nat.le_of_ble_eq_true rfl) rfl) i17 ?_
      refine oe_iload (pc := 112) d_X4_soonest_112 rfl ?_
      obtain ⟨v18, M19, q20, h⟩ := oB2_some h
      refine oe_callV (pc := 114) (ci := 4) d_X4_soonest_114 (v_X4_hasten hK  q20) (by omega) ml_X4_53 jJ_X4_hasten rfl rfl (oLt hK (a := 6) (Nat.le_of_ble_eq_true rfl)) (oSho hK (a := 6) (Nat.le_of_ble_eq_true rfl) rfl) ock4 rfl (Nat.le_of_ble_eq_true rfl) ⟨Nat.le_refl _, Nat.le_refl _⟩ ⟨Nat.le_refl _, Nat.le_refl _⟩ ?_
      refine oe_aload_n (pc := 117) d_X4_soonest_117 rfl ?_
      refine oe_aload_n (pc := 118) d_X4_soonest_118 rfl ?_
      refine oe_getr (pc := 119) d_X4_soonest_119 fl_X4_15 ock4 (k := 2) (b := 8) (Nat.le_of_ble_eq_true rfl) (by decide) (oLt hK (a := 6) (Nat.le_of_ble_eq_true rfl)) (oSho hK (a := 6) (Nat.le_of_ble_eq_true rfl) rfl) (oRfK hK rfl) ?_
      refine oe_iload (pc := 122) d_X4_soonest_122 rfl ?_
      obtain ⟨i21, h⟩ := oIx_some h
      refine oe_iald (pc := 124) d_X4_soonest_124 (oLt hK (a := 8) (Nat.le_of_ble_eq_true rfl)) (oSha hK (a := 8) (Nat.le_of_ble_eq_true rfl) rfl) i21 ?_
      refine oe_aload_n (pc := 125) d_X4_soonest_125 rfl ?_
      refine oe_getr (pc := 126) d_X4_soonest_126 fl_X4_9 ock4 (k := 1) (b := 7) (Nat.le_of_ble_eq_true rfl) (by decide) (oLt hK (a := 6) (Nat.le_of_ble_eq_true rfl)) (oSho hK (a := 6) (Nat.le_of_ble_eq_true rfl) rfl) (oRfK hK rfl) ?_
      refine oe_iload (pc := 129) d_X4_soonest_129 rfl ?_
      obtain ⟨i22, h⟩ := oIx_some h
      refine oe_iald (pc := 131) d_X4_soonest_131 (oLt hK (a := 7) (Nat.le_of_ble_eq_true rfl)) (oSha hK (a := 7) (Nat.le_of_ble_eq_true rfl) rfl) i22 ?_
      refine oe_iload (pc := 132) d_X4_soonest_132 rfl ?_
      obtain ⟨v23, M24, q25, h⟩ := oB2_some h
      refine oe_callV (pc := 134) (ci := 4) d_X4_soonest_134 (v_X4_hasten hK  q25) (by omega) ml_X4_53 jJ_X4_hasten rfl rfl (oLt hK (a := 6) (Nat.le_of_ble_eq_true rfl)) (oSho hK (a := 6) (Nat.le_of_ble_eq_true rfl) rfl) ock4 rfl (Nat.le_of_ble_eq_true rfl) ⟨Nat.le_refl _, Nat.le_refl _⟩ ⟨Nat.le_refl _, Nat.le_refl _⟩ ?_
      refine oe_iinc (pc := 137) (v := (p5 + 1)) (L2 := [_, _, _, _, _, _, _]) d_X4_soonest_137 rfl rfl rfl (Nat.le_of_ble_eq_true rfl) rfl ?_
      refine oe_goto (pc := 140) (tgt := 73) d_X4_soonest_140 (by decide) ?_
      refine oEv.fg [true, true, false, true, true, true, false] ?_
      exact hr73 _ _ _ _ _ _ _ h
theorem v_X4_soonest_73 {X : oX} {d N : Nat} {K : oK} {r61 : (Int32 → Int32 → Int32 → oM → Option (Int32 × oM))} {p1 : Int32} {p3 : Int32} {p4 : Int32} {p5 : Int32} {M : oM} {v : Int32} {M' : oM}  (hd : 2 ≤ d) (hK : oSR K)  (hr61 : ∀ (p1 : Int32) (p3 : Int32) (p4 : Int32) (M : oM) (v : Int32) (M' : oM) , r61 p1 p3 p4 M = some (v, M') → oEv X d J_X4_soonest 61 [some (.ref 6), some (.int p1), none, some (.int p3), some (.int p4), none, none] [] K M (some (.int v)) K M') (h : f_X4_soonest_73 N K r61 N p1 p3 p4 p5 M = some (v, M')) : oEv X d J_X4_soonest 73 [some (.ref 6), some (.int p1), none, some (.int p3), some (.int p4), some (.int p5), none] [] K M (some (.int v)) K M' := v_X4_soonest_73_L hd hK hr61 N p1 p3 p4 p5 M v M'   h
def f_X4_soonest_61 (N : Nat) (K : oK)  : Nat → Int32 → Int32 → Int32 → oM → Option (Int32 × oM)
  | 0, _, _, _, _ => none
  | n + 1, p1, p3, p4, M => (fun r61 => (if (M.1 6 5) ≤ p4 then oIx (p3) 12 ((if (M.1 10 (p3 : Int32).toNatClampNeg) < 1000000000 then oIx (p3) 12 (some ((M.1 10 (p3 : Int32).toNatClampNeg), M)) else some ((-2), M))) else (f_X4_soonest_73 N K r61 N p1 p3 p4 0 M))) (f_X4_soonest_61 N K  n)
set_option maxRecDepth 20000 in
theorem v_X4_soonest_61_L {X : oX} {d N : Nat} {K : oK}  (hd : 2 ≤ d) (hK : oSR K)  : ∀ (n : Nat) (p1 : Int32) (p3 : Int32) (p4 : Int32) (M : oM) (v : Int32) (M' : oM)  , f_X4_soonest_61 N K  n p1 p3 p4 M = some (v, M') → oEv X d J_X4_soonest 61 [some (.ref 6), some (.int p1), none, some (.int p3), some (.int p4), none, none] [] K M (some (.int v)) K M' := by
  intro n
  induction n with
  | zero =>
    intro p1 p3 p4 M v M'   h
    cases h
  | succ n hr61 =>
    intro p1 p3 p4 M v M'   h
    refine oe_iload (pc := 61) d_X4_soonest_61 rfl ?_
    refine oe_aload_n (pc := 63) d_X4_soonest_63 rfl ?_
    refine oe_getf (pc := 64) d_X4_soonest_64 fl_X4_28 ock4 (k := 5) (Nat.le_of_ble_eq_true rfl) rfl (oLt hK (a := 6) (Nat.le_of_ble_eq_true rfl)) (oSho hK (a := 6) (Nat.le_of_ble_eq_true rfl) rfl) ?_
    refine oe_icmp_ge (pc := 67) (tgt := 149) d_X4_soonest_67 (by decide) (fun c10 => ?_) (fun c10 => ?_)
    · replace h := (if_pos c10).symm.trans h
      refine oe_aload_n (pc := 149) d_X4_soonest_149 rfl ?_
      refine oe_getr (pc := 150) d_X4_soonest_150 fl_X4_21 ock4 (k := 4) (b := 10) (Nat.le_of_ble_eq_true rfl) (by decide) (oLt hK (a := 6) (Nat.le_of_ble_eq_true rfl)) (oSho hK (a := 6) (Nat.le_of_ble_eq_true rfl) rfl) (oRfK hK rfl) ?_
      refine oe_iload_n (pc := 153) d_X4_soonest_153 rfl ?_
      obtain ⟨i11, h⟩ := oIx_some h
      refine oe_iald (pc := 154) d_X4_soonest_154 (oLt hK (a := 10) (Nat.le_of_ble_eq_true rfl)) (oSha hK (a := 10) (Nat.le_of_ble_eq_true rfl) rfl) i11 ?_
      refine oe_ldc (pc := 155) d_X4_soonest_155 co_X4_52 ?_
      refine oe_icmp_lt (pc := 157) (tgt := 165) d_X4_soonest_157 (by decide) (fun c12 => ?_) (fun c12 => ?_)
      · replace h := (if_pos c12).symm.trans h
        refine oe_aload_n (pc := 165) d_X4_soonest_165 rfl ?_
        refine oe_getr (pc := 166) d_X4_soonest_166 fl_X4_21 ock4 (k := 4) (b := 10) (Nat.le_of_ble_eq_true rfl) (by decide) (oLt hK (a := 6) (Nat.le_of_ble_eq_true rfl)) (oSho hK (a := 6) (Nat.le_of_ble_eq_true rfl) rfl) (oRfK hK rfl) ?_
        refine oe_iload_n (pc := 169) d_X4_soonest_169 rfl ?_
        obtain ⟨i13, h⟩ := oIx_some h
        refine oe_iald (pc := 170) d_X4_soonest_170 (oLt hK (a := 10) (Nat.le_of_ble_eq_true rfl)) (oSha hK (a := 10) (Nat.le_of_ble_eq_true rfl) rfl) i13 ?_
        obtain ⟨rfl, rfl⟩ := oRes h
        exact oe_iret (pc := 171) d_X4_soonest_171 ⟨_, rfl, rfl⟩
      · replace h := (if_neg c12).symm.trans h
        refine oe_bipush (pc := 160) (v := (-2)) d_X4_soonest_160 rfl ?_
        refine oe_goto (pc := 162) (tgt := 171) d_X4_soonest_162 (by decide) ?_
        obtain ⟨rfl, rfl⟩ := oRes h
        exact oe_iret (pc := 171) d_X4_soonest_171 ⟨_, rfl, rfl⟩
    · replace h := (if_neg c10).symm.trans h
      refine oe_iconst (pc := 70) (v := 0) d_X4_soonest_70 rfl ?_
      refine oe_istore (pc := 71) (L2 := [_, _, _, _, _, _, _]) d_X4_soonest_71 rfl (Nat.le_of_ble_eq_true rfl) rfl ?_
      exact v_X4_soonest_73 hd hK  hr61 h
theorem v_X4_soonest_61 {X : oX} {d N : Nat} {K : oK}  {p1 : Int32} {p3 : Int32} {p4 : Int32} {M : oM} {v : Int32} {M' : oM}  (hd : 2 ≤ d) (hK : oSR K)   (h : f_X4_soonest_61 N K  N p1 p3 p4 M = some (v, M')) : oEv X d J_X4_soonest 61 [some (.ref 6), some (.int p1), none, some (.int p3), some (.int p4), none, none] [] K M (some (.int v)) K M' := v_X4_soonest_61_L hd hK  N p1 p3 p4 M v M'   h
def f_X4_soonest_27 (N : Nat) (K : oK)  : Nat → Int32 → Int32 → Int32 → Int32 → oM → Option (Int32 × oM)
  | 0, _, _, _, _, _ => none
  | n + 1, p1, p2, p3, p4, M => (fun r27 => (if (M.1 6 5) ≤ p4 then oIx (p2) 12 ((f_X4_soonest_61 N K  N p1 p3 0 (oUp M 10 (p2 : Int32).toNatClampNeg (0 : Int32)))) else oIx (p4) 12 ((r27 p1 p2 p3 (p4 + 1) (oUp M 10 (p4 : Int32).toNatClampNeg (1000000000 : Int32)))))) (f_X4_soonest_27 N K  n)
set_option maxRecDepth 20000 in
theorem v_X4_soonest_27_L {X : oX} {d N : Nat} {K : oK}  (hd : 2 ≤ d) (hK : oSR K)  : ∀ (n : Nat) (p1 : Int32) (p2 : Int32) (p3 : Int32) (p4 : Int32) (M : oM) (v : Int32) (M' : oM)  , f_X4_soonest_27 N K  n p1 p2 p3 p4 M = some (v, M') → oEv X d J_X4_soonest 27 [some (.ref 6), some (.int p1), some (.int p2), some (.int p3), some (.int p4), none, none] [] K M (some (.int v)) K M' := by
  intro n
  induction n with
  | zero =>
    intro p1 p2 p3 p4 M v M'   h
    cases h
  | succ n hr27 =>
    intro p1 p2 p3 p4 M v M'   h
    refine oe_iload (pc := 27) d_X4_soonest_27 rfl ?_
    refine oe_aload_n (pc := 29) d_X4_soonest_29 rfl ?_
    refine oe_getf (pc := 30) d_X4_soonest_30 fl_X4_28 ock4 (k := 5) (Nat.le_of_ble_eq_true rfl) rfl (oLt hK (a := 6) (Nat.le_of_ble_eq_true rfl)) (oSho hK (a := 6) (Nat.le_of_ble_eq_true rfl) rfl) ?_
    refine oe_icmp_ge (pc := 33) (tgt := 51) d_X4_soonest_33 (by decide) (fun c8 => ?_) (fun c8 => ?_)
    · replace h := (if_pos c8).symm.trans h
      refine oe_aload_n (pc := 51) d_X4_soonest_51 rfl ?_
      refine oe_getr (pc := 52) d_X4_soonest_52 fl_X4_21 ock4 (k := 4) (b := 10) (Nat.le_of_ble_eq_true rfl) (by decide) (oLt hK (a := 6) (Nat.le_of_ble_eq_true rfl)) (oSho hK (a := 6) (Nat.le_of_ble_eq_true rfl) rfl) (oRfK hK rfl) ?_
      refine oe_iload_n (pc := 55) d_X4_soonest_55 rfl ?_
      refine oe_iconst (pc := 56) (v := 0) d_X4_soonest_56 rfl ?_
      obtain ⟨i9, h⟩ := oIx_some h
      refine oe_iast (pc := 57) d_X4_soonest_57 (oLt hK (a := 10) (Nat.le_of_ble_eq_true rfl)) (oSha hK (a := 10) (Nat.le_of_ble_eq_true rfl) rfl) i9 ?_
      refine oe_iconst (pc := 58) (v := 0) d_X4_soonest_58 rfl ?_
      refine oe_istore (pc := 59) (L2 := [_, _, _, _, _, _, _]) d_X4_soonest_59 rfl (Nat.le_of_ble_eq_true rfl) rfl ?_
      refine oEv.fg [true, true, false, true, true, false, false] ?_
      exact v_X4_soonest_61 hd hK   h
    · replace h := (if_neg c8).symm.trans h
      refine oe_aload_n (pc := 36) d_X4_soonest_36 rfl ?_
      refine oe_getr (pc := 37) d_X4_soonest_37 fl_X4_21 ock4 (k := 4) (b := 10) (Nat.le_of_ble_eq_true rfl) (by decide) (oLt hK (a := 6) (Nat.le_of_ble_eq_true rfl)) (oSho hK (a := 6) (Nat.le_of_ble_eq_true rfl) rfl) (oRfK hK rfl) ?_
      refine oe_iload (pc := 40) d_X4_soonest_40 rfl ?_
      refine oe_ldc (pc := 42) d_X4_soonest_42 co_X4_52 ?_
      obtain ⟨i26, h⟩ := oIx_some h
      refine oe_iast (pc := 44) d_X4_soonest_44 (oLt hK (a := 10) (Nat.le_of_ble_eq_true rfl)) (oSha hK (a := 10) (Nat.le_of_ble_eq_true rfl) rfl) i26 ?_
      refine oe_iinc (pc := 45) (v := (p4 + 1)) (L2 := [_, _, _, _, _, _, _]) d_X4_soonest_45 rfl rfl rfl (Nat.le_of_ble_eq_true rfl) rfl ?_
      refine oe_goto (pc := 48) (tgt := 27) d_X4_soonest_48 (by decide) ?_
      exact hr27 _ _ _ _ _ _ _ h
theorem v_X4_soonest_27 {X : oX} {d N : Nat} {K : oK}  {p1 : Int32} {p2 : Int32} {p3 : Int32} {p4 : Int32} {M : oM} {v : Int32} {M' : oM}  (hd : 2 ≤ d) (hK : oSR K)   (h : f_X4_soonest_27 N K  N p1 p2 p3 p4 M = some (v, M')) : oEv X d J_X4_soonest 27 [some (.ref 6), some (.int p1), some (.int p2), some (.int p3), some (.int p4), none, none] [] K M (some (.int v)) K M' := v_X4_soonest_27_L hd hK  N p1 p2 p3 p4 M v M'   h
def f_X4_soonest (N : Nat) (K : oK) (p1 : Int32) (p2 : Int32) (p3 : Int32) (M : oM) : Option (Int32 × oM) :=
  (if p1 < 1 then some ((-2), M) else oB2 (f_X4_isPoint N K p2 M) (fun v2 M3 => cond v2 (oB2 (f_X4_isPoint N K p3 M3) (fun v5 M6 => cond v5 ((f_X4_soonest_27 N K  N p1 p2 p3 0 M6)) (some ((-2), M6)))) (some ((-2), M3))))
set_option maxRecDepth 20000 in
theorem v_X4_soonest {X : oX} {N : Nat} {K : oK} {p1 : Int32} {p2 : Int32} {p3 : Int32} {M : oM} {v : Int32} {M' : oM} (hK : oSR K)  (h : f_X4_soonest N K p1 p2 p3 M = some (v, M')) : oMet X 2 J_X4_soonest [(.ref 6), (.int p1), (.int p2), (.int p3)] K M (some (.int v)) K M' := by
  unfold f_X4_soonest at h
  refine oMet_of (L := [some (.ref 6), some (.int p1), some (.int p2), some (.int p3), none, none, none]) jJ_X4_soonest.1 rfl (Nat.le_of_ble_eq_true rfl) rfl (Nat.le_refl _) (Nat.le_refl _) ?_
  have hd : 2 ≤ 2 := Nat.le_refl _
  refine oe_iload_n (pc := 0) d_X4_soonest_0 rfl ?_
  refine oe_iconst (pc := 1) (v := 1) d_X4_soonest_1 rfl ?_
  refine oe_icmp_lt (pc := 2) (tgt := 21) d_X4_soonest_2 (by decide) (fun c1 => ?_) (fun c1 => ?_)
  · replace h := (if_pos c1).symm.trans h
    refine oe_bipush (pc := 21) (v := (-2)) d_X4_soonest_21 rfl ?_
    obtain ⟨rfl, rfl⟩ := oRes h
    exact oe_iret (pc := 23) d_X4_soonest_23 ⟨_, rfl, rfl⟩
  · replace h := (if_neg c1).symm.trans h
    refine oe_aload_n (pc := 5) d_X4_soonest_5 rfl ?_
    refine oe_iload_n (pc := 6) d_X4_soonest_6 rfl ?_
    obtain ⟨v2, M3, q4, h⟩ := oB2_some h
    cases v2 with
    | true =>
      replace h := oCt h
      refine oe_callV (pc := 7) (ci := 4) d_X4_soonest_7 (v_X4_isPoint hK  q4) (by omega) ml_X4_49 jJ_X4_isPoint rfl rfl (oLt hK (a := 6) (Nat.le_of_ble_eq_true rfl)) (oSho hK (a := 6) (Nat.le_of_ble_eq_true rfl) rfl) ock4 rfl (Nat.le_of_ble_eq_true rfl) ⟨Nat.le_refl _, Nat.le_refl _⟩ ⟨Nat.le_refl _, Nat.le_refl _⟩ ?_
      refine oe_if_eq (pc := 10) (tgt := 21) d_X4_soonest_10 (by decide) (fun c => absurd c (by decide)) (fun _ => ?_)
      refine oe_aload_n (pc := 13) d_X4_soonest_13 rfl ?_
      refine oe_iload_n (pc := 14) d_X4_soonest_14 rfl ?_
      obtain ⟨v5, M6, q7, h⟩ := oB2_some h
      cases v5 with
      | true =>
        replace h := oCt h
        refine oe_callV (pc := 15) (ci := 4) d_X4_soonest_15 (v_X4_isPoint hK  q7) (by omega) ml_X4_49 jJ_X4_isPoint rfl rfl (oLt hK (a := 6) (Nat.le_of_ble_eq_true rfl)) (oSho hK (a := 6) (Nat.le_of_ble_eq_true rfl) rfl) ock4 rfl (Nat.le_of_ble_eq_true rfl) ⟨Nat.le_refl _, Nat.le_refl _⟩ ⟨Nat.le_refl _, Nat.le_refl _⟩ ?_
        refine oe_if_ne (pc := 18) (tgt := 24) d_X4_soonest_18 (by decide) (fun _ => ?_) (fun c => absurd c (by decide))
        refine oe_iconst (pc := 24) (v := 0) d_X4_soonest_24 rfl ?_
        refine oe_istore (pc := 25) (L2 := [_, _, _, _, _, _, _]) d_X4_soonest_25 rfl (Nat.le_of_ble_eq_true rfl) rfl ?_
        exact v_X4_soonest_27 hd hK   h
      | false =>
        replace h := oCf h
        refine oe_callV (pc := 15) (ci := 4) d_X4_soonest_15 (v_X4_isPoint hK  q7) (by omega) ml_X4_49 jJ_X4_isPoint rfl rfl (oLt hK (a := 6) (Nat.le_of_ble_eq_true rfl)) (oSho hK (a := 6) (Nat.le_of_ble_eq_true rfl) rfl) ock4 rfl (Nat.le_of_ble_eq_true rfl) ⟨Nat.le_refl _, Nat.le_refl _⟩ ⟨Nat.le_refl _, Nat.le_refl _⟩ ?_
        refine oe_if_ne (pc := 18) (tgt := 24) d_X4_soonest_18 (by decide) (fun c => absurd (by decide) c) (fun _ => ?_)
        refine oe_bipush (pc := 21) (v := (-2)) d_X4_soonest_21 rfl ?_
        obtain ⟨rfl, rfl⟩ := oRes h
        exact oe_iret (pc := 23) d_X4_soonest_23 ⟨_, rfl, rfl⟩
    | false =>
      replace h := oCf h
      refine oe_callV (pc := 7) (ci := 4) d_X4_soonest_7 (v_X4_isPoint hK  q4) (by omega) ml_X4_49 jJ_X4_isPoint rfl rfl (oLt hK (a := 6) (Nat.le_of_ble_eq_true rfl)) (oSho hK (a := 6) (Nat.le_of_ble_eq_true rfl) rfl) ock4 rfl (Nat.le_of_ble_eq_true rfl) ⟨Nat.le_refl _, Nat.le_refl _⟩ ⟨Nat.le_refl _, Nat.le_refl _⟩ ?_
      refine oe_if_eq (pc := 10) (tgt := 21) d_X4_soonest_10 (by decide) (fun _ => ?_) (fun c => absurd (by decide) c)
      refine oe_bipush (pc := 21) (v := (-2)) d_X4_soonest_21 rfl ?_
      obtain ⟨rfl, rfl⟩ := oRes h
      exact oe_iret (pc := 23) d_X4_soonest_23 ⟨_, rfl, rfl⟩
theorem d_X5_add_0 : decode J_X5_add.2.1 0 = .ok (.aload_n 0, 1) := by decide +kernel
theorem d_X5_add_1 : decode J_X5_add.2.1 1 = .ok (.getfield 18, 3) := by decide +kernel
theorem d_X5_add_4 : decode J_X5_add.2.1 4 = .ok (.bipush 8, 2) := by decide +kernel
theorem d_X5_add_6 : decode J_X5_add.2.1 6 = .ok (.if_icmp .lt 6, 3) := by decide +kernel
theorem d_X5_add_9 : decode J_X5_add.2.1 9 = .ok (.bipush (-3), 2) := by decide +kernel
theorem d_X5_add_11 : decode J_X5_add.2.1 11 = .ok (.ireturn, 1) := by decide +kernel
theorem d_X5_add_12 : decode J_X5_add.2.1 12 = .ok (.aload_n 0, 1) := by decide +kernel
theorem d_X5_add_13 : decode J_X5_add.2.1 13 = .ok (.getfield 11, 3) := by decide +kernel
theorem d_X5_add_16 : decode J_X5_add.2.1 16 = .ok (.aload_n 0, 1) := by decide +kernel
theorem d_X5_add_17 : decode J_X5_add.2.1 17 = .ok (.getfield 18, 3) := by decide +kernel
theorem d_X5_add_20 : decode J_X5_add.2.1 20 = .ok (.iload_n 1, 1) := by decide +kernel
theorem d_X5_add_21 : decode J_X5_add.2.1 21 = .ok (.iastore, 1) := by decide +kernel
theorem d_X5_add_22 : decode J_X5_add.2.1 22 = .ok (.aload_n 0, 1) := by decide +kernel
theorem d_X5_add_23 : decode J_X5_add.2.1 23 = .ok (.dup, 1) := by decide +kernel
theorem d_X5_add_24 : decode J_X5_add.2.1 24 = .ok (.getfield 18, 3) := by decide +kernel
theorem d_X5_add_27 : decode J_X5_add.2.1 27 = .ok (.iconst 1, 1) := by decide +kernel
theorem d_X5_add_28 : decode J_X5_add.2.1 28 = .ok (.iadd, 1) := by decide +kernel
theorem d_X5_add_29 : decode J_X5_add.2.1 29 = .ok (.putfield 18, 3) := by decide +kernel
theorem d_X5_add_32 : decode J_X5_add.2.1 32 = .ok (.aload_n 0, 1) := by decide +kernel
theorem d_X5_add_33 : decode J_X5_add.2.1 33 = .ok (.getfield 18, 3) := by decide +kernel
theorem d_X5_add_36 : decode J_X5_add.2.1 36 = .ok (.ireturn, 1) := by decide +kernel
def f_X5_add (N : Nat) (K : oK) (p1 : Int32) (M : oM) : Option (Int32 × oM) :=
  (if (M.1 37 2) < 8 then oIx ((M.1 37 2)) 8 (some (((oUp (oUp M 38 ((M.1 37 2) : Int32).toNatClampNeg p1) 37 2 (((oUp M 38 ((M.1 37 2) : Int32).toNatClampNeg p1).1 37 2) + 1)).1 37 2), (oUp (oUp M 38 ((M.1 37 2) : Int32).toNatClampNeg p1) 37 2 (((oUp M 38 ((M.1 37 2) : Int32).toNatClampNeg p1).1 37 2) + 1)))) else some ((-3), M))
set_option maxRecDepth 20000 in
theorem v_X5_add {X : oX} {N : Nat} {K : oK} {p1 : Int32} {M : oM} {v : Int32} {M' : oM} (hK : oSR K)  (h : f_X5_add N K p1 M = some (v, M')) : oMet X 1 J_X5_add [(.ref 37), (.int p1)] K M (some (.int v)) K M' := by
  unfold f_X5_add at h
  refine oMet_of (L := [some (.ref 37), some (.int p1)]) jJ_X5_add.1 rfl (Nat.le_of_ble_eq_true rfl) rfl (Nat.le_refl _) (Nat.le_refl _) ?_
  have hd : 1 ≤ 1 := Nat.le_refl _
  refine oe_aload_n (pc := 0) d_X5_add_0 rfl ?_
  refine oe_getf (pc := 1) d_X5_add_1 fl_X5_18 ock5 (k := 2) (Nat.le_of_ble_eq_true rfl) rfl (oLt hK (a := 37) (Nat.le_of_ble_eq_true rfl)) (oSho hK (a := 37) (Nat.le_of_ble_eq_true rfl) rfl) ?_
  refine oe_bipush (pc := 4) (v := 8) d_X5_add_4 rfl ?_
  refine oe_icmp_lt (pc := 6) (tgt := 12) d_X5_add_6 (by decide) (fun c1 => ?_) (fun c1 => ?_)
  · replace h := (if_pos c1).symm.trans h
    refine oe_aload_n (pc := 12) d_X5_add_12 rfl ?_
    refine oe_getr (pc := 13) d_X5_add_13 fl_X5_11 ock5 (k := 0) (b := 38) (Nat.le_of_ble_eq_true rfl) (by decide) (oLt hK (a := 37) (Nat.le_of_ble_eq_true rfl)) (oSho hK (a := 37) (Nat.le_of_ble_eq_true rfl) rfl) (oRfK hK rfl) ?_
    refine oe_aload_n (pc := 16) d_X5_add_16 rfl ?_
    refine oe_getf (pc := 17) d_X5_add_17 fl_X5_18 ock5 (k := 2) (Nat.le_of_ble_eq_true rfl) rfl (oLt hK (a := 37) (Nat.le_of_ble_eq_true rfl)) (oSho hK (a := 37) (Nat.le_of_ble_eq_true rfl) rfl) ?_
    refine oe_iload_n (pc := 20) d_X5_add_20 rfl ?_
    obtain ⟨i2, h⟩ := oIx_some h
    refine oe_iast (pc := 21) d_X5_add_21 (oLt hK (a := 38) (Nat.le_of_ble_eq_true rfl)) (oSha hK (a := 38) (Nat.le_of_ble_eq_true rfl) rfl) i2 ?_
    refine oe_aload_n (pc := 22) d_X5_add_22 rfl ?_
    refine oe_dup (pc := 23) d_X5_add_23 rfl ?_
    refine oe_getf (pc := 24) d_X5_add_24 fl_X5_18 ock5 (k := 2) (Nat.le_of_ble_eq_true rfl) rfl (oLt hK (a := 37) (Nat.le_of_ble_eq_true rfl)) (oSho hK (a := 37) (Nat.le_of_ble_eq_true rfl) rfl) ?_
    refine oe_iconst (pc := 27) (v := 1) d_X5_add_27 rfl ?_
    refine oe_iadd (pc := 28) d_X5_add_28 ?_
    refine oe_putf (pc := 29) d_X5_add_29 fl_X5_18 ock5 (k := 2) (Nat.le_of_ble_eq_true rfl) rfl rfl (oLt hK (a := 37) (Nat.le_of_ble_eq_true rfl)) (oSho hK (a := 37) (Nat.le_of_ble_eq_true rfl) rfl) ?_
    refine oe_aload_n (pc := 32) d_X5_add_32 rfl ?_
    refine oe_getf (pc := 33) d_X5_add_33 fl_X5_18 ock5 (k := 2) (Nat.le_of_ble_eq_true rfl) rfl (oLt hK (a := 37) (Nat.le_of_ble_eq_true rfl)) (oSho hK (a := 37) (Nat.le_of_ble_eq_true rfl) rfl) ?_
    obtain ⟨rfl, rfl⟩ := oRes h
    exact oe_iret (pc := 36) d_X5_add_36 ⟨_, rfl, rfl⟩
  · replace h := (if_neg c1).symm.trans h
    refine oe_bipush (pc := 9) (v := (-3)) d_X5_add_9 rfl ?_
    obtain ⟨rfl, rfl⟩ := oRes h
    exact oe_iret (pc := 11) d_X5_add_11 ⟨_, rfl, rfl⟩
theorem d_X5_keepLeast_0 : decode J_X5_keepLeast.2.1 0 = .ok (.iconst 0, 1) := by decide +kernel
theorem d_X5_keepLeast_1 : decode J_X5_keepLeast.2.1 1 = .ok (.istore_n 2, 1) := by decide +kernel
theorem d_X5_keepLeast_2 : decode J_X5_keepLeast.2.1 2 = .ok (.iconst 0, 1) := by decide +kernel
theorem d_X5_keepLeast_3 : decode J_X5_keepLeast.2.1 3 = .ok (.istore_n 3, 1) := by decide +kernel
theorem d_X5_keepLeast_4 : decode J_X5_keepLeast.2.1 4 = .ok (.iload_n 3, 1) := by decide +kernel
theorem d_X5_keepLeast_5 : decode J_X5_keepLeast.2.1 5 = .ok (.aload_n 0, 1) := by decide +kernel
theorem d_X5_keepLeast_6 : decode J_X5_keepLeast.2.1 6 = .ok (.getfield 15, 3) := by decide +kernel
theorem d_X5_keepLeast_9 : decode J_X5_keepLeast.2.1 9 = .ok (.arraylength, 1) := by decide +kernel
theorem d_X5_keepLeast_10 : decode J_X5_keepLeast.2.1 10 = .ok (.if_icmp .ge 20, 3) := by decide +kernel
theorem d_X5_keepLeast_13 : decode J_X5_keepLeast.2.1 13 = .ok (.iload_n 2, 1) := by decide +kernel
theorem d_X5_keepLeast_14 : decode J_X5_keepLeast.2.1 14 = .ok (.aload_n 0, 1) := by decide +kernel
theorem d_X5_keepLeast_15 : decode J_X5_keepLeast.2.1 15 = .ok (.getfield 15, 3) := by decide +kernel
theorem d_X5_keepLeast_18 : decode J_X5_keepLeast.2.1 18 = .ok (.iload_n 3, 1) := by decide +kernel
theorem d_X5_keepLeast_19 : decode J_X5_keepLeast.2.1 19 = .ok (.iaload, 1) := by decide +kernel
theorem d_X5_keepLeast_20 : decode J_X5_keepLeast.2.1 20 = .ok (.invokestatic 36, 3) := by decide +kernel
theorem d_X5_keepLeast_23 : decode J_X5_keepLeast.2.1 23 = .ok (.istore_n 2, 1) := by decide +kernel
theorem d_X5_keepLeast_24 : decode J_X5_keepLeast.2.1 24 = .ok (.iinc 3 1, 3) := by decide +kernel
theorem d_X5_keepLeast_27 : decode J_X5_keepLeast.2.1 27 = .ok (.goto (-23), 3) := by decide +kernel
theorem d_X5_keepLeast_30 : decode J_X5_keepLeast.2.1 30 = .ok (.iload_n 2, 1) := by decide +kernel
theorem d_X5_keepLeast_31 : decode J_X5_keepLeast.2.1 31 = .ok (.aload_n 0, 1) := by decide +kernel
theorem d_X5_keepLeast_32 : decode J_X5_keepLeast.2.1 32 = .ok (.getfield 22, 3) := by decide +kernel
theorem d_X5_keepLeast_35 : decode J_X5_keepLeast.2.1 35 = .ok (.if_icmp .ge 13, 3) := by decide +kernel
theorem d_X5_keepLeast_38 : decode J_X5_keepLeast.2.1 38 = .ok (.aload_n 0, 1) := by decide +kernel
theorem d_X5_keepLeast_39 : decode J_X5_keepLeast.2.1 39 = .ok (.iload_n 2, 1) := by decide +kernel
theorem d_X5_keepLeast_40 : decode J_X5_keepLeast.2.1 40 = .ok (.putfield 22, 3) := by decide +kernel
theorem d_X5_keepLeast_43 : decode J_X5_keepLeast.2.1 43 = .ok (.aload_n 0, 1) := by decide +kernel
theorem d_X5_keepLeast_44 : decode J_X5_keepLeast.2.1 44 = .ok (.iload_n 1, 1) := by decide +kernel
theorem d_X5_keepLeast_45 : decode J_X5_keepLeast.2.1 45 = .ok (.putfield 25, 3) := by decide +kernel
theorem d_X5_keepLeast_48 : decode J_X5_keepLeast.2.1 48 = .ok (.return_, 1) := by decide +kernel
def f_X5_keepLeast_4 (N : Nat) (K : oK)  : Nat → Int32 → Int32 → Int32 → oM → Option (Unit × oM)
  | 0, _, _, _, _ => none
  | n + 1, p1, p2, p3, M => (fun r4 => (if (Int32.ofNat 4) ≤ p3 then (if (M.1 37 3) ≤ p2 then some ((), M) else some ((), (oUp (oUp M 37 3 p2) 37 4 p1))) else oIx (p3) 4 ((r4 p1 (if p2 < (M.1 39 (p3 : Int32).toNatClampNeg) then (M.1 39 (p3 : Int32).toNatClampNeg) else p2) (p3 + 1) M)))) (f_X5_keepLeast_4 N K  n)
set_option maxRecDepth 20000 in
theorem v_X5_keepLeast_4_L {X : oX} {d N : Nat} {K : oK}  (hd : 1 ≤ d) (hK : oSR K)  : ∀ (n : Nat) (p1 : Int32) (p2 : Int32) (p3 : Int32) (M : oM) (v : Unit) (M' : oM)  , f_X5_keepLeast_4 N K  n p1 p2 p3 M = some (v, M') → oEv X d J_X5_keepLeast 4 [some (.ref 37), some (.int p1), some (.int p2), some (.int p3)] [] K M none K M' := by
  intro n
  induction n with
  | zero =>
    intro p1 p2 p3 M v M'   h
    cases h
  | succ n hr4 =>
    intro p1 p2 p3 M v M'   h
    refine oe_iload_n (pc := 4) d_X5_keepLeast_4 rfl ?_
    refine oe_aload_n (pc := 5) d_X5_keepLeast_5 rfl ?_
    refine oe_getr (pc := 6) d_X5_keepLeast_6 fl_X5_15 ock5 (k := 1) (b := 39) (Nat.le_of_ble_eq_true rfl) (by decide) (oLt hK (a := 37) (Nat.le_of_ble_eq_true rfl)) (oSho hK (a := 37) (Nat.le_of_ble_eq_true rfl) rfl) (oRfK hK rfl) ?_
    refine oe_alenI (pc := 9) d_X5_keepLeast_9 (oLt hK (a := 39) (Nat.le_of_ble_eq_true rfl)) (oSha hK (a := 39) (Nat.le_of_ble_eq_true rfl) rfl) rfl ?_
    refine oe_icmp_ge (pc := 10) (tgt := 30) d_X5_keepLeast_10 (by decide) (fun c1 => ?_) (fun c1 => ?_)
    · replace h := (if_pos c1).symm.trans h
      refine oe_iload_n (pc := 30) d_X5_keepLeast_30 rfl ?_
      refine oe_aload_n (pc := 31) d_X5_keepLeast_31 rfl ?_
      refine oe_getf (pc := 32) d_X5_keepLeast_32 fl_X5_22 ock5 (k := 3) (Nat.le_of_ble_eq_true rfl) rfl (oLt hK (a := 37) (Nat.le_of_ble_eq_true rfl)) (oSho hK (a := 37) (Nat.le_of_ble_eq_true rfl) rfl) ?_
      refine oe_icmp_ge (pc := 35) (tgt := 48) d_X5_keepLeast_35 (by decide) (fun c2 => ?_) (fun c2 => ?_)
      · replace h := (if_pos c2).symm.trans h
        obtain ⟨rfl, rfl⟩ := oRes h
        exact oe_vret (pc := 48) d_X5_keepLeast_48 rfl
      · replace h := (if_neg c2).symm.trans h
        refine oe_aload_n (pc := 38) d_X5_keepLeast_38 rfl ?_
        refine oe_iload_n (pc := 39) d_X5_keepLeast_39 rfl ?_
        refine oe_putf (pc := 40) d_X5_keepLeast_40 fl_X5_22 ock5 (k := 3) (Nat.le_of_ble_eq_true rfl) rfl rfl (oLt hK (a := 37) (Nat.le_of_ble_eq_true rfl)) (oSho hK (a := 37) (Nat.le_of_ble_eq_true rfl) rfl) ?_
        refine oe_aload_n (pc := 43) d_X5_keepLeast_43 rfl ?_
        refine oe_iload_n (pc := 44) d_X5_keepLeast_44 rfl ?_
        refine oe_putf (pc := 45) d_X5_keepLeast_45 fl_X5_25 ock5 (k := 4) (Nat.le_of_ble_eq_true rfl) rfl rfl (oLt hK (a := 37) (Nat.le_of_ble_eq_true rfl)) (oSho hK (a := 37) (Nat.le_of_ble_eq_true rfl) rfl) ?_
        obtain ⟨rfl, rfl⟩ := oRes h
        exact oe_vret (pc := 48) d_X5_keepLeast_48 rfl
    · replace h := (if_neg c1).symm.trans h
      refine oe_iload_n (pc := 13) d_X5_keepLeast_13 rfl ?_
      refine oe_aload_n (pc := 14) d_X5_keepLeast_14 rfl ?_
      refine oe_getr (pc := 15) d_X5_keepLeast_15 fl_X5_15 ock5 (k := 1) (b := 39) (Nat.le_of_ble_eq_true rfl) (by decide) (oLt hK (a := 37) (Nat.le_of_ble_eq_true rfl)) (oSho hK (a := 37) (Nat.le_of_ble_eq_true rfl) rfl) (oRfK hK rfl) ?_
      refine oe_iload_n (pc := 18) d_X5_keepLeast_18 rfl ?_
      obtain ⟨i3, h⟩ := oIx_some h
      refine oe_iald (pc := 19) d_X5_keepLeast_19 (oLt hK (a := 39) (Nat.le_of_ble_eq_true rfl)) (oSha hK (a := 39) (Nat.le_of_ble_eq_true rfl) rfl) i3 ?_
      refine oe_mmax (pc := 20) d_X5_keepLeast_20 mm_X5_36 (by omega) (Nat.le_of_ble_eq_true rfl) ?_
      refine oe_istore_n (pc := 23) (L2 := [_, _, _, _]) d_X5_keepLeast_23 rfl rfl (Nat.le_of_ble_eq_true rfl) rfl ?_
      refine oe_iinc (pc := 24) (v := (p3 + 1)) (L2 := [_, _, _, _]) d_X5_keepLeast_24 rfl rfl rfl (Nat.le_of_ble_eq_true rfl) rfl ?_
      refine oe_goto (pc := 27) (tgt := 4) d_X5_keepLeast_27 (by decide) ?_
      exact hr4 _ _ _ _ _ _ h
theorem v_X5_keepLeast_4 {X : oX} {d N : Nat} {K : oK}  {p1 : Int32} {p2 : Int32} {p3 : Int32} {M : oM} {v : Unit} {M' : oM}  (hd : 1 ≤ d) (hK : oSR K)   (h : f_X5_keepLeast_4 N K  N p1 p2 p3 M = some (v, M')) : oEv X d J_X5_keepLeast 4 [some (.ref 37), some (.int p1), some (.int p2), some (.int p3)] [] K M none K M' := v_X5_keepLeast_4_L hd hK  N p1 p2 p3 M v M'   h
def f_X5_keepLeast (N : Nat) (K : oK) (p1 : Int32) (M : oM) : Option (Unit × oM) :=
  (f_X5_keepLeast_4 N K  N p1 0 0 M)
set_option maxRecDepth 20000 in
theorem v_X5_keepLeast {X : oX} {N : Nat} {K : oK} {p1 : Int32} {M : oM} {v : Unit} {M' : oM} (hK : oSR K)  (h : f_X5_keepLeast N K p1 M = some (v, M')) : oMet X 1 J_X5_keepLeast [(.ref 37), (.int p1)] K M none K M' := by
  unfold f_X5_keepLeast at h
  refine oMet_of (L := [some (.ref 37), some (.int p1), none, none]) jJ_X5_keepLeast.1 rfl (Nat.le_of_ble_eq_true rfl) rfl (Nat.le_refl _) (Nat.le_refl _) ?_
  have hd : 1 ≤ 1 := Nat.le_refl _
  refine oe_iconst (pc := 0) (v := 0) d_X5_keepLeast_0 rfl ?_
  refine oe_istore_n (pc := 1) (L2 := [_, _, _, _]) d_X5_keepLeast_1 rfl rfl (Nat.le_of_ble_eq_true rfl) rfl ?_
  refine oe_iconst (pc := 2) (v := 0) d_X5_keepLeast_2 rfl ?_
  refine oe_istore_n (pc := 3) (L2 := [_, _, _, _]) d_X5_keepLeast_3 rfl rfl (Nat.le_of_ble_eq_true rfl) rfl ?_
  exact v_X5_keepLeast_4 hd hK   h
theorem d_X5_give_0 : decode J_X5_give.2.1 0 = .ok (.iload_n 2, 1) := by decide +kernel
theorem d_X5_give_1 : decode J_X5_give.2.1 1 = .ok (.aload_n 0, 1) := by decide +kernel
theorem d_X5_give_2 : decode J_X5_give.2.1 2 = .ok (.getfield 18, 3) := by decide +kernel
theorem d_X5_give_5 : decode J_X5_give.2.1 5 = .ok (.if_icmp .ge 9, 3) := by decide +kernel
theorem d_X5_give_8 : decode J_X5_give.2.1 8 = .ok (.iload_n 2, 1) := by decide +kernel
theorem d_X5_give_9 : decode J_X5_give.2.1 9 = .ok (.bipush 8, 2) := by decide +kernel
theorem d_X5_give_11 : decode J_X5_give.2.1 11 = .ok (.if_icmp .lt 10, 3) := by decide +kernel
theorem d_X5_give_14 : decode J_X5_give.2.1 14 = .ok (.aload_n 0, 1) := by decide +kernel
theorem d_X5_give_15 : decode J_X5_give.2.1 15 = .ok (.iload 4, 2) := by decide +kernel
theorem d_X5_give_17 : decode J_X5_give.2.1 17 = .ok (.invokevirtual 32, 3) := by decide +kernel
theorem d_X5_give_20 : decode J_X5_give.2.1 20 = .ok (.return_, 1) := by decide +kernel
theorem d_X5_give_21 : decode J_X5_give.2.1 21 = .ok (.aload_n 0, 1) := by decide +kernel
theorem d_X5_give_22 : decode J_X5_give.2.1 22 = .ok (.getfield 11, 3) := by decide +kernel
theorem d_X5_give_25 : decode J_X5_give.2.1 25 = .ok (.iload_n 2, 1) := by decide +kernel
theorem d_X5_give_26 : decode J_X5_give.2.1 26 = .ok (.iaload, 1) := by decide +kernel
theorem d_X5_give_27 : decode J_X5_give.2.1 27 = .ok (.istore 5, 2) := by decide +kernel
theorem d_X5_give_29 : decode J_X5_give.2.1 29 = .ok (.iconst 0, 1) := by decide +kernel
theorem d_X5_give_30 : decode J_X5_give.2.1 30 = .ok (.istore 6, 2) := by decide +kernel
theorem d_X5_give_32 : decode J_X5_give.2.1 32 = .ok (.iload 6, 2) := by decide +kernel
theorem d_X5_give_34 : decode J_X5_give.2.1 34 = .ok (.iload_n 1, 1) := by decide +kernel
theorem d_X5_give_35 : decode J_X5_give.2.1 35 = .ok (.if_icmp .ge 86, 3) := by decide +kernel
theorem d_X5_give_38 : decode J_X5_give.2.1 38 = .ok (.iload 6, 2) := by decide +kernel
theorem d_X5_give_40 : decode J_X5_give.2.1 40 = .ok (.iload_n 3, 1) := by decide +kernel
theorem d_X5_give_41 : decode J_X5_give.2.1 41 = .ok (.if_icmp .gt 80, 3) := by decide +kernel
theorem d_X5_give_44 : decode J_X5_give.2.1 44 = .ok (.iload 6, 2) := by decide +kernel
theorem d_X5_give_46 : decode J_X5_give.2.1 46 = .ok (.iconst 4, 1) := by decide +kernel
theorem d_X5_give_47 : decode J_X5_give.2.1 47 = .ok (.if_icmp .ge 74, 3) := by decide +kernel
theorem d_X5_give_50 : decode J_X5_give.2.1 50 = .ok (.aload_n 0, 1) := by decide +kernel
theorem d_X5_give_51 : decode J_X5_give.2.1 51 = .ok (.getfield 15, 3) := by decide +kernel
theorem d_X5_give_54 : decode J_X5_give.2.1 54 = .ok (.iload 6, 2) := by decide +kernel
theorem d_X5_give_56 : decode J_X5_give.2.1 56 = .ok (.iaload, 1) := by decide +kernel
theorem d_X5_give_57 : decode J_X5_give.2.1 57 = .ok (.iload 5, 2) := by decide +kernel
theorem d_X5_give_59 : decode J_X5_give.2.1 59 = .ok (.iadd, 1) := by decide +kernel
theorem d_X5_give_60 : decode J_X5_give.2.1 60 = .ok (.aload_n 0, 1) := by decide +kernel
theorem d_X5_give_61 : decode J_X5_give.2.1 61 = .ok (.getfield 22, 3) := by decide +kernel
theorem d_X5_give_64 : decode J_X5_give.2.1 64 = .ok (.if_icmp .ge 51, 3) := by decide +kernel
theorem d_X5_give_67 : decode J_X5_give.2.1 67 = .ok (.aload_n 0, 1) := by decide +kernel
theorem d_X5_give_68 : decode J_X5_give.2.1 68 = .ok (.getfield 15, 3) := by decide +kernel
theorem d_X5_give_71 : decode J_X5_give.2.1 71 = .ok (.iload 6, 2) := by decide +kernel
theorem d_X5_give_73 : decode J_X5_give.2.1 73 = .ok (.dup2, 1) := by decide +kernel
theorem d_X5_give_74 : decode J_X5_give.2.1 74 = .ok (.iaload, 1) := by decide +kernel
theorem d_X5_give_75 : decode J_X5_give.2.1 75 = .ok (.iload 5, 2) := by decide +kernel
theorem d_X5_give_77 : decode J_X5_give.2.1 77 = .ok (.iadd, 1) := by decide +kernel
theorem d_X5_give_78 : decode J_X5_give.2.1 78 = .ok (.iastore, 1) := by decide +kernel
theorem d_X5_give_79 : decode J_X5_give.2.1 79 = .ok (.aload_n 0, 1) := by decide +kernel
theorem d_X5_give_80 : decode J_X5_give.2.1 80 = .ok (.iload_n 1, 1) := by decide +kernel
theorem d_X5_give_81 : decode J_X5_give.2.1 81 = .ok (.iload_n 2, 1) := by decide +kernel
theorem d_X5_give_82 : decode J_X5_give.2.1 82 = .ok (.iconst 1, 1) := by decide +kernel
theorem d_X5_give_83 : decode J_X5_give.2.1 83 = .ok (.iadd, 1) := by decide +kernel
theorem d_X5_give_84 : decode J_X5_give.2.1 84 = .ok (.iload_n 3, 1) := by decide +kernel
theorem d_X5_give_85 : decode J_X5_give.2.1 85 = .ok (.iload 6, 2) := by decide +kernel
theorem d_X5_give_87 : decode J_X5_give.2.1 87 = .ok (.iconst 1, 1) := by decide +kernel
theorem d_X5_give_88 : decode J_X5_give.2.1 88 = .ok (.iadd, 1) := by decide +kernel
theorem d_X5_give_89 : decode J_X5_give.2.1 89 = .ok (.invokestatic 36, 3) := by decide +kernel
theorem d_X5_give_92 : decode J_X5_give.2.1 92 = .ok (.iload 4, 2) := by decide +kernel
theorem d_X5_give_94 : decode J_X5_give.2.1 94 = .ok (.bipush 10, 2) := by decide +kernel
theorem d_X5_give_96 : decode J_X5_give.2.1 96 = .ok (.imul, 1) := by decide +kernel
theorem d_X5_give_97 : decode J_X5_give.2.1 97 = .ok (.iload 6, 2) := by decide +kernel
theorem d_X5_give_99 : decode J_X5_give.2.1 99 = .ok (.iadd, 1) := by decide +kernel
theorem d_X5_give_100 : decode J_X5_give.2.1 100 = .ok (.invokestatic 28, 3) := by decide +kernel
theorem d_X5_give_103 : decode J_X5_give.2.1 103 = .ok (.aload_n 0, 1) := by decide +kernel
theorem d_X5_give_104 : decode J_X5_give.2.1 104 = .ok (.getfield 15, 3) := by decide +kernel
theorem d_X5_give_107 : decode J_X5_give.2.1 107 = .ok (.iload 6, 2) := by decide +kernel
theorem d_X5_give_109 : decode J_X5_give.2.1 109 = .ok (.dup2, 1) := by decide +kernel
theorem d_X5_give_110 : decode J_X5_give.2.1 110 = .ok (.iaload, 1) := by decide +kernel
theorem d_X5_give_111 : decode J_X5_give.2.1 111 = .ok (.iload 5, 2) := by decide +kernel
theorem d_X5_give_113 : decode J_X5_give.2.1 113 = .ok (.isub, 1) := by decide +kernel
theorem d_X5_give_114 : decode J_X5_give.2.1 114 = .ok (.iastore, 1) := by decide +kernel
theorem d_X5_give_115 : decode J_X5_give.2.1 115 = .ok (.iinc 6 1, 3) := by decide +kernel
theorem d_X5_give_118 : decode J_X5_give.2.1 118 = .ok (.goto (-86), 3) := by decide +kernel
theorem d_X5_give_121 : decode J_X5_give.2.1 121 = .ok (.return_, 1) := by decide +kernel
def f_X5_give_14 (N : Nat) (rS : (Int32 → Int32 → Int32 → Int32 → oM → Option (Unit × oM))) (K : oK)  (p4 : Int32) (M : oM) : Option (Unit × oM) :=
  oB2 (f_X5_keepLeast N K p4 M) (fun v2 M3 => some ((), M3))
set_option maxRecDepth 20000 in
theorem v_X5_give_14 {X : oX} {d N : Nat} {rS : (Int32 → Int32 → Int32 → Int32 → oM → Option (Unit × oM))} {K : oK}  {p4 : Int32} {M : oM} {v : Unit} {M' : oM}  (hd : 2 ≤ d) (hK : oSR K) (hS : ∃ d', d' < d ∧ ∀ (p1 : Int32) (p2 : Int32) (p3 : Int32) (p4 : Int32) (M : oM) (v : Unit) (M' : oM) , rS p1 p2 p3 p4 M = some (v, M') → oMet X d' J_X5_give [(.ref 37), (.int p1), (.int p2), (.int p3), (.int p4)] K M none K M')   (h : f_X5_give_14 N rS K  p4 M = some (v, M')) : oEv X d J_X5_give 14 [some (.ref 37), none, none, none, some (.int p4), none, none] [] K M none K M' := by
  unfold f_X5_give_14 at h
  refine oe_aload_n (pc := 14) d_X5_give_14 rfl ?_
  refine oe_iload (pc := 15) d_X5_give_15 rfl ?_
  obtain ⟨v2, M3, q4, h⟩ := oB2_some h
  refine oe_callV (pc := 17) (ci := 5) d_X5_give_17 (v_X5_keepLeast hK  q4) (by omega) ml_X5_32 jJ_X5_keepLeast rfl rfl (oLt hK (a := 37) (Nat.le_of_ble_eq_true rfl)) (oSho hK (a := 37) (Nat.le_of_ble_eq_true rfl) rfl) ock5 rfl (Nat.le_of_ble_eq_true rfl) ⟨Nat.le_refl _, Nat.le_refl _⟩ ⟨Nat.le_refl _, Nat.le_refl _⟩ ?_
  obtain ⟨rfl, rfl⟩ := oRes h
  exact oe_vret (pc := 20) d_X5_give_20 rfl
def f_X5_give_115 (N : Nat) (rS : (Int32 → Int32 → Int32 → Int32 → oM → Option (Unit × oM))) (K : oK) (r32 : (Int32 → Int32 → Int32 → Int32 → Int32 → Int32 → oM → Option (Unit × oM))) (p1 : Int32) (p2 : Int32) (p3 : Int32) (p4 : Int32) (p5 : Int32) (p6 : Int32) (M : oM) : Option (Unit × oM) :=
  (r32 p1 p2 p3 p4 p5 (p6 + 1) M)
set_option maxRecDepth 20000 in
theorem v_X5_give_115 {X : oX} {d N : Nat} {rS : (Int32 → Int32 → Int32 → Int32 → oM → Option (Unit × oM))} {K : oK} {r32 : (Int32 → Int32 → Int32 → Int32 → Int32 → Int32 → oM → Option (Unit × oM))} {p1 : Int32} {p2 : Int32} {p3 : Int32} {p4 : Int32} {p5 : Int32} {p6 : Int32} {M : oM} {v : Unit} {M' : oM}  (hd : 2 ≤ d) (hK : oSR K) (hS : ∃ d', d' < d ∧ ∀ (p1 : Int32) (p2 : Int32) (p3 : Int32) (p4 : Int32) (M : oM) (v : Unit) (M' : oM) , rS p1 p2 p3 p4 M = some (v, M') → oMet X d' J_X5_give [(.ref 37), (.int p1), (.int p2), (.int p3), (.int p4)] K M none K M')  (hr32 : ∀ (p1 : Int32) (p2 : Int32) (p3 : Int32) (p4 : Int32) (p5 : Int32) (p6 : Int32) (M : oM) (v : Unit) (M' : oM) , r32 p1 p2 p3 p4 p5 p6 M = some (v, M') → oEv X d J_X5_give 32 [some (.ref 37), some (.int p1), some (.int p2), some (.int p3), some (.int p4), some (.int p5), some (.int p6)] [] K M none K M') (h : f_X5_give_115 N rS K r32 p1 p2 p3 p4 p5 p6 M = some (v, M')) : oEv X d J_X5_give 115 [some (.ref 37), some (.int p1), some (.int p2), some (.int p3), some (.int p4), some (.int p5), some (.int p6)] [] K M none K M' := by
  unfold f_X5_give_115 at h
  refine oe_iinc (pc := 115) (v := (p6 + 1)) (L2 := [_, _, _, _, _, _, _]) d_X5_give_115 rfl rfl rfl (Nat.le_of_ble_eq_true rfl) rfl ?_
  refine oe_goto (pc := 118) (tgt := 32) d_X5_give_118 (by decide) ?_
  exact hr32 _ _ _ _ _ _ _ _ _ h
def f_X5_give_32 (N : Nat) (rS : (Int32 → Int32 → Int32 → Int32 → oM → Option (Unit × oM))) (K : oK)  : Nat → Int32 → Int32 → Int32 → Int32 → Int32 → Int32 → oM → Option (Unit × oM)
  | 0, _, _, _, _, _, _, _ => none
  | n + 1, p1, p2, p3, p4, p5, p6, M => (fun r32 => (if p1 ≤ p6 then some ((), M) else (if p3 < p6 then some ((), M) else (if 4 ≤ p6 then some ((), M) else oIx (p6) 4 ((if (M.1 37 3) ≤ ((M.1 39 (p6 : Int32).toNatClampNeg) + p5) then (f_X5_give_115 N rS K r32 p1 p2 p3 p4 p5 p6 M) else oIx (p6) 4 (oIx (p6) 4 (oB2 (rS p1 (p2 + 1) (if p3 < (p6 + 1) then (p6 + 1) else p3) ((p4 * 10) + p6) (oUp M 39 (p6 : Int32).toNatClampNeg ((M.1 39 (p6 : Int32).toNatClampNeg) + p5))) (fun v14 M15 => oIx (p6) 4 (oIx (p6) 4 ((f_X5_give_115 N rS K r32 p1 p2 p3 p4 p5 p6 (oUp M15 39 (p6 : Int32).toNatClampNeg ((M15.1 39 (p6 : Int32).toNatClampNeg) - p5)))))))))))))) (f_X5_give_32 N rS K  n)
set_option maxRecDepth 20000 in
theorem v_X5_give_32_L {X : oX} {d N : Nat} {rS : (Int32 → Int32 → Int32 → Int32 → oM → Option (Unit × oM))} {K : oK}  (hd : 2 ≤ d) (hK : oSR K) (hS : ∃ d', d' < d ∧ ∀ (p1 : Int32) (p2 : Int32) (p3 : Int32) (p4 : Int32) (M : oM) (v : Unit) (M' : oM) , rS p1 p2 p3 p4 M = some (v, M') → oMet X d' J_X5_give [(.ref 37), (.int p1), (.int p2), (.int p3), (.int p4)] K M none K M')  : ∀ (n : Nat) (p1 : Int32) (p2 : Int32) (p3 : Int32) (p4 : Int32) (p5 : Int32) (p6 : Int32) (M : oM) (v : Unit) (M' : oM)  , f_X5_give_32 N rS K  n p1 p2 p3 p4 p5 p6 M = some (v, M') → oEv X d J_X5_give 32 [some (.ref 37), some (.int p1), some (.int p2), some (.int p3), some (.int p4), some (.int p5), some (.int p6)] [] K M none K M' := by
  intro n
  induction n with
  | zero =>
    intro p1 p2 p3 p4 p5 p6 M v M'   h
    cases h
  | succ n hr32 =>
    intro p1 p2 p3 p4 p5 p6 M v M'   h
    refine oe_iload (pc := 32) d_X5_give_32 rfl ?_
    refine oe_iload_n (pc := 34) d_X5_give_34 rfl ?_
    refine oe_icmp_ge (pc := 35) (tgt := 121) d_X5_give_35 (by decide) (fun c7 => ?_) (fun c7 => ?_)
    · replace h := (if_pos c7).symm.trans h
      obtain ⟨rfl, rfl⟩ := oRes h
      exact oe_vret (pc := 121) d_X5_give_121 rfl
    · replace h := (if_neg c7).symm.trans h
      refine oe_iload (pc := 38) d_X5_give_38 rfl ?_
      refine oe_iload_n (pc := 40) d_X5_give_40 rfl ?_
      refine oe_icmp_gt (pc := 41) (tgt := 121) d_X5_give_41 (by decide) (fun c8 => ?_) (fun c8 => ?_)
      · replace h := (if_pos c8).symm.trans h
        obtain ⟨rfl, rfl⟩ := oRes h
        exact oe_vret (pc := 121) d_X5_give_121 rfl
      · replace h := (if_neg c8).symm.trans h
        refine oe_iload (pc := 44) d_X5_give_44 rfl ?_
        refine oe_iconst (pc := 46) (v := 4) d_X5_give_46 rfl ?_
        refine oe_icmp_ge (pc := 47) (tgt := 121) d_X5_give_47 (by decide) (fun c9 => ?_) (fun c9 => ?_)
        · replace h := (if_pos c9).symm.trans h
          obtain ⟨rfl, rfl⟩ := oRes h
          exact oe_vret (pc := 121) d_X5_give_121 rfl
        · replace h := (if_neg c9).symm.trans h
          refine oe_aload_n (pc := 50) d_X5_give_50 rfl ?_
          refine oe_getr (pc := 51) d_X5_give_51 fl_X5_15 ock5 (k := 1) (b := 39) (Nat.le_of_ble_eq_true rfl) (by decide) (oLt hK (a := 37) (Nat.le_of_ble_eq_true rfl)) (oSho hK (a := 37) (Nat.le_of_ble_eq_true rfl) rfl) (oRfK hK rfl) ?_
          refine oe_iload (pc := 54) d_X5_give_54 rfl ?_
          obtain ⟨i10, h⟩ := oIx_some h
          refine oe_iald (pc := 56) d_X5_give_56 (oLt hK (a := 39) (Nat.le_of_ble_eq_true rfl)) (oSha hK (a := 39) (Nat.le_of_ble_eq_true rfl) rfl) i10 ?_
          refine oe_iload (pc := 57) d_X5_give_57 rfl ?_
          refine oe_iadd (pc := 59) d_X5_give_59 ?_
          refine oe_aload_n (pc := 60) d_X5_give_60 rfl ?_
          refine oe_getf (pc := 61) d_X5_give_61 fl_X5_22 ock5 (k := 3) (Nat.le_of_ble_eq_true rfl) rfl (oLt hK (a := 37) (Nat.le_of_ble_eq_true rfl)) (oSho hK (a := 37) (Nat.le_of_ble_eq_true rfl) rfl) ?_
          refine oe_icmp_ge (pc := 64) (tgt := 115) d_X5_give_64 (by decide) (fun c11 => ?_) (fun c11 => ?_)
          · replace h := (if_pos c11).symm.trans h
            exact v_X5_give_115 hd hK hS  hr32 h
          · replace h := (if_neg c11).symm.trans h
            refine oe_aload_n (pc := 67) d_X5_give_67 rfl ?_
            refine oe_getr (pc := 68) d_X5_give_68 fl_X5_15 ock5 (k := 1) (b := 39) (Nat.le_of_ble_eq_true rfl) (by decide) (oLt hK (a := 37) (Nat.le_of_ble_eq_true rfl)) (oSho hK (a := 37) (Nat.le_of_ble_eq_true rfl) rfl) (oRfK hK rfl) ?_
            refine oe_iload (pc := 71) d_X5_give_71 rfl ?_
            refine oe_dup2 (pc := 73) d_X5_give_73 rfl rfl ?_
            obtain ⟨i12, h⟩ := oIx_some h
            refine oe_iald (pc := 74) d_X5_give_74 (oLt hK (a := 39) (Nat.le_of_ble_eq_true rfl)) (oSha hK (a := 39) (Nat.le_of_ble_eq_true rfl) rfl) i12 ?_
            refine oe_iload (pc := 75) d_X5_give_75 rfl ?_
            refine oe_iadd (pc := 77) d_X5_give_77 ?_
            obtain ⟨i13, h⟩ := oIx_some h
            refine oe_iast (pc := 78) d_X5_give_78 (oLt hK (a := 39) (Nat.le_of_ble_eq_true rfl)) (oSha hK (a := 39) (Nat.le_of_ble_eq_true rfl) rfl) i13 ?_
            refine oe_aload_n (pc := 79) d_X5_give_79 rfl ?_
            refine oe_iload_n (pc := 80) d_X5_give_80 rfl ?_
            refine oe_iload_n (pc := 81) d_X5_give_81 rfl ?_
            refine oe_iconst (pc := 82) (v := 1) d_X5_give_82 rfl ?_
            refine oe_iadd (pc := 83) d_X5_give_83 ?_
            refine oe_iload_n (pc := 84) d_X5_give_84 rfl ?_
            refine oe_iload (pc := 85) d_X5_give_85 rfl ?_
            refine oe_iconst (pc := 87) (v := 1) d_X5_give_87 rfl ?_
            refine oe_iadd (pc := 88) d_X5_give_88 ?_
            refine oe_mmax (pc := 89) d_X5_give_89 mm_X5_36 (by omega) (Nat.le_of_ble_eq_true rfl) ?_
            refine oe_iload (pc := 92) d_X5_give_92 rfl ?_
            refine oe_bipush (pc := 94) (v := 10) d_X5_give_94 rfl ?_
            refine oe_imul (pc := 96) d_X5_give_96 ?_
            refine oe_iload (pc := 97) d_X5_give_97 rfl ?_
            refine oe_iadd (pc := 99) d_X5_give_99 ?_
            obtain ⟨v14, M15, q16, h⟩ := oB2_some h
            obtain ⟨d', hdl, hS9⟩ := id hS
            refine oe_callS (pc := 100) d_X5_give_100 (hS9 _ _ _ _ _ _ _  q16) hdl ml_X5_28 jJ_X5_give rfl rfl (Nat.le_of_ble_eq_true rfl) ⟨Nat.le_refl _, Nat.le_refl _⟩ ⟨Nat.le_refl _, Nat.le_refl _⟩ ?_
            refine oe_aload_n (pc := 103) d_X5_give_103 rfl ?_
            refine oe_getr (pc := 104) d_X5_give_104 fl_X5_15 ock5 (k := 1) (b := 39) (Nat.le_of_ble_eq_true rfl) (by decide) (oLt hK (a := 37) (Nat.le_of_ble_eq_true rfl)) (oSho hK (a := 37) (Nat.le_of_ble_eq_true rfl) rfl) (oRfK hK rfl) ?_
            refine oe_iload (pc := 107) d_X5_give_107 rfl ?_
            refine oe_dup2 (pc := 109) d_X5_give_109 rfl rfl ?_
            obtain ⟨i17, h⟩ := oIx_some h
            refine oe_iald (pc := 110) d_X5_give_110 (oLt hK (a := 39) (Nat.le_of_ble_eq_true rfl)) (oSha hK (a := 39) (Nat.le_of_ble_eq_true rfl) rfl) i17 ?_
            refine oe_iload (pc := 111) d_X5_give_111 rfl ?_
            refine oe_isub (pc := 113) d_X5_give_113 ?_
            obtain ⟨i18, h⟩ := oIx_some h
            refine oe_iast (pc := 114) d_X5_give_114 (oLt hK (a := 39) (Nat.le_of_ble_eq_true rfl)) (oSha hK (a := 39) (Nat.le_of_ble_eq_true rfl) rfl) i18 ?_
            exact v_X5_give_115 hd hK hS  hr32 h
theorem v_X5_give_32 {X : oX} {d N : Nat} {rS : (Int32 → Int32 → Int32 → Int32 → oM → Option (Unit × oM))} {K : oK}  {p1 : Int32} {p2 : Int32} {p3 : Int32} {p4 : Int32} {p5 : Int32} {p6 : Int32} {M : oM} {v : Unit} {M' : oM}  (hd : 2 ≤ d) (hK : oSR K) (hS : ∃ d', d' < d ∧ ∀ (p1 : Int32) (p2 : Int32) (p3 : Int32) (p4 : Int32) (M : oM) (v : Unit) (M' : oM) , rS p1 p2 p3 p4 M = some (v, M') → oMet X d' J_X5_give [(.ref 37), (.int p1), (.int p2), (.int p3), (.int p4)] K M none K M')   (h : f_X5_give_32 N rS K  N p1 p2 p3 p4 p5 p6 M = some (v, M')) : oEv X d J_X5_give 32 [some (.ref 37), some (.int p1), some (.int p2), some (.int p3), some (.int p4), some (.int p5), some (.int p6)] [] K M none K M' := v_X5_give_32_L hd hK hS  N p1 p2 p3 p4 p5 p6 M v M'   h
def f_X5_give (N : Nat) (K : oK) : Nat → Int32 → Int32 → Int32 → Int32 → oM → Option (Unit × oM)
  | 0, _, _, _, _, _ => none
  | n + 1, p1, p2, p3, p4, M => (fun rS => (if (M.1 37 2) ≤ p2 then (f_X5_give_14 N rS K  p4 M) else (if p2 < 8 then oIx (p2) 8 ((f_X5_give_32 N rS K  N p1 p2 p3 p4 (M.1 38 (p2 : Int32).toNatClampNeg) 0 M)) else (f_X5_give_14 N rS K  p4 M)))) (f_X5_give N K n)
set_option maxRecDepth 20000 in
theorem v_X5_give_R {X : oX} {N : Nat} {K : oK} (hK : oSR K) : ∀ (n : Nat) (p1 : Int32) (p2 : Int32) (p3 : Int32) (p4 : Int32) (M : oM) (v : Unit) (M' : oM) , f_X5_give N K n p1 p2 p3 p4 M = some (v, M') → oMet X (2 + n) J_X5_give [(.ref 37), (.int p1), (.int p2), (.int p3), (.int p4)] K M none K M' := by
  intro n
  induction n with
  | zero =>
    intro p1 p2 p3 p4 M v M'  h
    cases h
  | succ n hS0 =>
    intro p1 p2 p3 p4 M v M'  h
    refine oMet_of (L := [some (.ref 37), some (.int p1), some (.int p2), some (.int p3), some (.int p4), none, none]) jJ_X5_give.1 rfl (Nat.le_of_ble_eq_true rfl) rfl (Nat.le_refl _) (Nat.le_refl _) ?_
    have hd : 2 ≤ 2 + (n + 1) := Nat.le_add_right _ _
    generalize hde : 2 + (n + 1) = d at hd ⊢
    have hS : ∃ d', d' < d ∧ ∀ (p1 : Int32) (p2 : Int32) (p3 : Int32) (p4 : Int32) (M : oM) (v : Unit) (M' : oM) , f_X5_give N K n p1 p2 p3 p4 M = some (v, M') → oMet X d' J_X5_give [(.ref 37), (.int p1), (.int p2), (.int p3), (.int p4)] K M none K M' := ⟨2 + n, by omega, hS0⟩
    refine oe_iload_n (pc := 0) d_X5_give_0 rfl ?_
    refine oe_aload_n (pc := 1) d_X5_give_1 rfl ?_
    refine oe_getf (pc := 2) d_X5_give_2 fl_X5_18 ock5 (k := 2) (Nat.le_of_ble_eq_true rfl) rfl (oLt hK (a := 37) (Nat.le_of_ble_eq_true rfl)) (oSho hK (a := 37) (Nat.le_of_ble_eq_true rfl) rfl) ?_
    refine oe_icmp_ge (pc := 5) (tgt := 14) d_X5_give_5 (by decide) (fun c1 => ?_) (fun c1 => ?_)
    · replace h := (if_pos c1).symm.trans h
      refine oEv.fg [true, false, false, false, true, false, false] ?_
      exact v_X5_give_14 hd hK hS   h
    · replace h := (if_neg c1).symm.trans h
      refine oe_iload_n (pc := 8) d_X5_give_8 rfl ?_
      refine oe_bipush (pc := 9) (v := 8) d_X5_give_9 rfl ?_
      refine oe_icmp_lt (pc := 11) (tgt := 21) d_X5_give_11 (by decide) (fun c5 => ?_) (fun c5 => ?_)
      · replace h := (if_pos c5).symm.trans h
        refine oe_aload_n (pc := 21) d_X5_give_21 rfl ?_
        refine oe_getr (pc := 22) d_X5_give_22 fl_X5_11 ock5 (k := 0) (b := 38) (Nat.le_of_ble_eq_true rfl) (by decide) (oLt hK (a := 37) (Nat.le_of_ble_eq_true rfl)) (oSho hK (a := 37) (Nat.le_of_ble_eq_true rfl) rfl) (oRfK hK rfl) ?_
        refine oe_iload_n (pc := 25) d_X5_give_25 rfl ?_
        obtain ⟨i6, h⟩ := oIx_some h
        refine oe_iald (pc := 26) d_X5_give_26 (oLt hK (a := 38) (Nat.le_of_ble_eq_true rfl)) (oSha hK (a := 38) (Nat.le_of_ble_eq_true rfl) rfl) i6 ?_
        refine oe_istore (pc := 27) (L2 := [_, _, _, _, _, _, _]) d_X5_give_27 rfl (Nat.le_of_ble_eq_true rfl) rfl ?_
        refine oe_iconst (pc := 29) (v := 0) d_X5_give_29 rfl ?_
        refine oe_istore (pc := 30) (L2 := [_, _, _, _, _, _, _]) d_X5_give_30 rfl (Nat.le_of_ble_eq_true rfl) rfl ?_
        exact v_X5_give_32 hd hK hS   h
      · replace h := (if_neg c5).symm.trans h
        refine oEv.fg [true, false, false, false, true, false, false] ?_
        exact v_X5_give_14 hd hK hS   h
theorem d_X5_carry_0 : decode J_X5_carry.2.1 0 = .ok (.aload_n 0, 1) := by decide +kernel
theorem d_X5_carry_1 : decode J_X5_carry.2.1 1 = .ok (.sipush 1000, 3) := by decide +kernel
theorem d_X5_carry_4 : decode J_X5_carry.2.1 4 = .ok (.putfield 22, 3) := by decide +kernel
theorem d_X5_carry_7 : decode J_X5_carry.2.1 7 = .ok (.aload_n 0, 1) := by decide +kernel
theorem d_X5_carry_8 : decode J_X5_carry.2.1 8 = .ok (.iconst 0, 1) := by decide +kernel
theorem d_X5_carry_9 : decode J_X5_carry.2.1 9 = .ok (.putfield 25, 3) := by decide +kernel
theorem d_X5_carry_12 : decode J_X5_carry.2.1 12 = .ok (.aload_n 0, 1) := by decide +kernel
theorem d_X5_carry_13 : decode J_X5_carry.2.1 13 = .ok (.iload_n 1, 1) := by decide +kernel
theorem d_X5_carry_14 : decode J_X5_carry.2.1 14 = .ok (.iconst 0, 1) := by decide +kernel
theorem d_X5_carry_15 : decode J_X5_carry.2.1 15 = .ok (.iconst 0, 1) := by decide +kernel
theorem d_X5_carry_16 : decode J_X5_carry.2.1 16 = .ok (.iconst 0, 1) := by decide +kernel
theorem d_X5_carry_17 : decode J_X5_carry.2.1 17 = .ok (.invokestatic 28, 3) := by decide +kernel
theorem d_X5_carry_20 : decode J_X5_carry.2.1 20 = .ok (.return_, 1) := by decide +kernel
def f_X5_carry (N : Nat) (K : oK) (p1 : Int32) (M : oM) : Option (Unit × oM) :=
  oB2 (f_X5_give N K 10 p1 (0 : Int32) (0 : Int32) (0 : Int32) (oUp (oUp M 37 3 (1000 : Int32)) 37 4 (0 : Int32))) (fun v1 M2 => some ((), M2))
set_option maxRecDepth 20000 in
theorem v_X5_carry {X : oX} {N : Nat} {K : oK} {p1 : Int32} {M : oM} {v : Unit} {M' : oM} (hK : oSR K)  (h : f_X5_carry N K p1 M = some (v, M')) : oMet X 13 J_X5_carry [(.ref 37), (.int p1)] K M none K M' := by
  unfold f_X5_carry at h
  refine oMet_of (L := [some (.ref 37), some (.int p1)]) jJ_X5_carry.1 rfl (Nat.le_of_ble_eq_true rfl) rfl (Nat.le_refl _) (Nat.le_refl _) ?_
  have hd : 13 ≤ 13 := Nat.le_refl _
  refine oe_aload_n (pc := 0) d_X5_carry_0 rfl ?_
  refine oe_sipush (pc := 1) (v := 1000) d_X5_carry_1 rfl ?_
  refine oe_putf (pc := 4) d_X5_carry_4 fl_X5_22 ock5 (k := 3) (Nat.le_of_ble_eq_true rfl) rfl rfl (oLt hK (a := 37) (Nat.le_of_ble_eq_true rfl)) (oSho hK (a := 37) (Nat.le_of_ble_eq_true rfl) rfl) ?_
  refine oe_aload_n (pc := 7) d_X5_carry_7 rfl ?_
  refine oe_iconst (pc := 8) (v := 0) d_X5_carry_8 rfl ?_
  refine oe_putf (pc := 9) d_X5_carry_9 fl_X5_25 ock5 (k := 4) (Nat.le_of_ble_eq_true rfl) rfl rfl (oLt hK (a := 37) (Nat.le_of_ble_eq_true rfl)) (oSho hK (a := 37) (Nat.le_of_ble_eq_true rfl) rfl) ?_
  refine oe_aload_n (pc := 12) d_X5_carry_12 rfl ?_
  refine oe_iload_n (pc := 13) d_X5_carry_13 rfl ?_
  refine oe_iconst (pc := 14) (v := 0) d_X5_carry_14 rfl ?_
  refine oe_iconst (pc := 15) (v := 0) d_X5_carry_15 rfl ?_
  refine oe_iconst (pc := 16) (v := 0) d_X5_carry_16 rfl ?_
  obtain ⟨v1, M2, q3, h⟩ := oB2_some h
  refine oe_callS (pc := 17) d_X5_carry_17 (v_X5_give_R hK 10 _ _ _ _ _ _ _  q3) (by omega) ml_X5_28 jJ_X5_give rfl rfl (Nat.le_of_ble_eq_true rfl) ⟨Nat.le_refl _, Nat.le_refl _⟩ ⟨Nat.le_refl _, Nat.le_refl _⟩ ?_
  obtain ⟨rfl, rfl⟩ := oRes h
  exact oe_vret (pc := 20) d_X5_carry_20 rfl
theorem d_X6_isSort_0 : decode J_X6_isSort.2.1 0 = .ok (.aload_n 0, 1) := by decide +kernel
theorem d_X6_isSort_1 : decode J_X6_isSort.2.1 1 = .ok (.iload_n 1, 1) := by decide +kernel
theorem d_X6_isSort_2 : decode J_X6_isSort.2.1 2 = .ok (.invokevirtual 37, 3) := by decide +kernel
theorem d_X6_isSort_5 : decode J_X6_isSort.2.1 5 = .ok (.ifCond .eq 17, 3) := by decide +kernel
theorem d_X6_isSort_8 : decode J_X6_isSort.2.1 8 = .ok (.aload_n 0, 1) := by decide +kernel
theorem d_X6_isSort_9 : decode J_X6_isSort.2.1 9 = .ok (.getfield 9, 3) := by decide +kernel
theorem d_X6_isSort_12 : decode J_X6_isSort.2.1 12 = .ok (.iload_n 1, 1) := by decide +kernel
theorem d_X6_isSort_13 : decode J_X6_isSort.2.1 13 = .ok (.iaload, 1) := by decide +kernel
theorem d_X6_isSort_14 : decode J_X6_isSort.2.1 14 = .ok (.iload_n 2, 1) := by decide +kernel
theorem d_X6_isSort_15 : decode J_X6_isSort.2.1 15 = .ok (.if_icmp .ne 7, 3) := by decide +kernel
theorem d_X6_isSort_18 : decode J_X6_isSort.2.1 18 = .ok (.iconst 1, 1) := by decide +kernel
theorem d_X6_isSort_19 : decode J_X6_isSort.2.1 19 = .ok (.goto 4, 3) := by decide +kernel
theorem d_X6_isSort_22 : decode J_X6_isSort.2.1 22 = .ok (.iconst 0, 1) := by decide +kernel
theorem d_X6_isSort_23 : decode J_X6_isSort.2.1 23 = .ok (.ireturn, 1) := by decide +kernel
def f_X6_isSort (N : Nat) (K : oK) (p0 : Nat) (p1 : Int32) (p2 : Int32) (M : oM) : Option (Bool × oM) :=
  oB2 (f_X6_isPart N K p0 p1 M) (fun v1 M2 => cond v1 (oIx (p1) 24 ((if (M2.1 (p0 + 1) (p1 : Int32).toNatClampNeg) = p2 then some (true, M2) else some (false, M2)))) (some (false, M2)))
set_option maxRecDepth 20000 in
theorem v_X6_isSort {X : oX} {N : Nat} {K : oK} {p0 : Nat} {p1 : Int32} {p2 : Int32} {M : oM} {v : Bool} {M' : oM} (hK : oSR K) (hh_p0 : oLS K p0) (h : f_X6_isSort N K p0 p1 p2 M = some (v, M')) : oMet X 2 J_X6_isSort [(.ref p0), (.int p1), (.int p2)] K M (some (.int (oBi v))) K M' := by
  unfold f_X6_isSort at h
  refine oMet_of (L := [some (.ref p0), some (.int p1), some (.int p2)]) jJ_X6_isSort.1 rfl (Nat.le_of_ble_eq_true rfl) rfl (Nat.le_refl _) (Nat.le_refl _) ?_
  have hd : 2 ≤ 2 := Nat.le_refl _
  refine oe_aload_n (pc := 0) d_X6_isSort_0 rfl ?_
  refine oe_iload_n (pc := 1) d_X6_isSort_1 rfl ?_
  obtain ⟨v1, M2, q3, h⟩ := oB2_some h
  cases v1 with
  | true =>
    replace h := oCt h
    refine oe_callV (pc := 2) (ci := 6) d_X6_isSort_2 (v_X6_isPart hK hh_p0 q3) (by omega) ml_X6_37 jJ_X6_isPart rfl rfl (oLSa hh_p0 (j := 0) (Nat.le_of_ble_eq_true rfl)) (oLSo hh_p0) ock6 rfl (Nat.le_of_ble_eq_true rfl) ⟨Nat.le_refl _, Nat.le_refl _⟩ ⟨Nat.le_refl _, Nat.le_refl _⟩ ?_
    refine oe_if_eq (pc := 5) (tgt := 22) d_X6_isSort_5 (by decide) (fun c => absurd c (by decide)) (fun _ => ?_)
    refine oe_aload_n (pc := 8) d_X6_isSort_8 rfl ?_
    refine oe_getr (pc := 9) d_X6_isSort_9 fl_X6_9 ock6 (k := 3) (b := p0 + 1) (Nat.le_of_ble_eq_true rfl) (by decide) (oLSa hh_p0 (j := 0) (Nat.le_of_ble_eq_true rfl)) (oLSo hh_p0) (oLSf hh_p0 (j := 1) (by decide) (by decide)) ?_
    refine oe_iload_n (pc := 12) d_X6_isSort_12 rfl ?_
    obtain ⟨i4, h⟩ := oIx_some h
    refine oe_iald (pc := 13) d_X6_isSort_13 (oLSa hh_p0 (j := 1) (Nat.le_of_ble_eq_true rfl)) (oLSr hh_p0 (j := 1) (by decide) (Nat.le_of_ble_eq_true rfl)) i4 ?_
    refine oe_iload_n (pc := 14) d_X6_isSort_14 rfl ?_
    refine oe_icmp_ne (pc := 15) (tgt := 22) d_X6_isSort_15 (by decide) (fun c5 => ?_) (fun c5 => ?_)
    · replace h := (if_neg c5).symm.trans h
      refine oe_iconst (pc := 22) (v := 0) d_X6_isSort_22 rfl ?_
      obtain ⟨rfl, rfl⟩ := oRes h
      exact oe_iret (pc := 23) d_X6_isSort_23 ⟨_, rfl, rfl⟩
    · replace h := (if_pos c5).symm.trans h
      refine oe_iconst (pc := 18) (v := 1) d_X6_isSort_18 rfl ?_
      refine oe_goto (pc := 19) (tgt := 23) d_X6_isSort_19 (by decide) ?_
      obtain ⟨rfl, rfl⟩ := oRes h
      exact oe_iret (pc := 23) d_X6_isSort_23 ⟨_, rfl, rfl⟩
  | false =>
    replace h := oCf h
    refine oe_callV (pc := 2) (ci := 6) d_X6_isSort_2 (v_X6_isPart hK hh_p0 q3) (by omega) ml_X6_37 jJ_X6_isPart rfl rfl (oLSa hh_p0 (j := 0) (Nat.le_of_ble_eq_true rfl)) (oLSo hh_p0) ock6 rfl (Nat.le_of_ble_eq_true rfl) ⟨Nat.le_refl _, Nat.le_refl _⟩ ⟨Nat.le_refl _, Nat.le_refl _⟩ ?_
    refine oe_if_eq (pc := 5) (tgt := 22) d_X6_isSort_5 (by decide) (fun _ => ?_) (fun c => absurd (by decide) c)
    refine oe_iconst (pc := 22) (v := 0) d_X6_isSort_22 rfl ?_
    obtain ⟨rfl, rfl⟩ := oRes h
    exact oe_iret (pc := 23) d_X6_isSort_23 ⟨_, rfl, rfl⟩
theorem d_X6_end_0 : decode J_X6_end.2.1 0 = .ok (.aload_n 0, 1) := by decide +kernel
theorem d_X6_end_1 : decode J_X6_end.2.1 1 = .ok (.aload_n 0, 1) := by decide +kernel
theorem d_X6_end_2 : decode J_X6_end.2.1 2 = .ok (.getfield 34, 3) := by decide +kernel
theorem d_X6_end_5 : decode J_X6_end.2.1 5 = .ok (.invokevirtual 41, 3) := by decide +kernel
theorem d_X6_end_8 : decode J_X6_end.2.1 8 = .ok (.ireturn, 1) := by decide +kernel
def f_X6_end (N : Nat) (K : oK) (p0 : Nat) (M : oM) : Option (Int32 × oM) :=
  oB2 (f_X6_pointAhead N K p0 (M.1 p0 7) M) (fun v1 M2 => some (v1, M2))
set_option maxRecDepth 20000 in
theorem v_X6_end {X : oX} {N : Nat} {K : oK} {p0 : Nat} {M : oM} {v : Int32} {M' : oM} (hK : oSR K) (hh_p0 : oLS K p0) (h : f_X6_end N K p0 M = some (v, M')) : oMet X 3 J_X6_end [(.ref p0)] K M (some (.int v)) K M' := by
  unfold f_X6_end at h
  refine oMet_of (L := [some (.ref p0)]) jJ_X6_end.1 rfl (Nat.le_of_ble_eq_true rfl) rfl (Nat.le_refl _) (Nat.le_refl _) ?_
  have hd : 3 ≤ 3 := Nat.le_refl _
  refine oe_aload_n (pc := 0) d_X6_end_0 rfl ?_
  refine oe_aload_n (pc := 1) d_X6_end_1 rfl ?_
  refine oe_getf (pc := 2) d_X6_end_2 fl_X6_34 ock6 (k := 7) (Nat.le_of_ble_eq_true rfl) rfl (oLSa hh_p0 (j := 0) (Nat.le_of_ble_eq_true rfl)) (oLSo hh_p0) ?_
  obtain ⟨v1, M2, q3, h⟩ := oB2_some h
  refine oe_callV (pc := 5) (ci := 6) d_X6_end_5 (v_X6_pointAhead hK hh_p0 q3) (by omega) ml_X6_41 jJ_X6_pointAhead rfl rfl (oLSa hh_p0 (j := 0) (Nat.le_of_ble_eq_true rfl)) (oLSo hh_p0) ock6 rfl (Nat.le_of_ble_eq_true rfl) ⟨Nat.le_refl _, Nat.le_refl _⟩ ⟨Nat.le_refl _, Nat.le_refl _⟩ ?_
  obtain ⟨rfl, rfl⟩ := oRes h
  exact oe_iret (pc := 8) d_X6_end_8 ⟨_, rfl, rfl⟩
theorem d_X6_add_0 : decode J_X6_add.2.1 0 = .ok (.aload_n 0, 1) := by decide +kernel
theorem d_X6_add_1 : decode J_X6_add.2.1 1 = .ok (.getfield 34, 3) := by decide +kernel
theorem d_X6_add_4 : decode J_X6_add.2.1 4 = .ok (.bipush 24, 2) := by decide +kernel
theorem d_X6_add_6 : decode J_X6_add.2.1 6 = .ok (.if_icmp .ge 54, 3) := by decide +kernel
theorem d_X6_add_9 : decode J_X6_add.2.1 9 = .ok (.aload_n 0, 1) := by decide +kernel
theorem d_X6_add_10 : decode J_X6_add.2.1 10 = .ok (.getfield 9, 3) := by decide +kernel
theorem d_X6_add_13 : decode J_X6_add.2.1 13 = .ok (.aload_n 0, 1) := by decide +kernel
theorem d_X6_add_14 : decode J_X6_add.2.1 14 = .ok (.getfield 34, 3) := by decide +kernel
theorem d_X6_add_17 : decode J_X6_add.2.1 17 = .ok (.iload_n 1, 1) := by decide +kernel
theorem d_X6_add_18 : decode J_X6_add.2.1 18 = .ok (.iastore, 1) := by decide +kernel
theorem d_X6_add_19 : decode J_X6_add.2.1 19 = .ok (.aload_n 0, 1) := by decide +kernel
theorem d_X6_add_20 : decode J_X6_add.2.1 20 = .ok (.getfield 15, 3) := by decide +kernel
theorem d_X6_add_23 : decode J_X6_add.2.1 23 = .ok (.aload_n 0, 1) := by decide +kernel
theorem d_X6_add_24 : decode J_X6_add.2.1 24 = .ok (.getfield 34, 3) := by decide +kernel
theorem d_X6_add_27 : decode J_X6_add.2.1 27 = .ok (.iload_n 2, 1) := by decide +kernel
theorem d_X6_add_28 : decode J_X6_add.2.1 28 = .ok (.iastore, 1) := by decide +kernel
theorem d_X6_add_29 : decode J_X6_add.2.1 29 = .ok (.aload_n 0, 1) := by decide +kernel
theorem d_X6_add_30 : decode J_X6_add.2.1 30 = .ok (.getfield 18, 3) := by decide +kernel
theorem d_X6_add_33 : decode J_X6_add.2.1 33 = .ok (.aload_n 0, 1) := by decide +kernel
theorem d_X6_add_34 : decode J_X6_add.2.1 34 = .ok (.getfield 34, 3) := by decide +kernel
theorem d_X6_add_37 : decode J_X6_add.2.1 37 = .ok (.iload_n 3, 1) := by decide +kernel
theorem d_X6_add_38 : decode J_X6_add.2.1 38 = .ok (.iastore, 1) := by decide +kernel
theorem d_X6_add_39 : decode J_X6_add.2.1 39 = .ok (.aload_n 0, 1) := by decide +kernel
theorem d_X6_add_40 : decode J_X6_add.2.1 40 = .ok (.getfield 21, 3) := by decide +kernel
theorem d_X6_add_43 : decode J_X6_add.2.1 43 = .ok (.aload_n 0, 1) := by decide +kernel
theorem d_X6_add_44 : decode J_X6_add.2.1 44 = .ok (.getfield 34, 3) := by decide +kernel
theorem d_X6_add_47 : decode J_X6_add.2.1 47 = .ok (.iload 4, 2) := by decide +kernel
theorem d_X6_add_49 : decode J_X6_add.2.1 49 = .ok (.iastore, 1) := by decide +kernel
theorem d_X6_add_50 : decode J_X6_add.2.1 50 = .ok (.aload_n 0, 1) := by decide +kernel
theorem d_X6_add_51 : decode J_X6_add.2.1 51 = .ok (.dup, 1) := by decide +kernel
theorem d_X6_add_52 : decode J_X6_add.2.1 52 = .ok (.getfield 34, 3) := by decide +kernel
theorem d_X6_add_55 : decode J_X6_add.2.1 55 = .ok (.iconst 1, 1) := by decide +kernel
theorem d_X6_add_56 : decode J_X6_add.2.1 56 = .ok (.iadd, 1) := by decide +kernel
theorem d_X6_add_57 : decode J_X6_add.2.1 57 = .ok (.putfield 34, 3) := by decide +kernel
theorem d_X6_add_60 : decode J_X6_add.2.1 60 = .ok (.return_, 1) := by decide +kernel
def f_X6_add (N : Nat) (K : oK) (p0 : Nat) (p1 : Int32) (p2 : Int32) (p3 : Int32) (p4 : Int32) (M : oM) : Option (Unit × oM) :=
  (if 24 ≤ (M.1 p0 7) then some ((), M) else oIx ((M.1 p0 7)) 24 (oIx (((oUp M (p0 + 1) ((M.1 p0 7) : Int32).toNatClampNeg p1).1 p0 7)) 24 (oIx (((oUp (oUp M (p0 + 1) ((M.1 p0 7) : Int32).toNatClampNeg p1) (p0 + 2) (((oUp M (p0 + 1) ((M.1 p0 7) : Int32).toNatClampNeg p1).1 p0 7) : Int32).toNatClampNeg p2).1 p0 7)) 24 (oIx (((oUp (oUp (oUp M (p0 + 1) ((M.1 p0 7) : Int32).toNatClampNeg p1) (p0 + 2) (((oUp M (p0 + 1) ((M.1 p0 7) : Int32).toNatClampNeg p1).1 p0 7) : Int32).toNatClampNeg p2) (p0 + 3) (((oUp (oUp M (p0 + 1) ((M.1 p0 7) : Int32).toNatClampNeg p1) (p0 + 2) (((oUp M (p0 + 1) ((M.1 p0 7) : Int32).toNatClampNeg p1).1 p0 7) : Int32).toNatClampNeg p2).1 p0 7) : Int32).toNatClampNeg p3).1 p0 7)) 24 (some ((), (oUp (oUp (oUp (oUp (oUp M (p0 + 1) ((M.1 p0 7) : Int32).toNatClampNeg p1) (p0 + 2) (((oUp M (p0 + 1) ((M.1 p0 7) : Int32).toNatClampNeg p1).1 p0 7) : Int32).toNatClampNeg p2) (p0 + 3) (((oUp (oUp M (p0 + 1) ((M.1 p0 7) : Int32).toNatClampNeg p1) (p0 + 2) (((oUp M (p0 + 1) ((M.1 p0 7) : Int32).toNatClampNeg p1).1 p0 7) : Int32).toNatClampNeg p2).1 p0 7) : Int32).toNatClampNeg p3) (p0 + 4) (((oUp (oUp (oUp M (p0 + 1) ((M.1 p0 7) : Int32).toNatClampNeg p1) (p0 + 2) (((oUp M (p0 + 1) ((M.1 p0 7) : Int32).toNatClampNeg p1).1 p0 7) : Int32).toNatClampNeg p2) (p0 + 3) (((oUp (oUp M (p0 + 1) ((M.1 p0 7) : Int32).toNatClampNeg p1) (p0 + 2) (((oUp M (p0 + 1) ((M.1 p0 7) : Int32).toNatClampNeg p1).1 p0 7) : Int32).toNatClampNeg p2).1 p0 7) : Int32).toNatClampNeg p3).1 p0 7) : Int32).toNatClampNeg p4) p0 7 (((oUp (oUp (oUp (oUp M (p0 + 1) ((M.1 p0 7) : Int32).toNatClampNeg p1) (p0 + 2) (((oUp M (p0 + 1) ((M.1 p0 7) : Int32).toNatClampNeg p1).1 p0 7) : Int32).toNatClampNeg p2) (p0 + 3) (((oUp (oUp M (p0 + 1) ((M.1 p0 7) : Int32).toNatClampNeg p1) (p0 + 2) (((oUp M (p0 + 1) ((M.1 p0 7) : Int32).toNatClampNeg p1).1 p0 7) : Int32).toNatClampNeg p2).1 p0 7) : Int32).toNatClampNeg p3) (p0 + 4) (((oUp (oUp (oUp M (p0 + 1) ((M.1 p0 7) : Int32).toNatClampNeg p1) (p0 + 2) (((oUp M (p0 + 1) ((M.1 p0 7) : Int32).toNatClampNeg p1).1 p0 7) : Int32).toNatClampNeg p2) (p0 + 3) (((oUp (oUp M (p0 + 1) ((M.1 p0 7) : Int32).toNatClampNeg p1) (p0 + 2) (((oUp M (p0 + 1) ((M.1 p0 7) : Int32).toNatClampNeg p1).1 p0 7) : Int32).toNatClampNeg p2).1 p0 7) : Int32).toNatClampNeg p3).1 p0 7) : Int32).toNatClampNeg p4).1 p0 7) + 1))))))))
set_option maxRecDepth 20000 in
theorem v_X6_add {X : oX} {N : Nat} {K : oK} {p0 : Nat} {p1 : Int32} {p2 : Int32} {p3 : Int32} {p4 : Int32} {M : oM} {v : Unit} {M' : oM} (hK : oSR K) (hh_p0 : oLS K p0) (h : f_X6_add N K p0 p1 p2 p3 p4 M = some (v, M')) : oMet X 1 J_X6_add [(.ref p0), (.int p1), (.int p2), (.int p3), (.int p4)] K M none K M' := by
  unfold f_X6_add at h
  refine oMet_of (L := [some (.ref p0), some (.int p1), some (.int p2), some (.int p3), some (.int p4)]) jJ_X6_add.1 rfl (Nat.le_of_ble_eq_true rfl) rfl (Nat.le_refl _) (Nat.le_refl _) ?_
  have hd : 1 ≤ 1 := Nat.le_refl _
  refine oe_aload_n (pc := 0) d_X6_add_0 rfl ?_
  refine oe_getf (pc := 1) d_X6_add_1 fl_X6_34 ock6 (k := 7) (Nat.le_of_ble_eq_true rfl) rfl (oLSa hh_p0 (j := 0) (Nat.le_of_ble_eq_true rfl)) (oLSo hh_p0) ?_
  refine oe_bipush (pc := 4) (v := 24) d_X6_add_4 rfl ?_
  refine oe_icmp_ge (pc := 6) (tgt := 60) d_X6_add_6 (by decide) (fun c1 => ?_) (fun c1 => ?_)
  · replace h := (if_pos c1).symm.trans h
    obtain ⟨rfl, rfl⟩ := oRes h
    exact oe_vret (pc := 60) d_X6_add_60 rfl
  · replace h := (if_neg c1).symm.trans h
    refine oe_aload_n (pc := 9) d_X6_add_9 rfl ?_
    refine oe_getr (pc := 10) d_X6_add_10 fl_X6_9 ock6 (k := 3) (b := p0 + 1) (Nat.le_of_ble_eq_true rfl) (by decide) (oLSa hh_p0 (j := 0) (Nat.le_of_ble_eq_true rfl)) (oLSo hh_p0) (oLSf hh_p0 (j := 1) (by decide) (by decide)) ?_
    refine oe_aload_n (pc := 13) d_X6_add_13 rfl ?_
    refine oe_getf (pc := 14) d_X6_add_14 fl_X6_34 ock6 (k := 7) (Nat.le_of_ble_eq_true rfl) rfl (oLSa hh_p0 (j := 0) (Nat.le_of_ble_eq_true rfl)) (oLSo hh_p0) ?_
    refine oe_iload_n (pc := 17) d_X6_add_17 rfl ?_
    obtain ⟨i2, h⟩ := oIx_some h
    refine oe_iast (pc := 18) d_X6_add_18 (oLSa hh_p0 (j := 1) (Nat.le_of_ble_eq_true rfl)) (oLSr hh_p0 (j := 1) (by decide) (Nat.le_of_ble_eq_true rfl)) i2 ?_
    refine oe_aload_n (pc := 19) d_X6_add_19 rfl ?_
    refine oe_getr (pc := 20) d_X6_add_20 fl_X6_15 ock6 (k := 4) (b := p0 + 2) (Nat.le_of_ble_eq_true rfl) (by decide) (oLSa hh_p0 (j := 0) (Nat.le_of_ble_eq_true rfl)) (oLSo hh_p0) (oLSf hh_p0 (j := 2) (by decide) (by decide)) ?_
    refine oe_aload_n (pc := 23) d_X6_add_23 rfl ?_
    refine oe_getf (pc := 24) d_X6_add_24 fl_X6_34 ock6 (k := 7) (Nat.le_of_ble_eq_true rfl) rfl (oLSa hh_p0 (j := 0) (Nat.le_of_ble_eq_true rfl)) (oLSo hh_p0) ?_
    refine oe_iload_n (pc := 27) d_X6_add_27 rfl ?_
    obtain ⟨i3, h⟩ := oIx_some h
    refine oe_iast (pc := 28) d_X6_add_28 (oLSa hh_p0 (j := 2) (Nat.le_of_ble_eq_true rfl)) (oLSr hh_p0 (j := 2) (by decide) (Nat.le_of_ble_eq_true rfl)) i3 ?_
    refine oe_aload_n (pc := 29) d_X6_add_29 rfl ?_
    refine oe_getr (pc := 30) d_X6_add_30 fl_X6_18 ock6 (k := 5) (b := p0 + 3) (Nat.le_of_ble_eq_true rfl) (by decide) (oLSa hh_p0 (j := 0) (Nat.le_of_ble_eq_true rfl)) (oLSo hh_p0) (oLSf hh_p0 (j := 3) (by decide) (by decide)) ?_
    refine oe_aload_n (pc := 33) d_X6_add_33 rfl ?_
    refine oe_getf (pc := 34) d_X6_add_34 fl_X6_34 ock6 (k := 7) (Nat.le_of_ble_eq_true rfl) rfl (oLSa hh_p0 (j := 0) (Nat.le_of_ble_eq_true rfl)) (oLSo hh_p0) ?_
    refine oe_iload_n (pc := 37) d_X6_add_37 rfl ?_
    obtain ⟨i4, h⟩ := oIx_some h
    refine oe_iast (pc := 38) d_X6_add_38 (oLSa hh_p0 (j := 3) (Nat.le_of_ble_eq_true rfl)) (oLSr hh_p0 (j := 3) (by decide) (Nat.le_of_ble_eq_true rfl)) i4 ?_
    refine oe_aload_n (pc := 39) d_X6_add_39 rfl ?_
    refine oe_getr (pc := 40) d_X6_add_40 fl_X6_21 ock6 (k := 6) (b := p0 + 4) (Nat.le_of_ble_eq_true rfl) (by decide) (oLSa hh_p0 (j := 0) (Nat.le_of_ble_eq_true rfl)) (oLSo hh_p0) (oLSf hh_p0 (j := 4) (by decide) (by decide)) ?_
    refine oe_aload_n (pc := 43) d_X6_add_43 rfl ?_
    refine oe_getf (pc := 44) d_X6_add_44 fl_X6_34 ock6 (k := 7) (Nat.le_of_ble_eq_true rfl) rfl (oLSa hh_p0 (j := 0) (Nat.le_of_ble_eq_true rfl)) (oLSo hh_p0) ?_
    refine oe_iload (pc := 47) d_X6_add_47 rfl ?_
    obtain ⟨i5, h⟩ := oIx_some h
    refine oe_iast (pc := 49) d_X6_add_49 (oLSa hh_p0 (j := 4) (Nat.le_of_ble_eq_true rfl)) (oLSr hh_p0 (j := 4) (by decide) (Nat.le_of_ble_eq_true rfl)) i5 ?_
    refine oe_aload_n (pc := 50) d_X6_add_50 rfl ?_
    refine oe_dup (pc := 51) d_X6_add_51 rfl ?_
    refine oe_getf (pc := 52) d_X6_add_52 fl_X6_34 ock6 (k := 7) (Nat.le_of_ble_eq_true rfl) rfl (oLSa hh_p0 (j := 0) (Nat.le_of_ble_eq_true rfl)) (oLSo hh_p0) ?_
    refine oe_iconst (pc := 55) (v := 1) d_X6_add_55 rfl ?_
    refine oe_iadd (pc := 56) d_X6_add_56 ?_
    refine oe_putf (pc := 57) d_X6_add_57 fl_X6_34 ock6 (k := 7) (Nat.le_of_ble_eq_true rfl) rfl rfl (oLSa hh_p0 (j := 0) (Nat.le_of_ble_eq_true rfl)) (oLSo hh_p0) ?_
    obtain ⟨rfl, rfl⟩ := oRes h
    exact oe_vret (pc := 60) d_X6_add_60 rfl
theorem d_X7_takePart_0 : decode J_X7_takePart.2.1 0 = .ok (.aload_n 1, 1) := by decide +kernel
theorem d_X7_takePart_1 : decode J_X7_takePart.2.1 1 = .ok (.getfield 65, 3) := by decide +kernel
theorem d_X7_takePart_4 : decode J_X7_takePart.2.1 4 = .ok (.iload_n 2, 1) := by decide +kernel
theorem d_X7_takePart_5 : decode J_X7_takePart.2.1 5 = .ok (.iaload, 1) := by decide +kernel
theorem d_X7_takePart_6 : decode J_X7_takePart.2.1 6 = .ok (.istore_n 3, 1) := by decide +kernel
theorem d_X7_takePart_7 : decode J_X7_takePart.2.1 7 = .ok (.aload_n 1, 1) := by decide +kernel
theorem d_X7_takePart_8 : decode J_X7_takePart.2.1 8 = .ok (.getfield 68, 3) := by decide +kernel
theorem d_X7_takePart_11 : decode J_X7_takePart.2.1 11 = .ok (.iload_n 2, 1) := by decide +kernel
theorem d_X7_takePart_12 : decode J_X7_takePart.2.1 12 = .ok (.iaload, 1) := by decide +kernel
theorem d_X7_takePart_13 : decode J_X7_takePart.2.1 13 = .ok (.iconst 2, 1) := by decide +kernel
theorem d_X7_takePart_14 : decode J_X7_takePart.2.1 14 = .ok (.if_icmp .ne 16, 3) := by decide +kernel
theorem d_X7_takePart_17 : decode J_X7_takePart.2.1 17 = .ok (.aload_n 0, 1) := by decide +kernel
theorem d_X7_takePart_18 : decode J_X7_takePart.2.1 18 = .ok (.getfield 18, 3) := by decide +kernel
theorem d_X7_takePart_21 : decode J_X7_takePart.2.1 21 = .ok (.aload_n 0, 1) := by decide +kernel
theorem d_X7_takePart_22 : decode J_X7_takePart.2.1 22 = .ok (.getfield 52, 3) := by decide +kernel
theorem d_X7_takePart_25 : decode J_X7_takePart.2.1 25 = .ok (.iconst 1, 1) := by decide +kernel
theorem d_X7_takePart_26 : decode J_X7_takePart.2.1 26 = .ok (.bastore, 1) := by decide +kernel
theorem d_X7_takePart_27 : decode J_X7_takePart.2.1 27 = .ok (.goto 123, 3) := by decide +kernel
theorem d_X7_takePart_30 : decode J_X7_takePart.2.1 30 = .ok (.aload_n 1, 1) := by decide +kernel
theorem d_X7_takePart_31 : decode J_X7_takePart.2.1 31 = .ok (.getfield 68, 3) := by decide +kernel
theorem d_X7_takePart_34 : decode J_X7_takePart.2.1 34 = .ok (.iload_n 2, 1) := by decide +kernel
theorem d_X7_takePart_35 : decode J_X7_takePart.2.1 35 = .ok (.iaload, 1) := by decide +kernel
theorem d_X7_takePart_36 : decode J_X7_takePart.2.1 36 = .ok (.ifCond .ne 36, 3) := by decide +kernel
theorem d_X7_takePart_39 : decode J_X7_takePart.2.1 39 = .ok (.aload_n 0, 1) := by decide +kernel
theorem d_X7_takePart_40 : decode J_X7_takePart.2.1 40 = .ok (.getfield 55, 3) := by decide +kernel
theorem d_X7_takePart_43 : decode J_X7_takePart.2.1 43 = .ok (.iconst 4, 1) := by decide +kernel
theorem d_X7_takePart_44 : decode J_X7_takePart.2.1 44 = .ok (.if_icmp .lt 5, 3) := by decide +kernel
theorem d_X7_takePart_47 : decode J_X7_takePart.2.1 47 = .ok (.iconst 0, 1) := by decide +kernel
theorem d_X7_takePart_48 : decode J_X7_takePart.2.1 48 = .ok (.ireturn, 1) := by decide +kernel
theorem d_X7_takePart_49 : decode J_X7_takePart.2.1 49 = .ok (.aload_n 0, 1) := by decide +kernel
theorem d_X7_takePart_50 : decode J_X7_takePart.2.1 50 = .ok (.getfield 22, 3) := by decide +kernel
theorem d_X7_takePart_53 : decode J_X7_takePart.2.1 53 = .ok (.aload_n 0, 1) := by decide +kernel
theorem d_X7_takePart_54 : decode J_X7_takePart.2.1 54 = .ok (.getfield 55, 3) := by decide +kernel
theorem d_X7_takePart_57 : decode J_X7_takePart.2.1 57 = .ok (.iload_n 3, 1) := by decide +kernel
theorem d_X7_takePart_58 : decode J_X7_takePart.2.1 58 = .ok (.iastore, 1) := by decide +kernel
theorem d_X7_takePart_59 : decode J_X7_takePart.2.1 59 = .ok (.aload_n 0, 1) := by decide +kernel
theorem d_X7_takePart_60 : decode J_X7_takePart.2.1 60 = .ok (.dup, 1) := by decide +kernel
theorem d_X7_takePart_61 : decode J_X7_takePart.2.1 61 = .ok (.getfield 55, 3) := by decide +kernel
theorem d_X7_takePart_64 : decode J_X7_takePart.2.1 64 = .ok (.iconst 1, 1) := by decide +kernel
theorem d_X7_takePart_65 : decode J_X7_takePart.2.1 65 = .ok (.iadd, 1) := by decide +kernel
theorem d_X7_takePart_66 : decode J_X7_takePart.2.1 66 = .ok (.putfield 55, 3) := by decide +kernel
theorem d_X7_takePart_69 : decode J_X7_takePart.2.1 69 = .ok (.goto 81, 3) := by decide +kernel
theorem d_X7_takePart_72 : decode J_X7_takePart.2.1 72 = .ok (.aload_n 0, 1) := by decide +kernel
theorem d_X7_takePart_73 : decode J_X7_takePart.2.1 73 = .ok (.getfield 52, 3) := by decide +kernel
theorem d_X7_takePart_76 : decode J_X7_takePart.2.1 76 = .ok (.bipush 6, 2) := by decide +kernel
theorem d_X7_takePart_78 : decode J_X7_takePart.2.1 78 = .ok (.if_icmp .lt 5, 3) := by decide +kernel
theorem d_X7_takePart_81 : decode J_X7_takePart.2.1 81 = .ok (.iconst 0, 1) := by decide +kernel
theorem d_X7_takePart_82 : decode J_X7_takePart.2.1 82 = .ok (.ireturn, 1) := by decide +kernel
theorem d_X7_takePart_83 : decode J_X7_takePart.2.1 83 = .ok (.aload_n 0, 1) := by decide +kernel
theorem d_X7_takePart_84 : decode J_X7_takePart.2.1 84 = .ok (.getfield 11, 3) := by decide +kernel
theorem d_X7_takePart_87 : decode J_X7_takePart.2.1 87 = .ok (.aload_n 0, 1) := by decide +kernel
theorem d_X7_takePart_88 : decode J_X7_takePart.2.1 88 = .ok (.getfield 52, 3) := by decide +kernel
theorem d_X7_takePart_91 : decode J_X7_takePart.2.1 91 = .ok (.aload_n 0, 1) := by decide +kernel
theorem d_X7_takePart_92 : decode J_X7_takePart.2.1 92 = .ok (.getfield 37, 3) := by decide +kernel
theorem d_X7_takePart_95 : decode J_X7_takePart.2.1 95 = .ok (.iload_n 3, 1) := by decide +kernel
theorem d_X7_takePart_96 : decode J_X7_takePart.2.1 96 = .ok (.invokevirtual 71, 3) := by decide +kernel
theorem d_X7_takePart_99 : decode J_X7_takePart.2.1 99 = .ok (.iastore, 1) := by decide +kernel
theorem d_X7_takePart_100 : decode J_X7_takePart.2.1 100 = .ok (.aload_n 0, 1) := by decide +kernel
theorem d_X7_takePart_101 : decode J_X7_takePart.2.1 101 = .ok (.getfield 15, 3) := by decide +kernel
theorem d_X7_takePart_104 : decode J_X7_takePart.2.1 104 = .ok (.aload_n 0, 1) := by decide +kernel
theorem d_X7_takePart_105 : decode J_X7_takePart.2.1 105 = .ok (.getfield 52, 3) := by decide +kernel
theorem d_X7_takePart_108 : decode J_X7_takePart.2.1 108 = .ok (.bipush 43, 2) := by decide +kernel
theorem d_X7_takePart_110 : decode J_X7_takePart.2.1 110 = .ok (.aload_n 0, 1) := by decide +kernel
theorem d_X7_takePart_111 : decode J_X7_takePart.2.1 111 = .ok (.getfield 37, 3) := by decide +kernel
theorem d_X7_takePart_114 : decode J_X7_takePart.2.1 114 = .ok (.aload_n 1, 1) := by decide +kernel
theorem d_X7_takePart_115 : decode J_X7_takePart.2.1 115 = .ok (.iload_n 2, 1) := by decide +kernel
theorem d_X7_takePart_116 : decode J_X7_takePart.2.1 116 = .ok (.invokevirtual 77, 3) := by decide +kernel
theorem d_X7_takePart_119 : decode J_X7_takePart.2.1 119 = .ok (.aload_n 1, 1) := by decide +kernel
theorem d_X7_takePart_120 : decode J_X7_takePart.2.1 120 = .ok (.getfield 80, 3) := by decide +kernel
theorem d_X7_takePart_123 : decode J_X7_takePart.2.1 123 = .ok (.iload_n 2, 1) := by decide +kernel
theorem d_X7_takePart_124 : decode J_X7_takePart.2.1 124 = .ok (.iaload, 1) := by decide +kernel
theorem d_X7_takePart_125 : decode J_X7_takePart.2.1 125 = .ok (.invokevirtual 83, 3) := by decide +kernel
theorem d_X7_takePart_128 : decode J_X7_takePart.2.1 128 = .ok (.imul, 1) := by decide +kernel
theorem d_X7_takePart_129 : decode J_X7_takePart.2.1 129 = .ok (.iastore, 1) := by decide +kernel
theorem d_X7_takePart_130 : decode J_X7_takePart.2.1 130 = .ok (.aload_n 0, 1) := by decide +kernel
theorem d_X7_takePart_131 : decode J_X7_takePart.2.1 131 = .ok (.dup, 1) := by decide +kernel
theorem d_X7_takePart_132 : decode J_X7_takePart.2.1 132 = .ok (.getfield 52, 3) := by decide +kernel
theorem d_X7_takePart_135 : decode J_X7_takePart.2.1 135 = .ok (.iconst 1, 1) := by decide +kernel
theorem d_X7_takePart_136 : decode J_X7_takePart.2.1 136 = .ok (.iadd, 1) := by decide +kernel
theorem d_X7_takePart_137 : decode J_X7_takePart.2.1 137 = .ok (.putfield 52, 3) := by decide +kernel
theorem d_X7_takePart_140 : decode J_X7_takePart.2.1 140 = .ok (.aload_n 0, 1) := by decide +kernel
theorem d_X7_takePart_141 : decode J_X7_takePart.2.1 141 = .ok (.getfield 18, 3) := by decide +kernel
theorem d_X7_takePart_144 : decode J_X7_takePart.2.1 144 = .ok (.aload_n 0, 1) := by decide +kernel
theorem d_X7_takePart_145 : decode J_X7_takePart.2.1 145 = .ok (.getfield 52, 3) := by decide +kernel
theorem d_X7_takePart_148 : decode J_X7_takePart.2.1 148 = .ok (.iconst 0, 1) := by decide +kernel
theorem d_X7_takePart_149 : decode J_X7_takePart.2.1 149 = .ok (.bastore, 1) := by decide +kernel
theorem d_X7_takePart_150 : decode J_X7_takePart.2.1 150 = .ok (.iconst 1, 1) := by decide +kernel
theorem d_X7_takePart_151 : decode J_X7_takePart.2.1 151 = .ok (.ireturn, 1) := by decide +kernel
def f_X7_takePart (N : Nat) (K : oK) (p1 : Nat) (p2 : Int32) (M : oM) : Option (Bool × oM) :=
  oIx (p2) 24 (oIx (p2) 24 ((if (M.1 (p1 + 1) (p2 : Int32).toNatClampNeg) = 2 then oIx ((M.1 28 11)) 7 (some (true, (oUp M 31 ((M.1 28 11) : Int32).toNatClampNeg (vp_nar .boolean (1 : Int32))))) else oIx (p2) 24 ((if (M.1 (p1 + 1) (p2 : Int32).toNatClampNeg) = 0 then (if (M.1 28 12) < 4 then oIx ((M.1 28 12)) 4 (some (true, (oUp (oUp M 32 ((M.1 28 12) : Int32).toNatClampNeg (M.1 (p1 + 2) (p2 : Int32).toNatClampNeg)) 28 12 (((oUp M 32 ((M.1 28 12) : Int32).toNatClampNeg (M.1 (p1 + 2) (p2 : Int32).toNatClampNeg)).1 28 12) + 1)))) else some (false, M)) else (if (M.1 28 11) < 6 then oB2 (f_X4_lengthsOf N K (M.1 (p1 + 2) (p2 : Int32).toNatClampNeg) M) (fun v7 M8 => oIx ((M.1 28 11)) 6 (oB2 (f_X6_pointAhead N K p1 p2 (oUp M8 29 ((M.1 28 11) : Int32).toNatClampNeg v7)) (fun v11 M12 => oIx (p2) 24 (oB2 (f_X4_feet N K v11 (M12.1 (p1 + 4) (p2 : Int32).toNatClampNeg) M12) (fun v15 M16 => oIx (((oUp M8 29 ((M.1 28 11) : Int32).toNatClampNeg v7).1 28 11)) 6 (oIx (((oUp (oUp M16 30 (((oUp M8 29 ((M.1 28 11) : Int32).toNatClampNeg v7).1 28 11) : Int32).toNatClampNeg ((43 : Int32) * v15)) 28 11 (((oUp M16 30 (((oUp M8 29 ((M.1 28 11) : Int32).toNatClampNeg v7).1 28 11) : Int32).toNatClampNeg ((43 : Int32) * v15)).1 28 11) + 1)).1 28 11)) 7 (some (true, (oUp (oUp (oUp M16 30 (((oUp M8 29 ((M.1 28 11) : Int32).toNatClampNeg v7).1 28 11) : Int32).toNatClampNeg ((43 : Int32) * v15)) 28 11 (((oUp M16 30 (((oUp M8 29 ((M.1 28 11) : Int32).toNatClampNeg v7).1 28 11) : Int32).toNatClampNeg ((43 : Int32) * v15)).1 28 11) + 1)) 31 (((oUp (oUp M16 30 (((oUp M8 29 ((M.1 28 11) : Int32).toNatClampNeg v7).1 28 11) : Int32).toNatClampNeg ((43 : Int32) * v15)) 28 11 (((oUp M16 30 (((oUp M8 29 ((M.1 28 11) : Int32).toNatClampNeg v7).1 28 11) : Int32).toNatClampNeg ((43 : Int32) * v15)).1 28 11) + 1)).1 28 11) : Int32).toNatClampNeg (vp_nar .boolean (0 : Int32))))))))))) else some (false, M)))))))
set_option maxRecDepth 20000 in
theorem v_X7_takePart {X : oX} {N : Nat} {K : oK} {p1 : Nat} {p2 : Int32} {M : oM} {v : Bool} {M' : oM} (hK : oSR K) (hh_p1 : oLS K p1) (h : f_X7_takePart N K p1 p2 M = some (v, M')) : oMet X 3 J_X7_takePart [(.ref 28), (.ref p1), (.int p2)] K M (some (.int (oBi v))) K M' := by
  unfold f_X7_takePart at h
  refine oMet_of (L := [some (.ref 28), some (.ref p1), some (.int p2), none]) jJ_X7_takePart.1 rfl (Nat.le_of_ble_eq_true rfl) rfl (Nat.le_refl _) (Nat.le_refl _) ?_
  have hd : 3 ≤ 3 := Nat.le_refl _
  refine oe_aload_n (pc := 0) d_X7_takePart_0 rfl ?_
  refine oe_getr (pc := 1) d_X7_takePart_1 fl_X7_65 ock6 (k := 4) (b := p1 + 2) (Nat.le_of_ble_eq_true rfl) (by decide) (oLSa hh_p1 (j := 0) (Nat.le_of_ble_eq_true rfl)) (oLSo hh_p1) (oLSf hh_p1 (j := 2) (by decide) (by decide)) ?_
  refine oe_iload_n (pc := 4) d_X7_takePart_4 rfl ?_
  obtain ⟨i1, h⟩ := oIx_some h
  refine oe_iald (pc := 5) d_X7_takePart_5 (oLSa hh_p1 (j := 2) (Nat.le_of_ble_eq_true rfl)) (oLSr hh_p1 (j := 2) (by decide) (Nat.le_of_ble_eq_true rfl)) i1 ?_
  refine oe_istore_n (pc := 6) (L2 := [_, _, _, _]) d_X7_takePart_6 rfl rfl (Nat.le_of_ble_eq_true rfl) rfl ?_
  refine oe_aload_n (pc := 7) d_X7_takePart_7 rfl ?_
  refine oe_getr (pc := 8) d_X7_takePart_8 fl_X7_68 ock6 (k := 3) (b := p1 + 1) (Nat.le_of_ble_eq_true rfl) (by decide) (oLSa hh_p1 (j := 0) (Nat.le_of_ble_eq_true rfl)) (oLSo hh_p1) (oLSf hh_p1 (j := 1) (by decide) (by decide)) ?_
  refine oe_iload_n (pc := 11) d_X7_takePart_11 rfl ?_
  obtain ⟨i2, h⟩ := oIx_some h
  refine oe_iald (pc := 12) d_X7_takePart_12 (oLSa hh_p1 (j := 1) (Nat.le_of_ble_eq_true rfl)) (oLSr hh_p1 (j := 1) (by decide) (Nat.le_of_ble_eq_true rfl)) i2 ?_
  refine oe_iconst (pc := 13) (v := 2) d_X7_takePart_13 rfl ?_
  refine oe_icmp_ne (pc := 14) (tgt := 30) d_X7_takePart_14 (by decide) (fun c3 => ?_) (fun c3 => ?_)
  · replace h := (if_neg c3).symm.trans h
    refine oe_aload_n (pc := 30) d_X7_takePart_30 rfl ?_
    refine oe_getr (pc := 31) d_X7_takePart_31 fl_X7_68 ock6 (k := 3) (b := p1 + 1) (Nat.le_of_ble_eq_true rfl) (by decide) (oLSa hh_p1 (j := 0) (Nat.le_of_ble_eq_true rfl)) (oLSo hh_p1) (oLSf hh_p1 (j := 1) (by decide) (by decide)) ?_
    refine oe_iload_n (pc := 34) d_X7_takePart_34 rfl ?_
    obtain ⟨i4, h⟩ := oIx_some h
    refine oe_iald (pc := 35) d_X7_takePart_35 (oLSa hh_p1 (j := 1) (Nat.le_of_ble_eq_true rfl)) (oLSr hh_p1 (j := 1) (by decide) (Nat.le_of_ble_eq_true rfl)) i4 ?_
    refine oe_if_ne (pc := 36) (tgt := 72) d_X7_takePart_36 (by decide) (fun c5 => ?_) (fun c5 => ?_)
    · replace h := (if_neg c5).symm.trans h
      refine oe_aload_n (pc := 72) d_X7_takePart_72 rfl ?_
      refine oe_getf (pc := 73) d_X7_takePart_73 fl_X7_52 ock7 (k := 11) (Nat.le_of_ble_eq_true rfl) rfl (oLt hK (a := 28) (Nat.le_of_ble_eq_true rfl)) (oSho hK (a := 28) (Nat.le_of_ble_eq_true rfl) rfl) ?_
      refine oe_bipush (pc := 76) (v := 6) d_X7_takePart_76 rfl ?_
      refine oe_icmp_lt (pc := 78) (tgt := 83) d_X7_takePart_78 (by decide) (fun c6 => ?_) (fun c6 => ?_)
      · replace h := (if_pos c6).symm.trans h
        refine oe_aload_n (pc := 83) d_X7_takePart_83 rfl ?_
        refine oe_getr (pc := 84) d_X7_takePart_84 fl_X7_11 ock7 (k := 2) (b := 29) (Nat.le_of_ble_eq_true rfl) (by decide) (oLt hK (a := 28) (Nat.le_of_ble_eq_true rfl)) (oSho hK (a := 28) (Nat.le_of_ble_eq_true rfl) rfl) (oRfK hK rfl) ?_
        refine oe_aload_n (pc := 87) d_X7_takePart_87 rfl ?_
        refine oe_getf (pc := 88) d_X7_takePart_88 fl_X7_52 ock7 (k := 11) (Nat.le_of_ble_eq_true rfl) rfl (oLt hK (a := 28) (Nat.le_of_ble_eq_true rfl)) (oSho hK (a := 28) (Nat.le_of_ble_eq_true rfl) rfl) ?_
        refine oe_aload_n (pc := 91) d_X7_takePart_91 rfl ?_
        refine oe_getr (pc := 92) d_X7_takePart_92 fl_X7_37 ock7 (k := 0) (b := 6) (Nat.le_of_ble_eq_true rfl) (by decide) (oLt hK (a := 28) (Nat.le_of_ble_eq_true rfl)) (oSho hK (a := 28) (Nat.le_of_ble_eq_true rfl) rfl) (oRfK hK rfl) ?_
        refine oe_iload_n (pc := 95) d_X7_takePart_95 rfl ?_
        obtain ⟨v7, M8, q9, h⟩ := oB2_some h
        refine oe_callV (pc := 96) (ci := 4) d_X7_takePart_96 (v_X4_lengthsOf hK  q9) (by omega) ml_X7_71 jJ_X4_lengthsOf rfl rfl (oLt hK (a := 6) (Nat.le_of_ble_eq_true rfl)) (oSho hK (a := 6) (Nat.le_of_ble_eq_true rfl) rfl) ock4 rfl (Nat.le_of_ble_eq_true rfl) ⟨Nat.le_refl _, Nat.le_refl _⟩ ⟨Nat.le_refl _, Nat.le_refl _⟩ ?_
        obtain ⟨i10, h⟩ := oIx_some h
        refine oe_iast (pc := 99) d_X7_takePart_99 (oLt hK (a := 29) (Nat.le_of_ble_eq_true rfl)) (oSha hK (a := 29) (Nat.le_of_ble_eq_true rfl) rfl) i10 ?_
        refine oe_aload_n (pc := 100) d_X7_takePart_100 rfl ?_
        refine oe_getr (pc := 101) d_X7_takePart_101 fl_X7_15 ock7 (k := 3) (b := 30) (Nat.le_of_ble_eq_true rfl) (by decide) (oLt hK (a := 28) (Nat.le_of_ble_eq_true rfl)) (oSho hK (a := 28) (Nat.le_of_ble_eq_true rfl) rfl) (oRfK hK rfl) ?_
        refine oe_aload_n (pc := 104) d_X7_takePart_104 rfl ?_
        refine oe_getf (pc := 105) d_X7_takePart_105 fl_X7_52 ock7 (k := 11) (Nat.le_of_ble_eq_true rfl) rfl (oLt hK (a := 28) (Nat.le_of_ble_eq_true rfl)) (oSho hK (a := 28) (Nat.le_of_ble_eq_true rfl) rfl) ?_
        refine oe_bipush (pc := 108) (v := 43) d_X7_takePart_108 rfl ?_
        refine oe_aload_n (pc := 110) d_X7_takePart_110 rfl ?_
        refine oe_getr (pc := 111) d_X7_takePart_111 fl_X7_37 ock7 (k := 0) (b := 6) (Nat.le_of_ble_eq_true rfl) (by decide) (oLt hK (a := 28) (Nat.le_of_ble_eq_true rfl)) (oSho hK (a := 28) (Nat.le_of_ble_eq_true rfl) rfl) (oRfK hK rfl) ?_
        refine oe_aload_n (pc := 114) d_X7_takePart_114 rfl ?_
        refine oe_iload_n (pc := 115) d_X7_takePart_115 rfl ?_
        obtain ⟨v11, M12, q13, h⟩ := oB2_some h
        refine oe_callV (pc := 116) (ci := 6) d_X7_takePart_116 (v_X6_pointAhead hK hh_p1 q13) (by omega) ml_X7_77 jJ_X6_pointAhead rfl rfl (oLSa hh_p1 (j := 0) (Nat.le_of_ble_eq_true rfl)) (oLSo hh_p1) ock6 rfl (Nat.le_of_ble_eq_true rfl) ⟨Nat.le_refl _, Nat.le_refl _⟩ ⟨Nat.le_refl _, Nat.le_refl _⟩ ?_
        refine oe_aload_n (pc := 119) d_X7_takePart_119 rfl ?_
        refine oe_getr (pc := 120) d_X7_takePart_120 fl_X7_80 ock6 (k := 6) (b := p1 + 4) (Nat.le_of_ble_eq_true rfl) (by decide) (oLSa hh_p1 (j := 0) (Nat.le_of_ble_eq_true rfl)) (oLSo hh_p1) (oLSf hh_p1 (j := 4) (by decide) (by decide)) ?_
        refine oe_iload_n (pc := 123) d_X7_takePart_123 rfl ?_
        obtain ⟨i14, h⟩ := oIx_some h
        refine oe_iald (pc := 124) d_X7_takePart_124 (oLSa hh_p1 (j := 4) (Nat.le_of_ble_eq_true rfl)) (oLSr hh_p1 (j := 4) (by decide) (Nat.le_of_ble_eq_true rfl)) i14 ?_
        obtain ⟨v15, M16, q17, h⟩ := oB2_some h
        refine oe_callV (pc := 125) (ci := 4) d_X7_takePart_125 (v_X4_feet hK  q17) (by omega) ml_X7_83 jJ_X4_feet rfl rfl (oLt hK (a := 6) (Nat.le_of_ble_eq_true rfl)) (oSho hK (a := 6) (Nat.le_of_ble_eq_true rfl) rfl) ock4 rfl (Nat.le_of_ble_eq_true rfl) ⟨Nat.le_refl _, Nat.le_refl _⟩ ⟨Nat.le_refl _, Nat.le_refl _⟩ ?_
        refine oe_imul (pc := 128) d_X7_takePart_128 ?_
        obtain ⟨i18, h⟩ := oIx_some h
        refine oe_iast (pc := 129) d_X7_takePart_129 (oLt hK (a := 30) (Nat.le_of_ble_eq_true rfl)) (oSha hK (a := 30) (Nat.le_of_ble_eq_true rfl) rfl) i18 ?_
        refine oe_aload_n (pc := 130) d_X7_takePart_130 rfl ?_
        refine oe_dup (pc := 131) d_X7_takePart_131 rfl ?_
        refine oe_getf (pc := 132) d_X7_takePart_132 fl_X7_52 ock7 (k := 11) (Nat.le_of_ble_eq_true rfl) rfl (oLt hK (a := 28) (Nat.le_of_ble_eq_true rfl)) (oSho hK (a := 28) (Nat.le_of_ble_eq_true rfl) rfl) ?_
        refine oe_iconst (pc := 135) (v := 1) d_X7_takePart_135 rfl ?_
        refine oe_iadd (pc := 136) d_X7_takePart_136 ?_
        refine oe_putf (pc := 137) d_X7_takePart_137 fl_X7_52 ock7 (k := 11) (Nat.le_of_ble_eq_true rfl) rfl rfl (oLt hK (a := 28) (Nat.le_of_ble_eq_true rfl)) (oSho hK (a := 28) (Nat.le_of_ble_eq_true rfl) rfl) ?_
        refine oe_aload_n (pc := 140) d_X7_takePart_140 rfl ?_
        refine oe_getr (pc := 141) d_X7_takePart_141 fl_X7_18 ock7 (k := 4) (b := 31) (Nat.le_of_ble_eq_true rfl) (by decide) (oLt hK (a := 28) (Nat.le_of_ble_eq_true rfl)) (oSho hK (a := 28) (Nat.le_of_ble_eq_true rfl) rfl) (oRfK hK rfl) ?_
        refine oe_aload_n (pc := 144) d_X7_takePart_144 rfl ?_
        refine oe_getf (pc := 145) d_X7_takePart_145 fl_X7_52 ock7 (k := 11) (Nat.le_of_ble_eq_true rfl) rfl (oLt hK (a := 28) (Nat.le_of_ble_eq_true rfl)) (oSho hK (a := 28) (Nat.le_of_ble_eq_true rfl) rfl) ?_
        refine oe_iconst (pc := 148) (v := 0) d_X7_takePart_148 rfl ?_
        obtain ⟨i19, h⟩ := oIx_some h
        refine oe_zast (pc := 149) d_X7_takePart_149 (oLt hK (a := 31) (Nat.le_of_ble_eq_true rfl)) (oSha hK (a := 31) (Nat.le_of_ble_eq_true rfl) rfl) i19 ?_
        refine oe_iconst (pc := 150) (v := 1) d_X7_takePart_150 rfl ?_
        obtain ⟨rfl, rfl⟩ := oRes h
        exact oe_iret (pc := 151) d_X7_takePart_151 ⟨_, rfl, rfl⟩
      · replace h := (if_neg c6).symm.trans h
        refine oe_iconst (pc := 81) (v := 0) d_X7_takePart_81 rfl ?_
        obtain ⟨rfl, rfl⟩ := oRes h
        exact oe_iret (pc := 82) d_X7_takePart_82 ⟨_, rfl, rfl⟩
    · replace h := (if_pos c5).symm.trans h
      refine oe_aload_n (pc := 39) d_X7_takePart_39 rfl ?_
      refine oe_getf (pc := 40) d_X7_takePart_40 fl_X7_55 ock7 (k := 12) (Nat.le_of_ble_eq_true rfl) rfl (oLt hK (a := 28) (Nat.le_of_ble_eq_true rfl)) (oSho hK (a := 28) (Nat.le_of_ble_eq_true rfl) rfl) ?_
      refine oe_iconst (pc := 43) (v := 4) d_X7_takePart_43 rfl ?_
      refine oe_icmp_lt (pc := 44) (tgt := 49) d_X7_takePart_44 (by decide) (fun c20 => ?_) (fun c20 => ?_)
      · replace h := (if_pos c20).symm.trans h
        refine oe_aload_n (pc := 49) d_X7_takePart_49 rfl ?_
        refine oe_getr (pc := 50) d_X7_takePart_50 fl_X7_22 ock7 (k := 5) (b := 32) (Nat.le_of_ble_eq_true rfl) (by decide) (oLt hK (a := 28) (Nat.le_of_ble_eq_true rfl)) (oSho hK (a := 28) (Nat.le_of_ble_eq_true rfl) rfl) (oRfK hK rfl) ?_
        refine oe_aload_n (pc := 53) d_X7_takePart_53 rfl ?_
        refine oe_getf (pc := 54) d_X7_takePart_54 fl_X7_55 ock7 (k := 12) (Nat.le_of_ble_eq_true rfl) rfl (oLt hK (a := 28) (Nat.le_of_ble_eq_true rfl)) (oSho hK (a := 28) (Nat.le_of_ble_eq_true rfl) rfl) ?_
        refine oe_iload_n (pc := 57) d_X7_takePart_57 rfl ?_
        obtain ⟨i21, h⟩ := oIx_some h
        refine oe_iast (pc := 58) d_X7_takePart_58 (oLt hK (a := 32) (Nat.le_of_ble_eq_true rfl)) (oSha hK (a := 32) (Nat.le_of_ble_eq_true rfl) rfl) i21 ?_
        refine oe_aload_n (pc := 59) d_X7_takePart_59 rfl ?_
        refine oe_dup (pc := 60) d_X7_takePart_60 rfl ?_
        refine oe_getf (pc := 61) d_X7_takePart_61 fl_X7_55 ock7 (k := 12) (Nat.le_of_ble_eq_true rfl) rfl (oLt hK (a := 28) (Nat.le_of_ble_eq_true rfl)) (oSho hK (a := 28) (Nat.le_of_ble_eq_true rfl) rfl) ?_
        refine oe_iconst (pc := 64) (v := 1) d_X7_takePart_64 rfl ?_
        refine oe_iadd (pc := 65) d_X7_takePart_65 ?_
        refine oe_putf (pc := 66) d_X7_takePart_66 fl_X7_55 ock7 (k := 12) (Nat.le_of_ble_eq_true rfl) rfl rfl (oLt hK (a := 28) (Nat.le_of_ble_eq_true rfl)) (oSho hK (a := 28) (Nat.le_of_ble_eq_true rfl) rfl) ?_
        refine oe_goto (pc := 69) (tgt := 150) d_X7_takePart_69 (by decide) ?_
        refine oe_iconst (pc := 150) (v := 1) d_X7_takePart_150 rfl ?_
        obtain ⟨rfl, rfl⟩ := oRes h
        exact oe_iret (pc := 151) d_X7_takePart_151 ⟨_, rfl, rfl⟩
      · replace h := (if_neg c20).symm.trans h
        refine oe_iconst (pc := 47) (v := 0) d_X7_takePart_47 rfl ?_
        obtain ⟨rfl, rfl⟩ := oRes h
        exact oe_iret (pc := 48) d_X7_takePart_48 ⟨_, rfl, rfl⟩
  · replace h := (if_pos c3).symm.trans h
    refine oe_aload_n (pc := 17) d_X7_takePart_17 rfl ?_
    refine oe_getr (pc := 18) d_X7_takePart_18 fl_X7_18 ock7 (k := 4) (b := 31) (Nat.le_of_ble_eq_true rfl) (by decide) (oLt hK (a := 28) (Nat.le_of_ble_eq_true rfl)) (oSho hK (a := 28) (Nat.le_of_ble_eq_true rfl) rfl) (oRfK hK rfl) ?_
    refine oe_aload_n (pc := 21) d_X7_takePart_21 rfl ?_
    refine oe_getf (pc := 22) d_X7_takePart_22 fl_X7_52 ock7 (k := 11) (Nat.le_of_ble_eq_true rfl) rfl (oLt hK (a := 28) (Nat.le_of_ble_eq_true rfl)) (oSho hK (a := 28) (Nat.le_of_ble_eq_true rfl) rfl) ?_
    refine oe_iconst (pc := 25) (v := 1) d_X7_takePart_25 rfl ?_
    obtain ⟨i22, h⟩ := oIx_some h
    refine oe_zast (pc := 26) d_X7_takePart_26 (oLt hK (a := 31) (Nat.le_of_ble_eq_true rfl)) (oSha hK (a := 31) (Nat.le_of_ble_eq_true rfl) rfl) i22 ?_
    refine oe_goto (pc := 27) (tgt := 150) d_X7_takePart_27 (by decide) ?_
    refine oe_iconst (pc := 150) (v := 1) d_X7_takePart_150 rfl ?_
    obtain ⟨rfl, rfl⟩ := oRes h
    exact oe_iret (pc := 151) d_X7_takePart_151 ⟨_, rfl, rfl⟩
