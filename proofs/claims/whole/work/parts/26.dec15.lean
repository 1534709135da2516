/-! walked by program: X12_settle, X12_think, X12_goThrough, X12_greatest, X12_flowNow -/
theorem d_X12_settle_0 : decode J_X12_settle.2.1 0 = .ok (.iconst (-1), 1) := by decide +kernel
theorem d_X12_settle_1 : decode J_X12_settle.2.1 1 = .ok (.istore_n 1, 1) := by decide +kernel
theorem d_X12_settle_2 : decode J_X12_settle.2.1 2 = .ok (.iconst 0, 1) := by decide +kernel
theorem d_X12_settle_3 : decode J_X12_settle.2.1 3 = .ok (.istore_n 2, 1) := by decide +kernel
theorem d_X12_settle_4 : decode J_X12_settle.2.1 4 = .ok (.iload_n 2, 1) := by decide +kernel
theorem d_X12_settle_5 : decode J_X12_settle.2.1 5 = .ok (.aload_n 0, 1) := by decide +kernel
theorem d_X12_settle_6 : decode J_X12_settle.2.1 6 = .ok (.getfield 246, 3) := by decide +kernel
theorem d_X12_settle_9 : decode J_X12_settle.2.1 9 = .ok (.if_icmp .ge 24, 3) := by decide +kernel
theorem d_X12_settle_12 : decode J_X12_settle.2.1 12 = .ok (.aload_n 0, 1) := by decide +kernel
theorem d_X12_settle_13 : decode J_X12_settle.2.1 13 = .ok (.getfield 74, 3) := by decide +kernel
theorem d_X12_settle_16 : decode J_X12_settle.2.1 16 = .ok (.iload_n 2, 1) := by decide +kernel
theorem d_X12_settle_17 : decode J_X12_settle.2.1 17 = .ok (.iaload, 1) := by decide +kernel
theorem d_X12_settle_18 : decode J_X12_settle.2.1 18 = .ok (.ifCond .ne 7, 3) := by decide +kernel
theorem d_X12_settle_21 : decode J_X12_settle.2.1 21 = .ok (.iload_n 2, 1) := by decide +kernel
theorem d_X12_settle_22 : decode J_X12_settle.2.1 22 = .ok (.goto 4, 3) := by decide +kernel
theorem d_X12_settle_25 : decode J_X12_settle.2.1 25 = .ok (.iload_n 1, 1) := by decide +kernel
theorem d_X12_settle_26 : decode J_X12_settle.2.1 26 = .ok (.istore_n 1, 1) := by decide +kernel
theorem d_X12_settle_27 : decode J_X12_settle.2.1 27 = .ok (.iinc 2 1, 3) := by decide +kernel
theorem d_X12_settle_30 : decode J_X12_settle.2.1 30 = .ok (.goto (-26), 3) := by decide +kernel
theorem d_X12_settle_33 : decode J_X12_settle.2.1 33 = .ok (.aload_n 0, 1) := by decide +kernel
theorem d_X12_settle_34 : decode J_X12_settle.2.1 34 = .ok (.getfield 249, 3) := by decide +kernel
theorem d_X12_settle_37 : decode J_X12_settle.2.1 37 = .ok (.istore_n 2, 1) := by decide +kernel
theorem d_X12_settle_38 : decode J_X12_settle.2.1 38 = .ok (.iconst 0, 1) := by decide +kernel
theorem d_X12_settle_39 : decode J_X12_settle.2.1 39 = .ok (.istore_n 3, 1) := by decide +kernel
theorem d_X12_settle_40 : decode J_X12_settle.2.1 40 = .ok (.iload_n 3, 1) := by decide +kernel
theorem d_X12_settle_41 : decode J_X12_settle.2.1 41 = .ok (.aload_n 0, 1) := by decide +kernel
theorem d_X12_settle_42 : decode J_X12_settle.2.1 42 = .ok (.getfield 246, 3) := by decide +kernel
theorem d_X12_settle_45 : decode J_X12_settle.2.1 45 = .ok (.if_icmp .ge 119, 3) := by decide +kernel
theorem d_X12_settle_48 : decode J_X12_settle.2.1 48 = .ok (.aload_n 0, 1) := by decide +kernel
theorem d_X12_settle_49 : decode J_X12_settle.2.1 49 = .ok (.getfield 83, 3) := by decide +kernel
theorem d_X12_settle_52 : decode J_X12_settle.2.1 52 = .ok (.iload_n 3, 1) := by decide +kernel
theorem d_X12_settle_53 : decode J_X12_settle.2.1 53 = .ok (.aload_n 0, 1) := by decide +kernel
theorem d_X12_settle_54 : decode J_X12_settle.2.1 54 = .ok (.getfield 252, 3) := by decide +kernel
theorem d_X12_settle_57 : decode J_X12_settle.2.1 57 = .ok (.iconst 2, 1) := by decide +kernel
theorem d_X12_settle_58 : decode J_X12_settle.2.1 58 = .ok (.if_icmp .eq 16, 3) := by decide +kernel
theorem d_X12_settle_61 : decode J_X12_settle.2.1 61 = .ok (.aload_n 0, 1) := by decide +kernel
theorem d_X12_settle_62 : decode J_X12_settle.2.1 62 = .ok (.getfield 252, 3) := by decide +kernel
theorem d_X12_settle_65 : decode J_X12_settle.2.1 65 = .ok (.iconst 4, 1) := by decide +kernel
theorem d_X12_settle_66 : decode J_X12_settle.2.1 66 = .ok (.if_icmp .ne 12, 3) := by decide +kernel
theorem d_X12_settle_69 : decode J_X12_settle.2.1 69 = .ok (.iload_n 3, 1) := by decide +kernel
theorem d_X12_settle_70 : decode J_X12_settle.2.1 70 = .ok (.iload_n 1, 1) := by decide +kernel
theorem d_X12_settle_71 : decode J_X12_settle.2.1 71 = .ok (.if_icmp .le 7, 3) := by decide +kernel
theorem d_X12_settle_74 : decode J_X12_settle.2.1 74 = .ok (.iconst 2, 1) := by decide +kernel
theorem d_X12_settle_75 : decode J_X12_settle.2.1 75 = .ok (.goto 4, 3) := by decide +kernel
theorem d_X12_settle_78 : decode J_X12_settle.2.1 78 = .ok (.iconst 1, 1) := by decide +kernel
theorem d_X12_settle_79 : decode J_X12_settle.2.1 79 = .ok (.iastore, 1) := by decide +kernel
theorem d_X12_settle_80 : decode J_X12_settle.2.1 80 = .ok (.aload_n 0, 1) := by decide +kernel
theorem d_X12_settle_81 : decode J_X12_settle.2.1 81 = .ok (.getfield 86, 3) := by decide +kernel
theorem d_X12_settle_84 : decode J_X12_settle.2.1 84 = .ok (.iload_n 3, 1) := by decide +kernel
theorem d_X12_settle_85 : decode J_X12_settle.2.1 85 = .ok (.iconst 0, 1) := by decide +kernel
theorem d_X12_settle_86 : decode J_X12_settle.2.1 86 = .ok (.iastore, 1) := by decide +kernel
theorem d_X12_settle_87 : decode J_X12_settle.2.1 87 = .ok (.aload_n 0, 1) := by decide +kernel
theorem d_X12_settle_88 : decode J_X12_settle.2.1 88 = .ok (.getfield 74, 3) := by decide +kernel
theorem d_X12_settle_91 : decode J_X12_settle.2.1 91 = .ok (.iload_n 3, 1) := by decide +kernel
theorem d_X12_settle_92 : decode J_X12_settle.2.1 92 = .ok (.iaload, 1) := by decide +kernel
theorem d_X12_settle_93 : decode J_X12_settle.2.1 93 = .ok (.iconst 1, 1) := by decide +kernel
theorem d_X12_settle_94 : decode J_X12_settle.2.1 94 = .ok (.if_icmp .ne 64, 3) := by decide +kernel
theorem d_X12_settle_97 : decode J_X12_settle.2.1 97 = .ok (.aload_n 0, 1) := by decide +kernel
theorem d_X12_settle_98 : decode J_X12_settle.2.1 98 = .ok (.getfield 77, 3) := by decide +kernel
theorem d_X12_settle_101 : decode J_X12_settle.2.1 101 = .ok (.iload_n 3, 1) := by decide +kernel
theorem d_X12_settle_102 : decode J_X12_settle.2.1 102 = .ok (.iaload, 1) := by decide +kernel
theorem d_X12_settle_103 : decode J_X12_settle.2.1 103 = .ok (.istore 4, 2) := by decide +kernel
theorem d_X12_settle_105 : decode J_X12_settle.2.1 105 = .ok (.aload_n 0, 1) := by decide +kernel
theorem d_X12_settle_106 : decode J_X12_settle.2.1 106 = .ok (.getfield 22, 3) := by decide +kernel
theorem d_X12_settle_109 : decode J_X12_settle.2.1 109 = .ok (.iload 4, 2) := by decide +kernel
theorem d_X12_settle_111 : decode J_X12_settle.2.1 111 = .ok (.iaload, 1) := by decide +kernel
theorem d_X12_settle_112 : decode J_X12_settle.2.1 112 = .ok (.iload_n 2, 1) := by decide +kernel
theorem d_X12_settle_113 : decode J_X12_settle.2.1 113 = .ok (.if_icmp .ne 13, 3) := by decide +kernel
theorem d_X12_settle_116 : decode J_X12_settle.2.1 116 = .ok (.aload_n 0, 1) := by decide +kernel
theorem d_X12_settle_117 : decode J_X12_settle.2.1 117 = .ok (.getfield 25, 3) := by decide +kernel
theorem d_X12_settle_120 : decode J_X12_settle.2.1 120 = .ok (.iload 4, 2) := by decide +kernel
theorem d_X12_settle_122 : decode J_X12_settle.2.1 122 = .ok (.iaload, 1) := by decide +kernel
theorem d_X12_settle_123 : decode J_X12_settle.2.1 123 = .ok (.goto 10, 3) := by decide +kernel
theorem d_X12_settle_126 : decode J_X12_settle.2.1 126 = .ok (.aload_n 0, 1) := by decide +kernel
theorem d_X12_settle_127 : decode J_X12_settle.2.1 127 = .ok (.getfield 22, 3) := by decide +kernel
theorem d_X12_settle_130 : decode J_X12_settle.2.1 130 = .ok (.iload 4, 2) := by decide +kernel
theorem d_X12_settle_132 : decode J_X12_settle.2.1 132 = .ok (.iaload, 1) := by decide +kernel
theorem d_X12_settle_133 : decode J_X12_settle.2.1 133 = .ok (.istore 5, 2) := by decide +kernel
theorem d_X12_settle_135 : decode J_X12_settle.2.1 135 = .ok (.aload_n 0, 1) := by decide +kernel
theorem d_X12_settle_136 : decode J_X12_settle.2.1 136 = .ok (.getfield 86, 3) := by decide +kernel
theorem d_X12_settle_139 : decode J_X12_settle.2.1 139 = .ok (.iload_n 3, 1) := by decide +kernel
theorem d_X12_settle_140 : decode J_X12_settle.2.1 140 = .ok (.aload_n 0, 1) := by decide +kernel
theorem d_X12_settle_141 : decode J_X12_settle.2.1 141 = .ok (.getfield 7, 3) := by decide +kernel
theorem d_X12_settle_144 : decode J_X12_settle.2.1 144 = .ok (.iload 5, 2) := by decide +kernel
theorem d_X12_settle_146 : decode J_X12_settle.2.1 146 = .ok (.iaload, 1) := by decide +kernel
theorem d_X12_settle_147 : decode J_X12_settle.2.1 147 = .ok (.aload_n 0, 1) := by decide +kernel
theorem d_X12_settle_148 : decode J_X12_settle.2.1 148 = .ok (.getfield 7, 3) := by decide +kernel
theorem d_X12_settle_151 : decode J_X12_settle.2.1 151 = .ok (.iload_n 2, 1) := by decide +kernel
theorem d_X12_settle_152 : decode J_X12_settle.2.1 152 = .ok (.iaload, 1) := by decide +kernel
theorem d_X12_settle_153 : decode J_X12_settle.2.1 153 = .ok (.isub, 1) := by decide +kernel
theorem d_X12_settle_154 : decode J_X12_settle.2.1 154 = .ok (.iastore, 1) := by decide +kernel
theorem d_X12_settle_155 : decode J_X12_settle.2.1 155 = .ok (.iload 5, 2) := by decide +kernel
theorem d_X12_settle_157 : decode J_X12_settle.2.1 157 = .ok (.istore_n 2, 1) := by decide +kernel
theorem d_X12_settle_158 : decode J_X12_settle.2.1 158 = .ok (.iinc 3 1, 3) := by decide +kernel
theorem d_X12_settle_161 : decode J_X12_settle.2.1 161 = .ok (.goto (-121), 3) := by decide +kernel
theorem d_X12_settle_164 : decode J_X12_settle.2.1 164 = .ok (.return_, 1) := by decide +kernel
def f_X12_settle_158 (N : Nat) (K : oK) (r40 : (Int32 → Int32 → Int32 → oM → Option (Unit × oM))) (p1 : Int32) (p2 : Int32) (p3 : Int32) (M : oM) : Option (Unit × oM) :=
  (r40 p1 p2 (p3 + 1) M)
set_option maxRecDepth 20000 in
theorem v_X12_settle_158 {X : oX} {d N : Nat} {K : oK} {r40 : (Int32 → Int32 → Int32 → oM → Option (Unit × oM))} {p1 : Int32} {p2 : Int32} {p3 : Int32} {M : oM} {v : Unit} {M' : oM}  (hd : 1 ≤ d) (hK : oSR K)  (hr40 : ∀ (p1 : Int32) (p2 : Int32) (p3 : Int32) (M : oM) (v : Unit) (M' : oM) , r40 p1 p2 p3 M = some (v, M') → oEv X d J_X12_settle 40 [some (.ref 59), some (.int p1), some (.int p2), some (.int p3), none, none] [] K M none K M') (h : f_X12_settle_158 N K r40 p1 p2 p3 M = some (v, M')) : oEv X d J_X12_settle 158 [some (.ref 59), some (.int p1), some (.int p2), some (.int p3), none, none] [] K M none K M' := by
  unfold f_X12_settle_158 at h
  refine oe_iinc (pc := 158) (v := (p3 + 1)) (L2 := [_, _, _, _, _, _]) d_X12_settle_158 rfl rfl rfl (Nat.le_of_ble_eq_true rfl) rfl ?_
  refine oe_goto (pc := 161) (tgt := 40) d_X12_settle_161 (by decide) ?_
  exact hr40 _ _ _ _ _ _ h
def f_X12_settle_133 (N : Nat) (K : oK) (r40 : (Int32 → Int32 → Int32 → oM → Option (Unit × oM))) (p1 : Int32) (p2 : Int32) (p3 : Int32) (s0 : Int32) (M : oM) : Option (Unit × oM) :=
  oIx (s0) 21 (oIx (p2) 21 (oIx (p3) 25 ((f_X12_settle_158 N K r40 p1 s0 p3 (oUp M 85 (p3 : Int32).toNatClampNeg ((M.1 60 (s0 : Int32).toNatClampNeg) - (M.1 60 (p2 : Int32).toNatClampNeg)))))))
set_option maxRecDepth 20000 in
theorem v_X12_settle_133 {X : oX} {d N : Nat} {K : oK} {r40 : (Int32 → Int32 → Int32 → oM → Option (Unit × oM))} {p1 : Int32} {p2 : Int32} {p3 : Int32} {s0 : Int32} {M : oM} {v : Unit} {M' : oM}  (hd : 1 ≤ d) (hK : oSR K)  (hr40 : ∀ (p1 : Int32) (p2 : Int32) (p3 : Int32) (M : oM) (v : Unit) (M' : oM) , r40 p1 p2 p3 M = some (v, M') → oEv X d J_X12_settle 40 [some (.ref 59), some (.int p1), some (.int p2), some (.int p3), none, none] [] K M none K M') (h : f_X12_settle_133 N K r40 p1 p2 p3 s0 M = some (v, M')) : oEv X d J_X12_settle 133 [some (.ref 59), some (.int p1), some (.int p2), some (.int p3), none, none] [(.int s0)] K M none K M' := by
  unfold f_X12_settle_133 at h
  refine oe_istore (pc := 133) (L2 := [_, _, _, _, _, _]) d_X12_settle_133 rfl (Nat.le_of_ble_eq_true rfl) rfl ?_
  refine oe_aload_n (pc := 135) d_X12_settle_135 rfl ?_
  refine oe_getr (pc := 136) d_X12_settle_136 fl_X12_86 ock12 (k := 36) (b := 85) (Nat.le_of_ble_eq_true rfl) (by decide) (oLt hK (a := 59) (Nat.le_of_ble_eq_true rfl)) (oSho hK (a := 59) (Nat.le_of_ble_eq_true rfl) rfl) (oRfK hK rfl) ?_
  refine oe_iload_n (pc := 139) d_X12_settle_139 rfl ?_
  refine oe_aload_n (pc := 140) d_X12_settle_140 rfl ?_
  refine oe_getr (pc := 141) d_X12_settle_141 fl_X12_7 ock12 (k := 0) (b := 60) (Nat.le_of_ble_eq_true rfl) (by decide) (oLt hK (a := 59) (Nat.le_of_ble_eq_true rfl)) (oSho hK (a := 59) (Nat.le_of_ble_eq_true rfl) rfl) (oRfK hK rfl) ?_
  refine oe_iload (pc := 144) d_X12_settle_144 rfl ?_
  obtain ⟨i12, h⟩ := oIx_some h
  refine oe_iald (pc := 146) d_X12_settle_146 (oLt hK (a := 60) (Nat.le_of_ble_eq_true rfl)) (oSha hK (a := 60) (Nat.le_of_ble_eq_true rfl) rfl) i12 ?_
  refine oe_aload_n (pc := 147) d_X12_settle_147 rfl ?_
  refine oe_getr (pc := 148) d_X12_settle_148 fl_X12_7 ock12 (k := 0) (b := 60) (Nat.le_of_ble_eq_true rfl) (by decide) (oLt hK (a := 59) (Nat.le_of_ble_eq_true rfl)) (oSho hK (a := 59) (Nat.le_of_ble_eq_true rfl) rfl) (oRfK hK rfl) ?_
  refine oe_iload_n (pc := 151) d_X12_settle_151 rfl ?_
  obtain ⟨i13, h⟩ := oIx_some h
  refine oe_iald (pc := 152) d_X12_settle_152 (oLt hK (a := 60) (Nat.le_of_ble_eq_true rfl)) (oSha hK (a := 60) (Nat.le_of_ble_eq_true rfl) rfl) i13 ?_
  refine oe_isub (pc := 153) d_X12_settle_153 ?_
  obtain ⟨i14, h⟩ := oIx_some h
  refine oe_iast (pc := 154) d_X12_settle_154 (oLt hK (a := 85) (Nat.le_of_ble_eq_true rfl)) (oSha hK (a := 85) (Nat.le_of_ble_eq_true rfl) rfl) i14 ?_
  refine oe_iload (pc := 155) d_X12_settle_155 rfl ?_
  refine oe_istore_n (pc := 157) (L2 := [_, _, _, _, _, _]) d_X12_settle_157 rfl rfl (Nat.le_of_ble_eq_true rfl) rfl ?_
  refine oEv.fg [true, true, true, true, false, false] ?_
  exact v_X12_settle_158 hd hK  hr40 h
def f_X12_settle_79 (N : Nat) (K : oK) (r40 : (Int32 → Int32 → Int32 → oM → Option (Unit × oM))) (p1 : Int32) (p2 : Int32) (p3 : Int32) (s0 : Int32) (s1 : Int32) (M : oM) : Option (Unit × oM) :=
  oIx (s1) 25 (oIx (p3) 25 (oIx (p3) 25 ((if ((oUp (oUp M 84 (s1 : Int32).toNatClampNeg s0) 85 (p3 : Int32).toNatClampNeg (0 : Int32)).1 81 (p3 : Int32).toNatClampNeg) = 1 then oIx (p3) 25 (oIx (((oUp (oUp M 84 (s1 : Int32).toNatClampNeg s0) 85 (p3 : Int32).toNatClampNeg (0 : Int32)).1 82 (p3 : Int32).toNatClampNeg)) 20 ((if ((oUp (oUp M 84 (s1 : Int32).toNatClampNeg s0) 85 (p3 : Int32).toNatClampNeg (0 : Int32)).1 64 (((oUp (oUp M 84 (s1 : Int32).toNatClampNeg s0) 85 (p3 : Int32).toNatClampNeg (0 : Int32)).1 82 (p3 : Int32).toNatClampNeg) : Int32).toNatClampNeg) = p2 then oIx (((oUp (oUp M 84 (s1 : Int32).toNatClampNeg s0) 85 (p3 : Int32).toNatClampNeg (0 : Int32)).1 82 (p3 : Int32).toNatClampNeg)) 20 ((f_X12_settle_133 N K r40 p1 p2 p3 ((oUp (oUp M 84 (s1 : Int32).toNatClampNeg s0) 85 (p3 : Int32).toNatClampNeg (0 : Int32)).1 65 (((oUp (oUp M 84 (s1 : Int32).toNatClampNeg s0) 85 (p3 : Int32).toNatClampNeg (0 : Int32)).1 82 (p3 : Int32).toNatClampNeg) : Int32).toNatClampNeg) (oUp (oUp M 84 (s1 : Int32).toNatClampNeg s0) 85 (p3 : Int32).toNatClampNeg (0 : Int32)))) else oIx (((oUp (oUp M 84 (s1 : Int32).toNatClampNeg s0) 85 (p3 : Int32).toNatClampNeg (0 : Int32)).1 82 (p3 : Int32).toNatClampNeg)) 20 ((f_X12_settle_133 N K r40 p1 p2 p3 ((oUp (oUp M 84 (s1 : Int32).toNatClampNeg s0) 85 (p3 : Int32).toNatClampNeg (0 : Int32)).1 64 (((oUp (oUp M 84 (s1 : Int32).toNatClampNeg s0) 85 (p3 : Int32).toNatClampNeg (0 : Int32)).1 82 (p3 : Int32).toNatClampNeg) : Int32).toNatClampNeg) (oUp (oUp M 84 (s1 : Int32).toNatClampNeg s0) 85 (p3 : Int32).toNatClampNeg (0 : Int32))))))) else (f_X12_settle_158 N K r40 p1 p2 p3 (oUp (oUp M 84 (s1 : Int32).toNatClampNeg s0) 85 (p3 : Int32).toNatClampNeg (0 : Int32)))))))
set_option maxRecDepth 20000 in
theorem v_X12_settle_79 {X : oX} {d N : Nat} {K : oK} {r40 : (Int32 → Int32 → Int32 → oM → Option (Unit × oM))} {p1 : Int32} {p2 : Int32} {p3 : Int32} {s0 : Int32} {s1 : Int32} {M : oM} {v : Unit} {M' : oM}  (hd : 1 ≤ d) (hK : oSR K)  (hr40 : ∀ (p1 : Int32) (p2 : Int32) (p3 : Int32) (M : oM) (v : Unit) (M' : oM) , r40 p1 p2 p3 M = some (v, M') → oEv X d J_X12_settle 40 [some (.ref 59), some (.int p1), some (.int p2), some (.int p3), none, none] [] K M none K M') (h : f_X12_settle_79 N K r40 p1 p2 p3 s0 s1 M = some (v, M')) : oEv X d J_X12_settle 79 [some (.ref 59), some (.int p1), some (.int p2), some (.int p3), none, none] [(.int s0), (.int s1), (.ref 84)] K M none K M' := by
  unfold f_X12_settle_79 at h
  obtain ⟨i4, h⟩ := oIx_some h
  refine oe_iast (pc := 79) d_X12_settle_79 (oLt hK (a := 84) (Nat.le_of_ble_eq_true rfl)) (oSha hK (a := 84) (Nat.le_of_ble_eq_true rfl) rfl) i4 ?_
  refine oe_aload_n (pc := 80) d_X12_settle_80 rfl ?_
  refine oe_getr (pc := 81) d_X12_settle_81 fl_X12_86 ock12 (k := 36) (b := 85) (Nat.le_of_ble_eq_true rfl) (by decide) (oLt hK (a := 59) (Nat.le_of_ble_eq_true rfl)) (oSho hK (a := 59) (Nat.le_of_ble_eq_true rfl) rfl) (oRfK hK rfl) ?_
  refine oe_iload_n (pc := 84) d_X12_settle_84 rfl ?_
  refine oe_iconst (pc := 85) (v := 0) d_X12_settle_85 rfl ?_
  obtain ⟨i5, h⟩ := oIx_some h
  refine oe_iast (pc := 86) d_X12_settle_86 (oLt hK (a := 85) (Nat.le_of_ble_eq_true rfl)) (oSha hK (a := 85) (Nat.le_of_ble_eq_true rfl) rfl) i5 ?_
  refine oe_aload_n (pc := 87) d_X12_settle_87 rfl ?_
  refine oe_getr (pc := 88) d_X12_settle_88 fl_X12_74 ock12 (k := 32) (b := 81) (Nat.le_of_ble_eq_true rfl) (by decide) (oLt hK (a := 59) (Nat.le_of_ble_eq_true rfl)) (oSho hK (a := 59) (Nat.le_of_ble_eq_true rfl) rfl) (oRfK hK rfl) ?_
  refine oe_iload_n (pc := 91) d_X12_settle_91 rfl ?_
  obtain ⟨i6, h⟩ := oIx_some h
  refine oe_iald (pc := 92) d_X12_settle_92 (oLt hK (a := 81) (Nat.le_of_ble_eq_true rfl)) (oSha hK (a := 81) (Nat.le_of_ble_eq_true rfl) rfl) i6 ?_
  refine oe_iconst (pc := 93) (v := 1) d_X12_settle_93 rfl ?_
  refine oe_icmp_ne (pc := 94) (tgt := 158) d_X12_settle_94 (by decide) (fun c7 => ?_) (fun c7 => ?_)
  · replace h := (if_neg c7).symm.trans h
    exact v_X12_settle_158 hd hK  hr40 h
  · replace h := (if_pos c7).symm.trans h
    refine oe_aload_n (pc := 97) d_X12_settle_97 rfl ?_
    refine oe_getr (pc := 98) d_X12_settle_98 fl_X12_77 ock12 (k := 33) (b := 82) (Nat.le_of_ble_eq_true rfl) (by decide) (oLt hK (a := 59) (Nat.le_of_ble_eq_true rfl)) (oSho hK (a := 59) (Nat.le_of_ble_eq_true rfl) rfl) (oRfK hK rfl) ?_
    refine oe_iload_n (pc := 101) d_X12_settle_101 rfl ?_
    obtain ⟨i8, h⟩ := oIx_some h
    refine oe_iald (pc := 102) d_X12_settle_102 (oLt hK (a := 82) (Nat.le_of_ble_eq_true rfl)) (oSha hK (a := 82) (Nat.le_of_ble_eq_true rfl) rfl) i8 ?_
    refine oe_istore (pc := 103) (L2 := [_, _, _, _, _, _]) d_X12_settle_103 rfl (Nat.le_of_ble_eq_true rfl) rfl ?_
    refine oe_aload_n (pc := 105) d_X12_settle_105 rfl ?_
    refine oe_getr (pc := 106) d_X12_settle_106 fl_X12_22 ock12 (k := 8) (b := 64) (Nat.le_of_ble_eq_true rfl) (by decide) (oLt hK (a := 59) (Nat.le_of_ble_eq_true rfl)) (oSho hK (a := 59) (Nat.le_of_ble_eq_true rfl) rfl) (oRfK hK rfl) ?_
    refine oe_iload (pc := 109) d_X12_settle_109 rfl ?_
    obtain ⟨i9, h⟩ := oIx_some h
    refine oe_iald (pc := 111) d_X12_settle_111 (oLt hK (a := 64) (Nat.le_of_ble_eq_true rfl)) (oSha hK (a := 64) (Nat.le_of_ble_eq_true rfl) rfl) i9 ?_
    refine oe_iload_n (pc := 112) d_X12_settle_112 rfl ?_
    refine oe_icmp_ne (pc := 113) (tgt := 126) d_X12_settle_113 (by decide) (fun c10 => ?_) (fun c10 => ?_)
    · replace h := (if_neg c10).symm.trans h
      refine oe_aload_n (pc := 126) d_X12_settle_126 rfl ?_
      refine oe_getr (pc := 127) d_X12_settle_127 fl_X12_22 ock12 (k := 8) (b := 64) (Nat.le_of_ble_eq_true rfl) (by decide) (oLt hK (a := 59) (Nat.le_of_ble_eq_true rfl)) (oSho hK (a := 59) (Nat.le_of_ble_eq_true rfl) rfl) (oRfK hK rfl) ?_
      refine oe_iload (pc := 130) d_X12_settle_130 rfl ?_
      obtain ⟨i11, h⟩ := oIx_some h
      refine oe_iald (pc := 132) d_X12_settle_132 (oLt hK (a := 64) (Nat.le_of_ble_eq_true rfl)) (oSha hK (a := 64) (Nat.le_of_ble_eq_true rfl) rfl) i11 ?_
      refine oEv.fg [true, true, true, true, false, false] ?_
      exact v_X12_settle_133 hd hK  hr40 h
    · replace h := (if_pos c10).symm.trans h
      refine oe_aload_n (pc := 116) d_X12_settle_116 rfl ?_
      refine oe_getr (pc := 117) d_X12_settle_117 fl_X12_25 ock12 (k := 9) (b := 65) (Nat.le_of_ble_eq_true rfl) (by decide) (oLt hK (a := 59) (Nat.le_of_ble_eq_true rfl)) (oSho hK (a := 59) (Nat.le_of_ble_eq_true rfl) rfl) (oRfK hK rfl) ?_
      refine oe_iload (pc := 120) d_X12_settle_120 rfl ?_
      obtain ⟨i15, h⟩ := oIx_some h
      refine oe_iald (pc := 122) d_X12_settle_122 (oLt hK (a := 65) (Nat.le_of_ble_eq_true rfl)) (oSha hK (a := 65) (Nat.le_of_ble_eq_true rfl) rfl) i15 ?_
      refine oe_goto (pc := 123) (tgt := 133) d_X12_settle_123 (by decide) ?_
      refine oEv.fg [true, true, true, true, false, false] ?_
      exact v_X12_settle_133 hd hK  hr40 h
def f_X12_settle_74 (N : Nat) (K : oK) (r40 : (Int32 → Int32 → Int32 → oM → Option (Unit × oM))) (p1 : Int32) (p2 : Int32) (p3 : Int32) (s0 : Int32) (M : oM) : Option (Unit × oM) :=
  (f_X12_settle_79 N K r40 p1 p2 p3 2 s0 M)
set_option maxRecDepth 20000 in
theorem v_X12_settle_74 {X : oX} {d N : Nat} {K : oK} {r40 : (Int32 → Int32 → Int32 → oM → Option (Unit × oM))} {p1 : Int32} {p2 : Int32} {p3 : Int32} {s0 : Int32} {M : oM} {v : Unit} {M' : oM}  (hd : 1 ≤ d) (hK : oSR K)  (hr40 : ∀ (p1 : Int32) (p2 : Int32) (p3 : Int32) (M : oM) (v : Unit) (M' : oM) , r40 p1 p2 p3 M = some (v, M') → oEv X d J_X12_settle 40 [some (.ref 59), some (.int p1), some (.int p2), some (.int p3), none, none] [] K M none K M') (h : f_X12_settle_74 N K r40 p1 p2 p3 s0 M = some (v, M')) : oEv X d J_X12_settle 74 [some (.ref 59), some (.int p1), some (.int p2), some (.int p3), none, none] [(.int s0), (.ref 84)] K M none K M' := by
  unfold f_X12_settle_74 at h
  refine oe_iconst (pc := 74) (v := 2) d_X12_settle_74 rfl ?_
  refine oe_goto (pc := 75) (tgt := 79) d_X12_settle_75 (by decide) ?_
  exact v_X12_settle_79 hd hK  hr40 h
def f_X12_settle_78 (N : Nat) (K : oK) (r40 : (Int32 → Int32 → Int32 → oM → Option (Unit × oM))) (p1 : Int32) (p2 : Int32) (p3 : Int32) (s0 : Int32) (M : oM) : Option (Unit × oM) :=
  (f_X12_settle_79 N K r40 p1 p2 p3 1 s0 M)
set_option maxRecDepth 20000 in
theorem v_X12_settle_78 {X : oX} {d N : Nat} {K : oK} {r40 : (Int32 → Int32 → Int32 → oM → Option (Unit × oM))} {p1 : Int32} {p2 : Int32} {p3 : Int32} {s0 : Int32} {M : oM} {v : Unit} {M' : oM}  (hd : 1 ≤ d) (hK : oSR K)  (hr40 : ∀ (p1 : Int32) (p2 : Int32) (p3 : Int32) (M : oM) (v : Unit) (M' : oM) , r40 p1 p2 p3 M = some (v, M') → oEv X d J_X12_settle 40 [some (.ref 59), some (.int p1), some (.int p2), some (.int p3), none, none] [] K M none K M') (h : f_X12_settle_78 N K r40 p1 p2 p3 s0 M = some (v, M')) : oEv X d J_X12_settle 78 [some (.ref 59), some (.int p1), some (.int p2), some (.int p3), none, none] [(.int s0), (.ref 84)] K M none K M' := by
  unfold f_X12_settle_78 at h
  refine oe_iconst (pc := 78) (v := 1) d_X12_settle_78 rfl ?_
  exact v_X12_settle_79 hd hK  hr40 h
def f_X12_settle_40 (N : Nat) (K : oK)  : Nat → Int32 → Int32 → Int32 → oM → Option (Unit × oM)
  | 0, _, _, _, _ => none
  | n + 1, p1, p2, p3, M => (fun r40 => (if (M.1 59 31) ≤ p3 then some ((), M) else (if (M.1 59 29) = 2 then (f_X12_settle_74 N K r40 p1 p2 p3 p3 M) else (if (M.1 59 29) = 4 then (if p3 ≤ p1 then (f_X12_settle_78 N K r40 p1 p2 p3 p3 M) else (f_X12_settle_74 N K r40 p1 p2 p3 p3 M)) else (f_X12_settle_78 N K r40 p1 p2 p3 p3 M))))) (f_X12_settle_40 N K  n)
set_option maxRecDepth 20000 in
theorem v_X12_settle_40_L {X : oX} {d N : Nat} {K : oK}  (hd : 1 ≤ d) (hK : oSR K)  : ∀ (n : Nat) (p1 : Int32) (p2 : Int32) (p3 : Int32) (M : oM) (v : Unit) (M' : oM)  , f_X12_settle_40 N K  n p1 p2 p3 M = some (v, M') → oEv X d J_X12_settle 40 [some (.ref 59), some (.int p1), some (.int p2), some (.int p3), none, none] [] K M none K M' := by
  intro n
  induction n with
  | zero =>
    intro p1 p2 p3 M v M'   h
    cases h
  | succ n hr40 =>
    intro p1 p2 p3 M v M'   h
    refine oe_iload_n (pc := 40) d_X12_settle_40 rfl ?_
    refine oe_aload_n (pc := 41) d_X12_settle_41 rfl ?_
    refine oe_getf (pc := 42) d_X12_settle_42 fl_X12_246 ock12 (k := 31) (Nat.le_of_ble_eq_true rfl) rfl (oLt hK (a := 59) (Nat.le_of_ble_eq_true rfl)) (oSho hK (a := 59) (Nat.le_of_ble_eq_true rfl) rfl) ?_
    refine oe_icmp_ge (pc := 45) (tgt := 164) d_X12_settle_45 (by decide) (fun c2 => ?_) (fun c2 => ?_)
    · replace h := (if_pos c2).symm.trans h
      obtain ⟨rfl, rfl⟩ := oRes h
      exact oe_vret (pc := 164) d_X12_settle_164 rfl
    · replace h := (if_neg c2).symm.trans h
      refine oe_aload_n (pc := 48) d_X12_settle_48 rfl ?_
      refine oe_getr (pc := 49) d_X12_settle_49 fl_X12_83 ock12 (k := 35) (b := 84) (Nat.le_of_ble_eq_true rfl) (by decide) (oLt hK (a := 59) (Nat.le_of_ble_eq_true rfl)) (oSho hK (a := 59) (Nat.le_of_ble_eq_true rfl) rfl) (oRfK hK rfl) ?_
      refine oe_iload_n (pc := 52) d_X12_settle_52 rfl ?_
      refine oe_aload_n (pc := 53) d_X12_settle_53 rfl ?_
      refine oe_getf (pc := 54) d_X12_settle_54 fl_X12_252 ock12 (k := 29) (Nat.le_of_ble_eq_true rfl) rfl (oLt hK (a := 59) (Nat.le_of_ble_eq_true rfl)) (oSho hK (a := 59) (Nat.le_of_ble_eq_true rfl) rfl) ?_
      refine oe_iconst (pc := 57) (v := 2) d_X12_settle_57 rfl ?_
      refine oe_icmp_eq (pc := 58) (tgt := 74) d_X12_settle_58 (by decide) (fun c3 => ?_) (fun c3 => ?_)
      · replace h := (if_pos c3).symm.trans h
        exact v_X12_settle_74 hd hK  hr40 h
      · replace h := (if_neg c3).symm.trans h
        refine oe_aload_n (pc := 61) d_X12_settle_61 rfl ?_
        refine oe_getf (pc := 62) d_X12_settle_62 fl_X12_252 ock12 (k := 29) (Nat.le_of_ble_eq_true rfl) rfl (oLt hK (a := 59) (Nat.le_of_ble_eq_true rfl)) (oSho hK (a := 59) (Nat.le_of_ble_eq_true rfl) rfl) ?_
        refine oe_iconst (pc := 65) (v := 4) d_X12_settle_65 rfl ?_
        refine oe_icmp_ne (pc := 66) (tgt := 78) d_X12_settle_66 (by decide) (fun c16 => ?_) (fun c16 => ?_)
        · replace h := (if_neg c16).symm.trans h
          exact v_X12_settle_78 hd hK  hr40 h
        · replace h := (if_pos c16).symm.trans h
          refine oe_iload_n (pc := 69) d_X12_settle_69 rfl ?_
          refine oe_iload_n (pc := 70) d_X12_settle_70 rfl ?_
          refine oe_icmp_le (pc := 71) (tgt := 78) d_X12_settle_71 (by decide) (fun c17 => ?_) (fun c17 => ?_)
          · replace h := (if_pos c17).symm.trans h
            exact v_X12_settle_78 hd hK  hr40 h
          · replace h := (if_neg c17).symm.trans h
            exact v_X12_settle_74 hd hK  hr40 h
theorem v_X12_settle_40 {X : oX} {d N : Nat} {K : oK}  {p1 : Int32} {p2 : Int32} {p3 : Int32} {M : oM} {v : Unit} {M' : oM}  (hd : 1 ≤ d) (hK : oSR K)   (h : f_X12_settle_40 N K  N p1 p2 p3 M = some (v, M')) : oEv X d J_X12_settle 40 [some (.ref 59), some (.int p1), some (.int p2), some (.int p3), none, none] [] K M none K M' := v_X12_settle_40_L hd hK  N p1 p2 p3 M v M'   h
def f_X12_settle_26 (N : Nat) (K : oK) (r4 : (Int32 → Int32 → oM → Option (Unit × oM))) (p2 : Int32) (s0 : Int32) (M : oM) : Option (Unit × oM) :=
  (r4 s0 (p2 + 1) M)
set_option maxRecDepth 20000 in
theorem v_X12_settle_26 {X : oX} {d N : Nat} {K : oK} {r4 : (Int32 → Int32 → oM → Option (Unit × oM))} {p2 : Int32} {s0 : Int32} {M : oM} {v : Unit} {M' : oM}  (hd : 1 ≤ d) (hK : oSR K)  (hr4 : ∀ (p1 : Int32) (p2 : Int32) (M : oM) (v : Unit) (M' : oM) , r4 p1 p2 M = some (v, M') → oEv X d J_X12_settle 4 [some (.ref 59), some (.int p1), some (.int p2), none, none, none] [] K M none K M') (h : f_X12_settle_26 N K r4 p2 s0 M = some (v, M')) : oEv X d J_X12_settle 26 [some (.ref 59), none, some (.int p2), none, none, none] [(.int s0)] K M none K M' := by
  unfold f_X12_settle_26 at h
  refine oe_istore_n (pc := 26) (L2 := [_, _, _, _, _, _]) d_X12_settle_26 rfl rfl (Nat.le_of_ble_eq_true rfl) rfl ?_
  refine oe_iinc (pc := 27) (v := (p2 + 1)) (L2 := [_, _, _, _, _, _]) d_X12_settle_27 rfl rfl rfl (Nat.le_of_ble_eq_true rfl) rfl ?_
  refine oe_goto (pc := 30) (tgt := 4) d_X12_settle_30 (by decide) ?_
  exact hr4 _ _ _ _ _ h
def f_X12_settle_4 (N : Nat) (K : oK)  : Nat → Int32 → Int32 → oM → Option (Unit × oM)
  | 0, _, _, _ => none
  | n + 1, p1, p2, M => (fun r4 => (if (M.1 59 31) ≤ p2 then (f_X12_settle_40 N K  N p1 (M.1 59 30) 0 M) else oIx (p2) 25 ((if (M.1 81 (p2 : Int32).toNatClampNeg) = 0 then (f_X12_settle_26 N K r4 p2 p2 M) else (f_X12_settle_26 N K r4 p2 p1 M))))) (f_X12_settle_4 N K  n)
set_option maxRecDepth 20000 in
theorem v_X12_settle_4_L {X : oX} {d N : Nat} {K : oK}  (hd : 1 ≤ d) (hK : oSR K)  : ∀ (n : Nat) (p1 : Int32) (p2 : Int32) (M : oM) (v : Unit) (M' : oM)  , f_X12_settle_4 N K  n p1 p2 M = some (v, M') → oEv X d J_X12_settle 4 [some (.ref 59), some (.int p1), some (.int p2), none, none, none] [] K M none K M' := by
  intro n
  induction n with
  | zero =>
    intro p1 p2 M v M'   h
    cases h
  | succ n hr4 =>
    intro p1 p2 M v M'   h
    refine oe_iload_n (pc := 4) d_X12_settle_4 rfl ?_
    refine oe_aload_n (pc := 5) d_X12_settle_5 rfl ?_
    refine oe_getf (pc := 6) d_X12_settle_6 fl_X12_246 ock12 (k := 31) (Nat.le_of_ble_eq_true rfl) rfl (oLt hK (a := 59) (Nat.le_of_ble_eq_true rfl)) (oSho hK (a := 59) (Nat.le_of_ble_eq_true rfl) rfl) ?_
    refine oe_icmp_ge (pc := 9) (tgt := 33) d_X12_settle_9 (by decide) (fun c1 => ?_) (fun c1 => ?_)
    · replace h := (if_pos c1).symm.trans h
      refine oe_aload_n (pc := 33) d_X12_settle_33 rfl ?_
      refine oe_getf (pc := 34) d_X12_settle_34 fl_X12_249 ock12 (k := 30) (Nat.le_of_ble_eq_true rfl) rfl (oLt hK (a := 59) (Nat.le_of_ble_eq_true rfl)) (oSho hK (a := 59) (Nat.le_of_ble_eq_true rfl) rfl) ?_
      refine oe_istore_n (pc := 37) (L2 := [_, _, _, _, _, _]) d_X12_settle_37 rfl rfl (Nat.le_of_ble_eq_true rfl) rfl ?_
      refine oe_iconst (pc := 38) (v := 0) d_X12_settle_38 rfl ?_
      refine oe_istore_n (pc := 39) (L2 := [_, _, _, _, _, _]) d_X12_settle_39 rfl rfl (Nat.le_of_ble_eq_true rfl) rfl ?_
      exact v_X12_settle_40 hd hK   h
    · replace h := (if_neg c1).symm.trans h
      refine oe_aload_n (pc := 12) d_X12_settle_12 rfl ?_
      refine oe_getr (pc := 13) d_X12_settle_13 fl_X12_74 ock12 (k := 32) (b := 81) (Nat.le_of_ble_eq_true rfl) (by decide) (oLt hK (a := 59) (Nat.le_of_ble_eq_true rfl)) (oSho hK (a := 59) (Nat.le_of_ble_eq_true rfl) rfl) (oRfK hK rfl) ?_
      refine oe_iload_n (pc := 16) d_X12_settle_16 rfl ?_
      obtain ⟨i18, h⟩ := oIx_some h
      refine oe_iald (pc := 17) d_X12_settle_17 (oLt hK (a := 81) (Nat.le_of_ble_eq_true rfl)) (oSha hK (a := 81) (Nat.le_of_ble_eq_true rfl) rfl) i18 ?_
      refine oe_if_ne (pc := 18) (tgt := 25) d_X12_settle_18 (by decide) (fun c19 => ?_) (fun c19 => ?_)
      · replace h := (if_neg c19).symm.trans h
        refine oe_iload_n (pc := 25) d_X12_settle_25 rfl ?_
        refine oEv.fg [true, false, true, false, false, false] ?_
        exact v_X12_settle_26 hd hK  hr4 h
      · replace h := (if_pos c19).symm.trans h
        refine oe_iload_n (pc := 21) d_X12_settle_21 rfl ?_
        refine oe_goto (pc := 22) (tgt := 26) d_X12_settle_22 (by decide) ?_
        refine oEv.fg [true, false, true, false, false, false] ?_
        exact v_X12_settle_26 hd hK  hr4 h
theorem v_X12_settle_4 {X : oX} {d N : Nat} {K : oK}  {p1 : Int32} {p2 : Int32} {M : oM} {v : Unit} {M' : oM}  (hd : 1 ≤ d) (hK : oSR K)   (h : f_X12_settle_4 N K  N p1 p2 M = some (v, M')) : oEv X d J_X12_settle 4 [some (.ref 59), some (.int p1), some (.int p2), none, none, none] [] K M none K M' := v_X12_settle_4_L hd hK  N p1 p2 M v M'   h
def f_X12_settle (N : Nat) (K : oK)  (M : oM) : Option (Unit × oM) :=
  (f_X12_settle_4 N K  N (-1) 0 M)
set_option maxRecDepth 20000 in
theorem v_X12_settle {X : oX} {N : Nat} {K : oK}  {M : oM} {v : Unit} {M' : oM} (hK : oSR K)  (h : f_X12_settle N K  M = some (v, M')) : oMet X 1 J_X12_settle [(.ref 59)] K M none K M' := by
  unfold f_X12_settle at h
  refine oMet_of (L := [some (.ref 59), none, none, none, none, none]) jJ_X12_settle.1 rfl (Nat.le_of_ble_eq_true rfl) rfl (Nat.le_refl _) (Nat.le_refl _) ?_
  have hd : 1 ≤ 1 := Nat.le_refl _
  refine oe_iconst (pc := 0) (v := (-1)) d_X12_settle_0 rfl ?_
  refine oe_istore_n (pc := 1) (L2 := [_, _, _, _, _, _]) d_X12_settle_1 rfl rfl (Nat.le_of_ble_eq_true rfl) rfl ?_
  refine oe_iconst (pc := 2) (v := 0) d_X12_settle_2 rfl ?_
  refine oe_istore_n (pc := 3) (L2 := [_, _, _, _, _, _]) d_X12_settle_3 rfl rfl (Nat.le_of_ble_eq_true rfl) rfl ?_
  exact v_X12_settle_4 hd hK   h
theorem d_X12_think_0 : decode J_X12_think.2.1 0 = .ok (.aload_n 0, 1) := by decide +kernel
theorem d_X12_think_1 : decode J_X12_think.2.1 1 = .ok (.aload_n 0, 1) := by decide +kernel
theorem d_X12_think_2 : decode J_X12_think.2.1 2 = .ok (.getfield 49, 3) := by decide +kernel
theorem d_X12_think_5 : decode J_X12_think.2.1 5 = .ok (.iload_n 1, 1) := by decide +kernel
theorem d_X12_think_6 : decode J_X12_think.2.1 6 = .ok (.iaload, 1) := by decide +kernel
theorem d_X12_think_7 : decode J_X12_think.2.1 7 = .ok (.putfield 252, 3) := by decide +kernel
theorem d_X12_think_10 : decode J_X12_think.2.1 10 = .ok (.aload_n 0, 1) := by decide +kernel
theorem d_X12_think_11 : decode J_X12_think.2.1 11 = .ok (.aload_n 0, 1) := by decide +kernel
theorem d_X12_think_12 : decode J_X12_think.2.1 12 = .ok (.getfield 52, 3) := by decide +kernel
theorem d_X12_think_15 : decode J_X12_think.2.1 15 = .ok (.iload_n 1, 1) := by decide +kernel
theorem d_X12_think_16 : decode J_X12_think.2.1 16 = .ok (.iaload, 1) := by decide +kernel
theorem d_X12_think_17 : decode J_X12_think.2.1 17 = .ok (.putfield 249, 3) := by decide +kernel
theorem d_X12_think_20 : decode J_X12_think.2.1 20 = .ok (.aload_n 0, 1) := by decide +kernel
theorem d_X12_think_21 : decode J_X12_think.2.1 21 = .ok (.iconst 0, 1) := by decide +kernel
theorem d_X12_think_22 : decode J_X12_think.2.1 22 = .ok (.putfield 246, 3) := by decide +kernel
theorem d_X12_think_25 : decode J_X12_think.2.1 25 = .ok (.bipush 24, 2) := by decide +kernel
theorem d_X12_think_27 : decode J_X12_think.2.1 27 = .ok (.iload_n 1, 1) := by decide +kernel
theorem d_X12_think_28 : decode J_X12_think.2.1 28 = .ok (.imul, 1) := by decide +kernel
theorem d_X12_think_29 : decode J_X12_think.2.1 29 = .ok (.istore_n 2, 1) := by decide +kernel
theorem d_X12_think_30 : decode J_X12_think.2.1 30 = .ok (.iload_n 2, 1) := by decide +kernel
theorem d_X12_think_31 : decode J_X12_think.2.1 31 = .ok (.bipush 24, 2) := by decide +kernel
theorem d_X12_think_33 : decode J_X12_think.2.1 33 = .ok (.iload_n 1, 1) := by decide +kernel
theorem d_X12_think_34 : decode J_X12_think.2.1 34 = .ok (.imul, 1) := by decide +kernel
theorem d_X12_think_35 : decode J_X12_think.2.1 35 = .ok (.aload_n 0, 1) := by decide +kernel
theorem d_X12_think_36 : decode J_X12_think.2.1 36 = .ok (.getfield 58, 3) := by decide +kernel
theorem d_X12_think_39 : decode J_X12_think.2.1 39 = .ok (.iload_n 1, 1) := by decide +kernel
theorem d_X12_think_40 : decode J_X12_think.2.1 40 = .ok (.iaload, 1) := by decide +kernel
theorem d_X12_think_41 : decode J_X12_think.2.1 41 = .ok (.iadd, 1) := by decide +kernel
theorem d_X12_think_42 : decode J_X12_think.2.1 42 = .ok (.if_icmp .ge 31, 3) := by decide +kernel
theorem d_X12_think_45 : decode J_X12_think.2.1 45 = .ok (.aload_n 0, 1) := by decide +kernel
theorem d_X12_think_46 : decode J_X12_think.2.1 46 = .ok (.aload_n 0, 1) := by decide +kernel
theorem d_X12_think_47 : decode J_X12_think.2.1 47 = .ok (.getfield 61, 3) := by decide +kernel
theorem d_X12_think_50 : decode J_X12_think.2.1 50 = .ok (.iload_n 2, 1) := by decide +kernel
theorem d_X12_think_51 : decode J_X12_think.2.1 51 = .ok (.iaload, 1) := by decide +kernel
theorem d_X12_think_52 : decode J_X12_think.2.1 52 = .ok (.aload_n 0, 1) := by decide +kernel
theorem d_X12_think_53 : decode J_X12_think.2.1 53 = .ok (.getfield 64, 3) := by decide +kernel
theorem d_X12_think_56 : decode J_X12_think.2.1 56 = .ok (.iload_n 2, 1) := by decide +kernel
theorem d_X12_think_57 : decode J_X12_think.2.1 57 = .ok (.iaload, 1) := by decide +kernel
theorem d_X12_think_58 : decode J_X12_think.2.1 58 = .ok (.aload_n 0, 1) := by decide +kernel
theorem d_X12_think_59 : decode J_X12_think.2.1 59 = .ok (.getfield 67, 3) := by decide +kernel
theorem d_X12_think_62 : decode J_X12_think.2.1 62 = .ok (.iload_n 2, 1) := by decide +kernel
theorem d_X12_think_63 : decode J_X12_think.2.1 63 = .ok (.iaload, 1) := by decide +kernel
theorem d_X12_think_64 : decode J_X12_think.2.1 64 = .ok (.invokevirtual 255, 3) := by decide +kernel
theorem d_X12_think_67 : decode J_X12_think.2.1 67 = .ok (.iinc 2 1, 3) := by decide +kernel
theorem d_X12_think_70 : decode J_X12_think.2.1 70 = .ok (.goto (-40), 3) := by decide +kernel
theorem d_X12_think_73 : decode J_X12_think.2.1 73 = .ok (.aload_n 0, 1) := by decide +kernel
theorem d_X12_think_74 : decode J_X12_think.2.1 74 = .ok (.invokevirtual 259, 3) := by decide +kernel
theorem d_X12_think_77 : decode J_X12_think.2.1 77 = .ok (.return_, 1) := by decide +kernel
def f_X12_think_30 (N : Nat) (K : oK)  : Nat → Int32 → Int32 → oM → Option (Unit × oM)
  | 0, _, _, _ => none
  | n + 1, p1, p2, M => (fun r30 => oIx (p1) 20 ((if (((24 : Int32) * p1) + (M.1 76 (p1 : Int32).toNatClampNeg)) ≤ p2 then oB2 (f_X12_settle N K  M) (fun v5 M6 => some ((), M6)) else oIx (p2) 480 (oIx (p2) 480 (oIx (p2) 480 (oB2 (f_X12_adds N K (M.1 77 (p2 : Int32).toNatClampNeg) (M.1 78 (p2 : Int32).toNatClampNeg) (M.1 79 (p2 : Int32).toNatClampNeg) M) (fun v11 M12 => (r30 p1 (p2 + 1) M12)))))))) (f_X12_think_30 N K  n)
set_option maxRecDepth 20000 in
theorem v_X12_think_30_L {X : oX} {d N : Nat} {K : oK}  (hd : 2 ≤ d) (hK : oSR K)  : ∀ (n : Nat) (p1 : Int32) (p2 : Int32) (M : oM) (v : Unit) (M' : oM)  , f_X12_think_30 N K  n p1 p2 M = some (v, M') → oEv X d J_X12_think 30 [some (.ref 59), some (.int p1), some (.int p2)] [] K M none K M' := by
  intro n
  induction n with
  | zero =>
    intro p1 p2 M v M'   h
    cases h
  | succ n hr30 =>
    intro p1 p2 M v M'   h
    refine oe_iload_n (pc := 30) d_X12_think_30 rfl ?_
    refine oe_bipush (pc := 31) (v := 24) d_X12_think_31 rfl ?_
    refine oe_iload_n (pc := 33) d_X12_think_33 rfl ?_
    refine oe_imul (pc := 34) d_X12_think_34 ?_
    refine oe_aload_n (pc := 35) d_X12_think_35 rfl ?_
    refine oe_getr (pc := 36) d_X12_think_36 fl_X12_58 ock12 (k := 24) (b := 76) (Nat.le_of_ble_eq_true rfl) (by decide) (oLt hK (a := 59) (Nat.le_of_ble_eq_true rfl)) (oSho hK (a := 59) (Nat.le_of_ble_eq_true rfl) rfl) (oRfK hK rfl) ?_
    refine oe_iload_n (pc := 39) d_X12_think_39 rfl ?_
    obtain ⟨i3, h⟩ := oIx_some h
    refine oe_iald (pc := 40) d_X12_think_40 (oLt hK (a := 76) (Nat.le_of_ble_eq_true rfl)) (oSha hK (a := 76) (Nat.le_of_ble_eq_true rfl) rfl) i3 ?_
    refine oe_iadd (pc := 41) d_X12_think_41 ?_
    refine oe_icmp_ge (pc := 42) (tgt := 73) d_X12_think_42 (by decide) (fun c4 => ?_) (fun c4 => ?_)
    · replace h := (if_pos c4).symm.trans h
      refine oe_aload_n (pc := 73) d_X12_think_73 rfl ?_
      obtain ⟨v5, M6, q7, h⟩ := oB2_some h
      refine oe_callV (pc := 74) (ci := 12) d_X12_think_74 (v_X12_settle hK  q7) (by omega) ml_X12_259 jJ_X12_settle rfl rfl (oLt hK (a := 59) (Nat.le_of_ble_eq_true rfl)) (oSho hK (a := 59) (Nat.le_of_ble_eq_true rfl) rfl) ock12 rfl (Nat.le_of_ble_eq_true rfl) ⟨Nat.le_refl _, Nat.le_refl _⟩ ⟨Nat.le_refl _, Nat.le_refl _⟩ ?_
      obtain ⟨rfl, rfl⟩ := oRes h
      exact oe_vret (pc := 77) d_X12_think_77 rfl
    · replace h := (if_neg c4).symm.trans h
      refine oe_aload_n (pc := 45) d_X12_think_45 rfl ?_
      refine oe_aload_n (pc := 46) d_X12_think_46 rfl ?_
      refine oe_getr (pc := 47) d_X12_think_47 fl_X12_61 ock12 (k := 25) (b := 77) (Nat.le_of_ble_eq_true rfl) (by decide) (oLt hK (a := 59) (Nat.le_of_ble_eq_true rfl)) (oSho hK (a := 59) (Nat.le_of_ble_eq_true rfl) rfl) (oRfK hK rfl) ?_
      refine oe_iload_n (pc := 50) d_X12_think_50 rfl ?_
      obtain ⟨i8, h⟩ := oIx_some h
      refine oe_iald (pc := 51) d_X12_think_51 (oLt hK (a := 77) (Nat.le_of_ble_eq_true rfl)) (oSha hK (a := 77) (Nat.le_of_ble_eq_true rfl) rfl) i8 ?_
      refine oe_aload_n (pc := 52) d_X12_think_52 rfl ?_
      refine oe_getr (pc := 53) d_X12_think_53 fl_X12_64 ock12 (k := 26) (b := 78) (Nat.le_of_ble_eq_true rfl) (by decide) (oLt hK (a := 59) (Nat.le_of_ble_eq_true rfl)) (oSho hK (a := 59) (Nat.le_of_ble_eq_true rfl) rfl) (oRfK hK rfl) ?_
      refine oe_iload_n (pc := 56) d_X12_think_56 rfl ?_
      obtain ⟨i9, h⟩ := oIx_some h
      refine oe_iald (pc := 57) d_X12_think_57 (oLt hK (a := 78) (Nat.le_of_ble_eq_true rfl)) (oSha hK (a := 78) (Nat.le_of_ble_eq_true rfl) rfl) i9 ?_
      refine oe_aload_n (pc := 58) d_X12_think_58 rfl ?_
      refine oe_getr (pc := 59) d_X12_think_59 fl_X12_67 ock12 (k := 27) (b := 79) (Nat.le_of_ble_eq_true rfl) (by decide) (oLt hK (a := 59) (Nat.le_of_ble_eq_true rfl)) (oSho hK (a := 59) (Nat.le_of_ble_eq_true rfl) rfl) (oRfK hK rfl) ?_
      refine oe_iload_n (pc := 62) d_X12_think_62 rfl ?_
      obtain ⟨i10, h⟩ := oIx_some h
      refine oe_iald (pc := 63) d_X12_think_63 (oLt hK (a := 79) (Nat.le_of_ble_eq_true rfl)) (oSha hK (a := 79) (Nat.le_of_ble_eq_true rfl) rfl) i10 ?_
      obtain ⟨v11, M12, q13, h⟩ := oB2_some h
      refine oe_callV (pc := 64) (ci := 12) d_X12_think_64 (v_X12_adds hK  q13) (by omega) ml_X12_255 jJ_X12_adds rfl rfl (oLt hK (a := 59) (Nat.le_of_ble_eq_true rfl)) (oSho hK (a := 59) (Nat.le_of_ble_eq_true rfl) rfl) ock12 rfl (Nat.le_of_ble_eq_true rfl) ⟨Nat.le_refl _, Nat.le_refl _⟩ ⟨Nat.le_refl _, Nat.le_refl _⟩ ?_
      refine oe_iinc (pc := 67) (v := (p2 + 1)) (L2 := [_, _, _]) d_X12_think_67 rfl rfl rfl (Nat.le_of_ble_eq_true rfl) rfl ?_
      refine oe_goto (pc := 70) (tgt := 30) d_X12_think_70 (by decide) ?_
      exact hr30 _ _ _ _ _ h
theorem v_X12_think_30 {X : oX} {d N : Nat} {K : oK}  {p1 : Int32} {p2 : Int32} {M : oM} {v : Unit} {M' : oM}  (hd : 2 ≤ d) (hK : oSR K)   (h : f_X12_think_30 N K  N p1 p2 M = some (v, M')) : oEv X d J_X12_think 30 [some (.ref 59), some (.int p1), some (.int p2)] [] K M none K M' := v_X12_think_30_L hd hK  N p1 p2 M v M'   h
def f_X12_think (N : Nat) (K : oK) (p1 : Int32) (M : oM) : Option (Unit × oM) :=
  oIx (p1) 20 (oIx (p1) 20 ((f_X12_think_30 N K  N p1 ((24 : Int32) * p1) (oUp (oUp (oUp M 59 29 (M.1 73 (p1 : Int32).toNatClampNeg)) 59 30 ((oUp M 59 29 (M.1 73 (p1 : Int32).toNatClampNeg)).1 74 (p1 : Int32).toNatClampNeg)) 59 31 (0 : Int32)))))
set_option maxRecDepth 20000 in
theorem v_X12_think {X : oX} {N : Nat} {K : oK} {p1 : Int32} {M : oM} {v : Unit} {M' : oM} (hK : oSR K)  (h : f_X12_think N K p1 M = some (v, M')) : oMet X 2 J_X12_think [(.ref 59), (.int p1)] K M none K M' := by
  unfold f_X12_think at h
  refine oMet_of (L := [some (.ref 59), some (.int p1), none]) jJ_X12_think.1 rfl (Nat.le_of_ble_eq_true rfl) rfl (Nat.le_refl _) (Nat.le_refl _) ?_
  have hd : 2 ≤ 2 := Nat.le_refl _
  refine oe_aload_n (pc := 0) d_X12_think_0 rfl ?_
  refine oe_aload_n (pc := 1) d_X12_think_1 rfl ?_
  refine oe_getr (pc := 2) d_X12_think_2 fl_X12_49 ock12 (k := 21) (b := 73) (Nat.le_of_ble_eq_true rfl) (by decide) (oLt hK (a := 59) (Nat.le_of_ble_eq_true rfl)) (oSho hK (a := 59) (Nat.le_of_ble_eq_true rfl) rfl) (oRfK hK rfl) ?_
  refine oe_iload_n (pc := 5) d_X12_think_5 rfl ?_
  obtain ⟨i1, h⟩ := oIx_some h
  refine oe_iald (pc := 6) d_X12_think_6 (oLt hK (a := 73) (Nat.le_of_ble_eq_true rfl)) (oSha hK (a := 73) (Nat.le_of_ble_eq_true rfl) rfl) i1 ?_
  refine oe_putf (pc := 7) d_X12_think_7 fl_X12_252 ock12 (k := 29) (Nat.le_of_ble_eq_true rfl) rfl rfl (oLt hK (a := 59) (Nat.le_of_ble_eq_true rfl)) (oSho hK (a := 59) (Nat.le_of_ble_eq_true rfl) rfl) ?_
  refine oe_aload_n (pc := 10) d_X12_think_10 rfl ?_
  refine oe_aload_n (pc := 11) d_X12_think_11 rfl ?_
  refine oe_getr (pc := 12) d_X12_think_12 fl_X12_52 ock12 (k := 22) (b := 74) (Nat.le_of_ble_eq_true rfl) (by decide) (oLt hK (a := 59) (Nat.le_of_ble_eq_true rfl)) (oSho hK (a := 59) (Nat.le_of_ble_eq_true rfl) rfl) (oRfK hK rfl) ?_
  refine oe_iload_n (pc := 15) d_X12_think_15 rfl ?_
  obtain ⟨i2, h⟩ := oIx_some h
  refine oe_iald (pc := 16) d_X12_think_16 (oLt hK (a := 74) (Nat.le_of_ble_eq_true rfl)) (oSha hK (a := 74) (Nat.le_of_ble_eq_true rfl) rfl) i2 ?_
  refine oe_putf (pc := 17) d_X12_think_17 fl_X12_249 ock12 (k := 30) (Nat.le_of_ble_eq_true rfl) rfl rfl (oLt hK (a := 59) (Nat.le_of_ble_eq_true rfl)) (oSho hK (a := 59) (Nat.le_of_ble_eq_true rfl) rfl) ?_
  refine oe_aload_n (pc := 20) d_X12_think_20 rfl ?_
  refine oe_iconst (pc := 21) (v := 0) d_X12_think_21 rfl ?_
  refine oe_putf (pc := 22) d_X12_think_22 fl_X12_246 ock12 (k := 31) (Nat.le_of_ble_eq_true rfl) rfl rfl (oLt hK (a := 59) (Nat.le_of_ble_eq_true rfl)) (oSho hK (a := 59) (Nat.le_of_ble_eq_true rfl) rfl) ?_
  refine oe_bipush (pc := 25) (v := 24) d_X12_think_25 rfl ?_
  refine oe_iload_n (pc := 27) d_X12_think_27 rfl ?_
  refine oe_imul (pc := 28) d_X12_think_28 ?_
  refine oe_istore_n (pc := 29) (L2 := [_, _, _]) d_X12_think_29 rfl rfl (Nat.le_of_ble_eq_true rfl) rfl ?_
  exact v_X12_think_30 hd hK   h
theorem d_X12_goThrough_0 : decode J_X12_goThrough.2.1 0 = .ok (.iconst 0, 1) := by decide +kernel
theorem d_X12_goThrough_1 : decode J_X12_goThrough.2.1 1 = .ok (.istore_n 2, 1) := by decide +kernel
theorem d_X12_goThrough_2 : decode J_X12_goThrough.2.1 2 = .ok (.aload_n 0, 1) := by decide +kernel
theorem d_X12_goThrough_3 : decode J_X12_goThrough.2.1 3 = .ok (.iconst (-1), 1) := by decide +kernel
theorem d_X12_goThrough_4 : decode J_X12_goThrough.2.1 4 = .ok (.putfield 262, 3) := by decide +kernel
theorem d_X12_goThrough_7 : decode J_X12_goThrough.2.1 7 = .ok (.aload_n 0, 1) := by decide +kernel
theorem d_X12_goThrough_8 : decode J_X12_goThrough.2.1 8 = .ok (.iconst (-1), 1) := by decide +kernel
theorem d_X12_goThrough_9 : decode J_X12_goThrough.2.1 9 = .ok (.putfield 265, 3) := by decide +kernel
theorem d_X12_goThrough_12 : decode J_X12_goThrough.2.1 12 = .ok (.iconst 0, 1) := by decide +kernel
theorem d_X12_goThrough_13 : decode J_X12_goThrough.2.1 13 = .ok (.istore_n 3, 1) := by decide +kernel
theorem d_X12_goThrough_14 : decode J_X12_goThrough.2.1 14 = .ok (.iload_n 3, 1) := by decide +kernel
theorem d_X12_goThrough_15 : decode J_X12_goThrough.2.1 15 = .ok (.aload_n 0, 1) := by decide +kernel
theorem d_X12_goThrough_16 : decode J_X12_goThrough.2.1 16 = .ok (.getfield 246, 3) := by decide +kernel
theorem d_X12_goThrough_19 : decode J_X12_goThrough.2.1 19 = .ok (.if_icmp .ge 229, 3) := by decide +kernel
theorem d_X12_goThrough_22 : decode J_X12_goThrough.2.1 22 = .ok (.aload_n 0, 1) := by decide +kernel
theorem d_X12_goThrough_23 : decode J_X12_goThrough.2.1 23 = .ok (.getfield 74, 3) := by decide +kernel
theorem d_X12_goThrough_26 : decode J_X12_goThrough.2.1 26 = .ok (.iload_n 3, 1) := by decide +kernel
theorem d_X12_goThrough_27 : decode J_X12_goThrough.2.1 27 = .ok (.iaload, 1) := by decide +kernel
theorem d_X12_goThrough_28 : decode J_X12_goThrough.2.1 28 = .ok (.iconst 1, 1) := by decide +kernel
theorem d_X12_goThrough_29 : decode J_X12_goThrough.2.1 29 = .ok (.if_icmp .eq 11, 3) := by decide +kernel
theorem d_X12_goThrough_32 : decode J_X12_goThrough.2.1 32 = .ok (.iload_n 2, 1) := by decide +kernel
theorem d_X12_goThrough_33 : decode J_X12_goThrough.2.1 33 = .ok (.ifCond .ge 7, 3) := by decide +kernel
theorem d_X12_goThrough_36 : decode J_X12_goThrough.2.1 36 = .ok (.iconst 1, 1) := by decide +kernel
theorem d_X12_goThrough_37 : decode J_X12_goThrough.2.1 37 = .ok (.goto 4, 3) := by decide +kernel
theorem d_X12_goThrough_40 : decode J_X12_goThrough.2.1 40 = .ok (.iconst 0, 1) := by decide +kernel
theorem d_X12_goThrough_41 : decode J_X12_goThrough.2.1 41 = .ok (.istore 4, 2) := by decide +kernel
theorem d_X12_goThrough_43 : decode J_X12_goThrough.2.1 43 = .ok (.iconst 0, 1) := by decide +kernel
theorem d_X12_goThrough_44 : decode J_X12_goThrough.2.1 44 = .ok (.istore 5, 2) := by decide +kernel
theorem d_X12_goThrough_46 : decode J_X12_goThrough.2.1 46 = .ok (.aload_n 0, 1) := by decide +kernel
theorem d_X12_goThrough_47 : decode J_X12_goThrough.2.1 47 = .ok (.getfield 74, 3) := by decide +kernel
theorem d_X12_goThrough_50 : decode J_X12_goThrough.2.1 50 = .ok (.iload_n 3, 1) := by decide +kernel
theorem d_X12_goThrough_51 : decode J_X12_goThrough.2.1 51 = .ok (.iaload, 1) := by decide +kernel
theorem d_X12_goThrough_52 : decode J_X12_goThrough.2.1 52 = .ok (.ifCond .ne 20, 3) := by decide +kernel
theorem d_X12_goThrough_55 : decode J_X12_goThrough.2.1 55 = .ok (.iload_n 2, 1) := by decide +kernel
theorem d_X12_goThrough_56 : decode J_X12_goThrough.2.1 56 = .ok (.aload_n 0, 1) := by decide +kernel
theorem d_X12_goThrough_57 : decode J_X12_goThrough.2.1 57 = .ok (.aload_n 0, 1) := by decide +kernel
theorem d_X12_goThrough_58 : decode J_X12_goThrough.2.1 58 = .ok (.getfield 77, 3) := by decide +kernel
theorem d_X12_goThrough_61 : decode J_X12_goThrough.2.1 61 = .ok (.iload_n 3, 1) := by decide +kernel
theorem d_X12_goThrough_62 : decode J_X12_goThrough.2.1 62 = .ok (.iaload, 1) := by decide +kernel
theorem d_X12_goThrough_63 : decode J_X12_goThrough.2.1 63 = .ok (.iload_n 1, 1) := by decide +kernel
theorem d_X12_goThrough_64 : decode J_X12_goThrough.2.1 64 = .ok (.invokevirtual 219, 3) := by decide +kernel
theorem d_X12_goThrough_67 : decode J_X12_goThrough.2.1 67 = .ok (.iadd, 1) := by decide +kernel
theorem d_X12_goThrough_68 : decode J_X12_goThrough.2.1 68 = .ok (.istore_n 2, 1) := by decide +kernel
theorem d_X12_goThrough_69 : decode J_X12_goThrough.2.1 69 = .ok (.goto 113, 3) := by decide +kernel
theorem d_X12_goThrough_72 : decode J_X12_goThrough.2.1 72 = .ok (.aload_n 0, 1) := by decide +kernel
theorem d_X12_goThrough_73 : decode J_X12_goThrough.2.1 73 = .ok (.getfield 74, 3) := by decide +kernel
theorem d_X12_goThrough_76 : decode J_X12_goThrough.2.1 76 = .ok (.iload_n 3, 1) := by decide +kernel
theorem d_X12_goThrough_77 : decode J_X12_goThrough.2.1 77 = .ok (.iaload, 1) := by decide +kernel
theorem d_X12_goThrough_78 : decode J_X12_goThrough.2.1 78 = .ok (.iconst 2, 1) := by decide +kernel
theorem d_X12_goThrough_79 : decode J_X12_goThrough.2.1 79 = .ok (.if_icmp .ne 8, 3) := by decide +kernel
theorem d_X12_goThrough_82 : decode J_X12_goThrough.2.1 82 = .ok (.iconst 0, 1) := by decide +kernel
theorem d_X12_goThrough_83 : decode J_X12_goThrough.2.1 83 = .ok (.istore_n 2, 1) := by decide +kernel
theorem d_X12_goThrough_84 : decode J_X12_goThrough.2.1 84 = .ok (.goto 98, 3) := by decide +kernel
theorem d_X12_goThrough_87 : decode J_X12_goThrough.2.1 87 = .ok (.iload_n 2, 1) := by decide +kernel
theorem d_X12_goThrough_88 : decode J_X12_goThrough.2.1 88 = .ok (.istore 6, 2) := by decide +kernel
theorem d_X12_goThrough_90 : decode J_X12_goThrough.2.1 90 = .ok (.aload_n 0, 1) := by decide +kernel
theorem d_X12_goThrough_91 : decode J_X12_goThrough.2.1 91 = .ok (.getfield 7, 3) := by decide +kernel
theorem d_X12_goThrough_94 : decode J_X12_goThrough.2.1 94 = .ok (.bipush 12, 2) := by decide +kernel
theorem d_X12_goThrough_96 : decode J_X12_goThrough.2.1 96 = .ok (.aload_n 0, 1) := by decide +kernel
theorem d_X12_goThrough_97 : decode J_X12_goThrough.2.1 97 = .ok (.getfield 80, 3) := by decide +kernel
theorem d_X12_goThrough_100 : decode J_X12_goThrough.2.1 100 = .ok (.iload_n 3, 1) := by decide +kernel
theorem d_X12_goThrough_101 : decode J_X12_goThrough.2.1 101 = .ok (.iaload, 1) := by decide +kernel
theorem d_X12_goThrough_102 : decode J_X12_goThrough.2.1 102 = .ok (.iadd, 1) := by decide +kernel
theorem d_X12_goThrough_103 : decode J_X12_goThrough.2.1 103 = .ok (.iaload, 1) := by decide +kernel
theorem d_X12_goThrough_104 : decode J_X12_goThrough.2.1 104 = .ok (.istore 7, 2) := by decide +kernel
theorem d_X12_goThrough_106 : decode J_X12_goThrough.2.1 106 = .ok (.iload_n 2, 1) := by decide +kernel
theorem d_X12_goThrough_107 : decode J_X12_goThrough.2.1 107 = .ok (.aload_n 0, 1) := by decide +kernel
theorem d_X12_goThrough_108 : decode J_X12_goThrough.2.1 108 = .ok (.getfield 28, 3) := by decide +kernel
theorem d_X12_goThrough_111 : decode J_X12_goThrough.2.1 111 = .ok (.aload_n 0, 1) := by decide +kernel
theorem d_X12_goThrough_112 : decode J_X12_goThrough.2.1 112 = .ok (.getfield 77, 3) := by decide +kernel
theorem d_X12_goThrough_115 : decode J_X12_goThrough.2.1 115 = .ok (.iload_n 3, 1) := by decide +kernel
theorem d_X12_goThrough_116 : decode J_X12_goThrough.2.1 116 = .ok (.iaload, 1) := by decide +kernel
theorem d_X12_goThrough_117 : decode J_X12_goThrough.2.1 117 = .ok (.iaload, 1) := by decide +kernel
theorem d_X12_goThrough_118 : decode J_X12_goThrough.2.1 118 = .ok (.aload_n 0, 1) := by decide +kernel
theorem d_X12_goThrough_119 : decode J_X12_goThrough.2.1 119 = .ok (.aload_n 0, 1) := by decide +kernel
theorem d_X12_goThrough_120 : decode J_X12_goThrough.2.1 120 = .ok (.getfield 80, 3) := by decide +kernel
theorem d_X12_goThrough_123 : decode J_X12_goThrough.2.1 123 = .ok (.iload_n 3, 1) := by decide +kernel
theorem d_X12_goThrough_124 : decode J_X12_goThrough.2.1 124 = .ok (.iaload, 1) := by decide +kernel
theorem d_X12_goThrough_125 : decode J_X12_goThrough.2.1 125 = .ok (.aload_n 0, 1) := by decide +kernel
theorem d_X12_goThrough_126 : decode J_X12_goThrough.2.1 126 = .ok (.getfield 83, 3) := by decide +kernel
theorem d_X12_goThrough_129 : decode J_X12_goThrough.2.1 129 = .ok (.iload_n 3, 1) := by decide +kernel
theorem d_X12_goThrough_130 : decode J_X12_goThrough.2.1 130 = .ok (.iaload, 1) := by decide +kernel
theorem d_X12_goThrough_131 : decode J_X12_goThrough.2.1 131 = .ok (.iconst 2, 1) := by decide +kernel
theorem d_X12_goThrough_132 : decode J_X12_goThrough.2.1 132 = .ok (.if_icmp .ne 11, 3) := by decide +kernel
theorem d_X12_goThrough_135 : decode J_X12_goThrough.2.1 135 = .ok (.iload_n 1, 1) := by decide +kernel
theorem d_X12_goThrough_136 : decode J_X12_goThrough.2.1 136 = .ok (.iconst 1, 1) := by decide +kernel
theorem d_X12_goThrough_137 : decode J_X12_goThrough.2.1 137 = .ok (.iadd, 1) := by decide +kernel
theorem d_X12_goThrough_138 : decode J_X12_goThrough.2.1 138 = .ok (.iconst 2, 1) := by decide +kernel
theorem d_X12_goThrough_139 : decode J_X12_goThrough.2.1 139 = .ok (.idiv, 1) := by decide +kernel
theorem d_X12_goThrough_140 : decode J_X12_goThrough.2.1 140 = .ok (.goto 4, 3) := by decide +kernel
theorem d_X12_goThrough_143 : decode J_X12_goThrough.2.1 143 = .ok (.iload_n 1, 1) := by decide +kernel
theorem d_X12_goThrough_144 : decode J_X12_goThrough.2.1 144 = .ok (.invokevirtual 213, 3) := by decide +kernel
theorem d_X12_goThrough_147 : decode J_X12_goThrough.2.1 147 = .ok (.imul, 1) := by decide +kernel
theorem d_X12_goThrough_148 : decode J_X12_goThrough.2.1 148 = .ok (.isub, 1) := by decide +kernel
theorem d_X12_goThrough_149 : decode J_X12_goThrough.2.1 149 = .ok (.istore_n 2, 1) := by decide +kernel
theorem d_X12_goThrough_150 : decode J_X12_goThrough.2.1 150 = .ok (.iload_n 2, 1) := by decide +kernel
theorem d_X12_goThrough_151 : decode J_X12_goThrough.2.1 151 = .ok (.bipush 43, 2) := by decide +kernel
theorem d_X12_goThrough_153 : decode J_X12_goThrough.2.1 153 = .ok (.aload_n 0, 1) := by decide +kernel
theorem d_X12_goThrough_154 : decode J_X12_goThrough.2.1 154 = .ok (.getfield 86, 3) := by decide +kernel
theorem d_X12_goThrough_157 : decode J_X12_goThrough.2.1 157 = .ok (.iload_n 3, 1) := by decide +kernel
theorem d_X12_goThrough_158 : decode J_X12_goThrough.2.1 158 = .ok (.iaload, 1) := by decide +kernel
theorem d_X12_goThrough_159 : decode J_X12_goThrough.2.1 159 = .ok (.imul, 1) := by decide +kernel
theorem d_X12_goThrough_160 : decode J_X12_goThrough.2.1 160 = .ok (.isub, 1) := by decide +kernel
theorem d_X12_goThrough_161 : decode J_X12_goThrough.2.1 161 = .ok (.istore_n 2, 1) := by decide +kernel
theorem d_X12_goThrough_162 : decode J_X12_goThrough.2.1 162 = .ok (.iload 6, 2) := by decide +kernel
theorem d_X12_goThrough_164 : decode J_X12_goThrough.2.1 164 = .ok (.iload 7, 2) := by decide +kernel
theorem d_X12_goThrough_166 : decode J_X12_goThrough.2.1 166 = .ok (.if_icmp .gt 9, 3) := by decide +kernel
theorem d_X12_goThrough_169 : decode J_X12_goThrough.2.1 169 = .ok (.iload_n 2, 1) := by decide +kernel
theorem d_X12_goThrough_170 : decode J_X12_goThrough.2.1 170 = .ok (.iload 7, 2) := by decide +kernel
theorem d_X12_goThrough_172 : decode J_X12_goThrough.2.1 172 = .ok (.if_icmp .le 7, 3) := by decide +kernel
theorem d_X12_goThrough_175 : decode J_X12_goThrough.2.1 175 = .ok (.iconst 1, 1) := by decide +kernel
theorem d_X12_goThrough_176 : decode J_X12_goThrough.2.1 176 = .ok (.goto 4, 3) := by decide +kernel
theorem d_X12_goThrough_179 : decode J_X12_goThrough.2.1 179 = .ok (.iconst 0, 1) := by decide +kernel
theorem d_X12_goThrough_180 : decode J_X12_goThrough.2.1 180 = .ok (.istore 5, 2) := by decide +kernel
theorem d_X12_goThrough_182 : decode J_X12_goThrough.2.1 182 = .ok (.aload_n 0, 1) := by decide +kernel
theorem d_X12_goThrough_183 : decode J_X12_goThrough.2.1 183 = .ok (.getfield 89, 3) := by decide +kernel
theorem d_X12_goThrough_186 : decode J_X12_goThrough.2.1 186 = .ok (.iload_n 3, 1) := by decide +kernel
theorem d_X12_goThrough_187 : decode J_X12_goThrough.2.1 187 = .ok (.iload_n 2, 1) := by decide +kernel
theorem d_X12_goThrough_188 : decode J_X12_goThrough.2.1 188 = .ok (.iastore, 1) := by decide +kernel
theorem d_X12_goThrough_189 : decode J_X12_goThrough.2.1 189 = .ok (.aload_n 0, 1) := by decide +kernel
theorem d_X12_goThrough_190 : decode J_X12_goThrough.2.1 190 = .ok (.iload 4, 2) := by decide +kernel
theorem d_X12_goThrough_192 : decode J_X12_goThrough.2.1 192 = .ok (.ifCond .eq 14, 3) := by decide +kernel
theorem d_X12_goThrough_195 : decode J_X12_goThrough.2.1 195 = .ok (.aload_n 0, 1) := by decide +kernel
theorem d_X12_goThrough_196 : decode J_X12_goThrough.2.1 196 = .ok (.getfield 262, 3) := by decide +kernel
theorem d_X12_goThrough_199 : decode J_X12_goThrough.2.1 199 = .ok (.ifCond .ge 7, 3) := by decide +kernel
theorem d_X12_goThrough_202 : decode J_X12_goThrough.2.1 202 = .ok (.iload_n 3, 1) := by decide +kernel
theorem d_X12_goThrough_203 : decode J_X12_goThrough.2.1 203 = .ok (.goto 7, 3) := by decide +kernel
theorem d_X12_goThrough_206 : decode J_X12_goThrough.2.1 206 = .ok (.aload_n 0, 1) := by decide +kernel
theorem d_X12_goThrough_207 : decode J_X12_goThrough.2.1 207 = .ok (.getfield 262, 3) := by decide +kernel
theorem d_X12_goThrough_210 : decode J_X12_goThrough.2.1 210 = .ok (.putfield 262, 3) := by decide +kernel
theorem d_X12_goThrough_213 : decode J_X12_goThrough.2.1 213 = .ok (.aload_n 0, 1) := by decide +kernel
theorem d_X12_goThrough_214 : decode J_X12_goThrough.2.1 214 = .ok (.iload 4, 2) := by decide +kernel
theorem d_X12_goThrough_216 : decode J_X12_goThrough.2.1 216 = .ok (.ifCond .ne 8, 3) := by decide +kernel
theorem d_X12_goThrough_219 : decode J_X12_goThrough.2.1 219 = .ok (.iload 5, 2) := by decide +kernel
theorem d_X12_goThrough_221 : decode J_X12_goThrough.2.1 221 = .ok (.ifCond .eq 14, 3) := by decide +kernel
theorem d_X12_goThrough_224 : decode J_X12_goThrough.2.1 224 = .ok (.aload_n 0, 1) := by decide +kernel
theorem d_X12_goThrough_225 : decode J_X12_goThrough.2.1 225 = .ok (.getfield 265, 3) := by decide +kernel
theorem d_X12_goThrough_228 : decode J_X12_goThrough.2.1 228 = .ok (.ifCond .ge 7, 3) := by decide +kernel
theorem d_X12_goThrough_231 : decode J_X12_goThrough.2.1 231 = .ok (.iload_n 3, 1) := by decide +kernel
theorem d_X12_goThrough_232 : decode J_X12_goThrough.2.1 232 = .ok (.goto 7, 3) := by decide +kernel
theorem d_X12_goThrough_235 : decode J_X12_goThrough.2.1 235 = .ok (.aload_n 0, 1) := by decide +kernel
theorem d_X12_goThrough_236 : decode J_X12_goThrough.2.1 236 = .ok (.getfield 265, 3) := by decide +kernel
theorem d_X12_goThrough_239 : decode J_X12_goThrough.2.1 239 = .ok (.putfield 265, 3) := by decide +kernel
theorem d_X12_goThrough_242 : decode J_X12_goThrough.2.1 242 = .ok (.iinc 3 1, 3) := by decide +kernel
theorem d_X12_goThrough_245 : decode J_X12_goThrough.2.1 245 = .ok (.goto (-231), 3) := by decide +kernel
theorem d_X12_goThrough_248 : decode J_X12_goThrough.2.1 248 = .ok (.iload_n 2, 1) := by decide +kernel
theorem d_X12_goThrough_249 : decode J_X12_goThrough.2.1 249 = .ok (.ireturn, 1) := by decide +kernel
def f_X12_goThrough_239 (N : Nat) (K : oK) (r14 : (Int32 → Int32 → Int32 → oM → Option (Int32 × oM))) (p1 : Int32) (p2 : Int32) (p3 : Int32) (s0 : Int32) (M : oM) : Option (Int32 × oM) :=
  (r14 p1 p2 (p3 + 1) (oUp M 59 39 s0))
set_option maxRecDepth 20000 in
theorem v_X12_goThrough_239 {X : oX} {d N : Nat} {K : oK} {r14 : (Int32 → Int32 → Int32 → oM → Option (Int32 × oM))} {p1 : Int32} {p2 : Int32} {p3 : Int32} {s0 : Int32} {M : oM} {v : Int32} {M' : oM}  (hd : 3 ≤ d) (hK : oSR K)  (hr14 : ∀ (p1 : Int32) (p2 : Int32) (p3 : Int32) (M : oM) (v : Int32) (M' : oM) , r14 p1 p2 p3 M = some (v, M') → oEv X d J_X12_goThrough 14 [some (.ref 59), some (.int p1), some (.int p2), some (.int p3), none, none, none, none] [] K M (some (.int v)) K M') (h : f_X12_goThrough_239 N K r14 p1 p2 p3 s0 M = some (v, M')) : oEv X d J_X12_goThrough 239 [some (.ref 59), some (.int p1), some (.int p2), some (.int p3), none, none, none, none] [(.int s0), (.ref 59)] K M (some (.int v)) K M' := by
  unfold f_X12_goThrough_239 at h
  refine oe_putf (pc := 239) d_X12_goThrough_239 fl_X12_265 ock12 (k := 39) (Nat.le_of_ble_eq_true rfl) rfl rfl (oLt hK (a := 59) (Nat.le_of_ble_eq_true rfl)) (oSho hK (a := 59) (Nat.le_of_ble_eq_true rfl) rfl) ?_
  refine oe_iinc (pc := 242) (v := (p3 + 1)) (L2 := [_, _, _, _, _, _, _, _]) d_X12_goThrough_242 rfl rfl rfl (Nat.le_of_ble_eq_true rfl) rfl ?_
  refine oe_goto (pc := 245) (tgt := 14) d_X12_goThrough_245 (by decide) ?_
  exact hr14 _ _ _ _ _ _ h
def f_X12_goThrough_235 (N : Nat) (K : oK) (r14 : (Int32 → Int32 → Int32 → oM → Option (Int32 × oM))) (p1 : Int32) (p2 : Int32) (p3 : Int32) (M : oM) : Option (Int32 × oM) :=
  (f_X12_goThrough_239 N K r14 p1 p2 p3 (M.1 59 39) M)
set_option maxRecDepth 20000 in
theorem v_X12_goThrough_235 {X : oX} {d N : Nat} {K : oK} {r14 : (Int32 → Int32 → Int32 → oM → Option (Int32 × oM))} {p1 : Int32} {p2 : Int32} {p3 : Int32} {M : oM} {v : Int32} {M' : oM}  (hd : 3 ≤ d) (hK : oSR K)  (hr14 : ∀ (p1 : Int32) (p2 : Int32) (p3 : Int32) (M : oM) (v : Int32) (M' : oM) , r14 p1 p2 p3 M = some (v, M') → oEv X d J_X12_goThrough 14 [some (.ref 59), some (.int p1), some (.int p2), some (.int p3), none, none, none, none] [] K M (some (.int v)) K M') (h : f_X12_goThrough_235 N K r14 p1 p2 p3 M = some (v, M')) : oEv X d J_X12_goThrough 235 [some (.ref 59), some (.int p1), some (.int p2), some (.int p3), none, none, none, none] [(.ref 59)] K M (some (.int v)) K M' := by
  unfold f_X12_goThrough_235 at h
  refine oe_aload_n (pc := 235) d_X12_goThrough_235 rfl ?_
  refine oe_getf (pc := 236) d_X12_goThrough_236 fl_X12_265 ock12 (k := 39) (Nat.le_of_ble_eq_true rfl) rfl (oLt hK (a := 59) (Nat.le_of_ble_eq_true rfl)) (oSho hK (a := 59) (Nat.le_of_ble_eq_true rfl) rfl) ?_
  exact v_X12_goThrough_239 hd hK  hr14 h
def f_X12_goThrough_224 (N : Nat) (K : oK) (r14 : (Int32 → Int32 → Int32 → oM → Option (Int32 × oM))) (p1 : Int32) (p2 : Int32) (p3 : Int32) (M : oM) : Option (Int32 × oM) :=
  (if 0 ≤ (M.1 59 39) then (f_X12_goThrough_235 N K r14 p1 p2 p3 M) else (f_X12_goThrough_239 N K r14 p1 p2 p3 p3 M))
set_option maxRecDepth 20000 in
theorem v_X12_goThrough_224 {X : oX} {d N : Nat} {K : oK} {r14 : (Int32 → Int32 → Int32 → oM → Option (Int32 × oM))} {p1 : Int32} {p2 : Int32} {p3 : Int32} {M : oM} {v : Int32} {M' : oM}  (hd : 3 ≤ d) (hK : oSR K)  (hr14 : ∀ (p1 : Int32) (p2 : Int32) (p3 : Int32) (M : oM) (v : Int32) (M' : oM) , r14 p1 p2 p3 M = some (v, M') → oEv X d J_X12_goThrough 14 [some (.ref 59), some (.int p1), some (.int p2), some (.int p3), none, none, none, none] [] K M (some (.int v)) K M') (h : f_X12_goThrough_224 N K r14 p1 p2 p3 M = some (v, M')) : oEv X d J_X12_goThrough 224 [some (.ref 59), some (.int p1), some (.int p2), some (.int p3), none, none, none, none] [(.ref 59)] K M (some (.int v)) K M' := by
  unfold f_X12_goThrough_224 at h
  refine oe_aload_n (pc := 224) d_X12_goThrough_224 rfl ?_
  refine oe_getf (pc := 225) d_X12_goThrough_225 fl_X12_265 ock12 (k := 39) (Nat.le_of_ble_eq_true rfl) rfl (oLt hK (a := 59) (Nat.le_of_ble_eq_true rfl)) (oSho hK (a := 59) (Nat.le_of_ble_eq_true rfl) rfl) ?_
  refine oe_if_ge (pc := 228) (tgt := 235) d_X12_goThrough_228 (by decide) (fun c23 => ?_) (fun c23 => ?_)
  · replace h := (if_pos c23).symm.trans h
    exact v_X12_goThrough_235 hd hK  hr14 h
  · replace h := (if_neg c23).symm.trans h
    refine oe_iload_n (pc := 231) d_X12_goThrough_231 rfl ?_
    refine oe_goto (pc := 232) (tgt := 239) d_X12_goThrough_232 (by decide) ?_
    exact v_X12_goThrough_239 hd hK  hr14 h
def f_X12_goThrough_210 (N : Nat) (K : oK) (r14 : (Int32 → Int32 → Int32 → oM → Option (Int32 × oM))) (p1 : Int32) (p2 : Int32) (p3 : Int32) (p4 : Int32) (p5 : Int32) (s0 : Int32) (M : oM) : Option (Int32 × oM) :=
  (if p4 = 0 then (if p5 = 0 then (f_X12_goThrough_235 N K r14 p1 p2 p3 (oUp M 59 38 s0)) else (f_X12_goThrough_224 N K r14 p1 p2 p3 (oUp M 59 38 s0))) else (f_X12_goThrough_224 N K r14 p1 p2 p3 (oUp M 59 38 s0)))
set_option maxRecDepth 20000 in
theorem v_X12_goThrough_210 {X : oX} {d N : Nat} {K : oK} {r14 : (Int32 → Int32 → Int32 → oM → Option (Int32 × oM))} {p1 : Int32} {p2 : Int32} {p3 : Int32} {p4 : Int32} {p5 : Int32} {s0 : Int32} {M : oM} {v : Int32} {M' : oM}  (hd : 3 ≤ d) (hK : oSR K)  (hr14 : ∀ (p1 : Int32) (p2 : Int32) (p3 : Int32) (M : oM) (v : Int32) (M' : oM) , r14 p1 p2 p3 M = some (v, M') → oEv X d J_X12_goThrough 14 [some (.ref 59), some (.int p1), some (.int p2), some (.int p3), none, none, none, none] [] K M (some (.int v)) K M') (h : f_X12_goThrough_210 N K r14 p1 p2 p3 p4 p5 s0 M = some (v, M')) : oEv X d J_X12_goThrough 210 [some (.ref 59), some (.int p1), some (.int p2), some (.int p3), some (.int p4), some (.int p5), none, none] [(.int s0), (.ref 59)] K M (some (.int v)) K M' := by
  unfold f_X12_goThrough_210 at h
  refine oe_putf (pc := 210) d_X12_goThrough_210 fl_X12_262 ock12 (k := 38) (Nat.le_of_ble_eq_true rfl) rfl rfl (oLt hK (a := 59) (Nat.le_of_ble_eq_true rfl)) (oSho hK (a := 59) (Nat.le_of_ble_eq_true rfl) rfl) ?_
  refine oe_aload_n (pc := 213) d_X12_goThrough_213 rfl ?_
  refine oe_iload (pc := 214) d_X12_goThrough_214 rfl ?_
  refine oe_if_ne (pc := 216) (tgt := 224) d_X12_goThrough_216 (by decide) (fun c22 => ?_) (fun c22 => ?_)
  · replace h := (if_neg c22).symm.trans h
    refine oEv.fg [true, true, true, true, false, false, false, false] ?_
    exact v_X12_goThrough_224 hd hK  hr14 h
  · replace h := (if_pos c22).symm.trans h
    refine oe_iload (pc := 219) d_X12_goThrough_219 rfl ?_
    refine oe_if_eq (pc := 221) (tgt := 235) d_X12_goThrough_221 (by decide) (fun c24 => ?_) (fun c24 => ?_)
    · replace h := (if_pos c24).symm.trans h
      refine oEv.fg [true, true, true, true, false, false, false, false] ?_
      exact v_X12_goThrough_235 hd hK  hr14 h
    · replace h := (if_neg c24).symm.trans h
      refine oEv.fg [true, true, true, true, false, false, false, false] ?_
      exact v_X12_goThrough_224 hd hK  hr14 h
def f_X12_goThrough_206 (N : Nat) (K : oK) (r14 : (Int32 → Int32 → Int32 → oM → Option (Int32 × oM))) (p1 : Int32) (p2 : Int32) (p3 : Int32) (p4 : Int32) (p5 : Int32) (M : oM) : Option (Int32 × oM) :=
  (f_X12_goThrough_210 N K r14 p1 p2 p3 p4 p5 (M.1 59 38) M)
set_option maxRecDepth 20000 in
theorem v_X12_goThrough_206 {X : oX} {d N : Nat} {K : oK} {r14 : (Int32 → Int32 → Int32 → oM → Option (Int32 × oM))} {p1 : Int32} {p2 : Int32} {p3 : Int32} {p4 : Int32} {p5 : Int32} {M : oM} {v : Int32} {M' : oM}  (hd : 3 ≤ d) (hK : oSR K)  (hr14 : ∀ (p1 : Int32) (p2 : Int32) (p3 : Int32) (M : oM) (v : Int32) (M' : oM) , r14 p1 p2 p3 M = some (v, M') → oEv X d J_X12_goThrough 14 [some (.ref 59), some (.int p1), some (.int p2), some (.int p3), none, none, none, none] [] K M (some (.int v)) K M') (h : f_X12_goThrough_206 N K r14 p1 p2 p3 p4 p5 M = some (v, M')) : oEv X d J_X12_goThrough 206 [some (.ref 59), some (.int p1), some (.int p2), some (.int p3), some (.int p4), some (.int p5), none, none] [(.ref 59)] K M (some (.int v)) K M' := by
  unfold f_X12_goThrough_206 at h
  refine oe_aload_n (pc := 206) d_X12_goThrough_206 rfl ?_
  refine oe_getf (pc := 207) d_X12_goThrough_207 fl_X12_262 ock12 (k := 38) (Nat.le_of_ble_eq_true rfl) rfl (oLt hK (a := 59) (Nat.le_of_ble_eq_true rfl)) (oSho hK (a := 59) (Nat.le_of_ble_eq_true rfl) rfl) ?_
  exact v_X12_goThrough_210 hd hK  hr14 h
def f_X12_goThrough_182 (N : Nat) (K : oK) (r14 : (Int32 → Int32 → Int32 → oM → Option (Int32 × oM))) (p1 : Int32) (p2 : Int32) (p3 : Int32) (p4 : Int32) (p5 : Int32) (M : oM) : Option (Int32 × oM) :=
  oIx (p3) 25 ((if p4 = 0 then (f_X12_goThrough_206 N K r14 p1 p2 p3 p4 p5 (oUp M 86 (p3 : Int32).toNatClampNeg p2)) else (if 0 ≤ ((oUp M 86 (p3 : Int32).toNatClampNeg p2).1 59 38) then (f_X12_goThrough_206 N K r14 p1 p2 p3 p4 p5 (oUp M 86 (p3 : Int32).toNatClampNeg p2)) else (f_X12_goThrough_210 N K r14 p1 p2 p3 p4 p5 p3 (oUp M 86 (p3 : Int32).toNatClampNeg p2)))))
set_option maxRecDepth 20000 in
theorem v_X12_goThrough_182 {X : oX} {d N : Nat} {K : oK} {r14 : (Int32 → Int32 → Int32 → oM → Option (Int32 × oM))} {p1 : Int32} {p2 : Int32} {p3 : Int32} {p4 : Int32} {p5 : Int32} {M : oM} {v : Int32} {M' : oM}  (hd : 3 ≤ d) (hK : oSR K)  (hr14 : ∀ (p1 : Int32) (p2 : Int32) (p3 : Int32) (M : oM) (v : Int32) (M' : oM) , r14 p1 p2 p3 M = some (v, M') → oEv X d J_X12_goThrough 14 [some (.ref 59), some (.int p1), some (.int p2), some (.int p3), none, none, none, none] [] K M (some (.int v)) K M') (h : f_X12_goThrough_182 N K r14 p1 p2 p3 p4 p5 M = some (v, M')) : oEv X d J_X12_goThrough 182 [some (.ref 59), some (.int p1), some (.int p2), some (.int p3), some (.int p4), some (.int p5), none, none] [] K M (some (.int v)) K M' := by
  unfold f_X12_goThrough_182 at h
  refine oe_aload_n (pc := 182) d_X12_goThrough_182 rfl ?_
  refine oe_getr (pc := 183) d_X12_goThrough_183 fl_X12_89 ock12 (k := 37) (b := 86) (Nat.le_of_ble_eq_true rfl) (by decide) (oLt hK (a := 59) (Nat.le_of_ble_eq_true rfl)) (oSho hK (a := 59) (Nat.le_of_ble_eq_true rfl) rfl) (oRfK hK rfl) ?_
  refine oe_iload_n (pc := 186) d_X12_goThrough_186 rfl ?_
  refine oe_iload_n (pc := 187) d_X12_goThrough_187 rfl ?_
  obtain ⟨i20, h⟩ := oIx_some h
  refine oe_iast (pc := 188) d_X12_goThrough_188 (oLt hK (a := 86) (Nat.le_of_ble_eq_true rfl)) (oSha hK (a := 86) (Nat.le_of_ble_eq_true rfl) rfl) i20 ?_
  refine oe_aload_n (pc := 189) d_X12_goThrough_189 rfl ?_
  refine oe_iload (pc := 190) d_X12_goThrough_190 rfl ?_
  refine oe_if_eq (pc := 192) (tgt := 206) d_X12_goThrough_192 (by decide) (fun c21 => ?_) (fun c21 => ?_)
  · replace h := (if_pos c21).symm.trans h
    exact v_X12_goThrough_206 hd hK  hr14 h
  · replace h := (if_neg c21).symm.trans h
    refine oe_aload_n (pc := 195) d_X12_goThrough_195 rfl ?_
    refine oe_getf (pc := 196) d_X12_goThrough_196 fl_X12_262 ock12 (k := 38) (Nat.le_of_ble_eq_true rfl) rfl (oLt hK (a := 59) (Nat.le_of_ble_eq_true rfl)) (oSho hK (a := 59) (Nat.le_of_ble_eq_true rfl) rfl) ?_
    refine oe_if_ge (pc := 199) (tgt := 206) d_X12_goThrough_199 (by decide) (fun c25 => ?_) (fun c25 => ?_)
    · replace h := (if_pos c25).symm.trans h
      exact v_X12_goThrough_206 hd hK  hr14 h
    · replace h := (if_neg c25).symm.trans h
      refine oe_iload_n (pc := 202) d_X12_goThrough_202 rfl ?_
      refine oe_goto (pc := 203) (tgt := 210) d_X12_goThrough_203 (by decide) ?_
      exact v_X12_goThrough_210 hd hK  hr14 h
def f_X12_goThrough_180 (N : Nat) (K : oK) (r14 : (Int32 → Int32 → Int32 → oM → Option (Int32 × oM))) (p1 : Int32) (p2 : Int32) (p3 : Int32) (p4 : Int32) (s0 : Int32) (M : oM) : Option (Int32 × oM) :=
  (f_X12_goThrough_182 N K r14 p1 p2 p3 p4 s0 M)
set_option maxRecDepth 20000 in
theorem v_X12_goThrough_180 {X : oX} {d N : Nat} {K : oK} {r14 : (Int32 → Int32 → Int32 → oM → Option (Int32 × oM))} {p1 : Int32} {p2 : Int32} {p3 : Int32} {p4 : Int32} {s0 : Int32} {M : oM} {v : Int32} {M' : oM}  (hd : 3 ≤ d) (hK : oSR K)  (hr14 : ∀ (p1 : Int32) (p2 : Int32) (p3 : Int32) (M : oM) (v : Int32) (M' : oM) , r14 p1 p2 p3 M = some (v, M') → oEv X d J_X12_goThrough 14 [some (.ref 59), some (.int p1), some (.int p2), some (.int p3), none, none, none, none] [] K M (some (.int v)) K M') (h : f_X12_goThrough_180 N K r14 p1 p2 p3 p4 s0 M = some (v, M')) : oEv X d J_X12_goThrough 180 [some (.ref 59), some (.int p1), some (.int p2), some (.int p3), some (.int p4), none, none, none] [(.int s0)] K M (some (.int v)) K M' := by
  unfold f_X12_goThrough_180 at h
  refine oe_istore (pc := 180) (L2 := [_, _, _, _, _, _, _, _]) d_X12_goThrough_180 rfl (Nat.le_of_ble_eq_true rfl) rfl ?_
  exact v_X12_goThrough_182 hd hK  hr14 h
def f_X12_goThrough_175 (N : Nat) (K : oK) (r14 : (Int32 → Int32 → Int32 → oM → Option (Int32 × oM))) (p1 : Int32) (p2 : Int32) (p3 : Int32) (p4 : Int32) (M : oM) : Option (Int32 × oM) :=
  (f_X12_goThrough_180 N K r14 p1 p2 p3 p4 1 M)
set_option maxRecDepth 20000 in
theorem v_X12_goThrough_175 {X : oX} {d N : Nat} {K : oK} {r14 : (Int32 → Int32 → Int32 → oM → Option (Int32 × oM))} {p1 : Int32} {p2 : Int32} {p3 : Int32} {p4 : Int32} {M : oM} {v : Int32} {M' : oM}  (hd : 3 ≤ d) (hK : oSR K)  (hr14 : ∀ (p1 : Int32) (p2 : Int32) (p3 : Int32) (M : oM) (v : Int32) (M' : oM) , r14 p1 p2 p3 M = some (v, M') → oEv X d J_X12_goThrough 14 [some (.ref 59), some (.int p1), some (.int p2), some (.int p3), none, none, none, none] [] K M (some (.int v)) K M') (h : f_X12_goThrough_175 N K r14 p1 p2 p3 p4 M = some (v, M')) : oEv X d J_X12_goThrough 175 [some (.ref 59), some (.int p1), some (.int p2), some (.int p3), some (.int p4), none, none, none] [] K M (some (.int v)) K M' := by
  unfold f_X12_goThrough_175 at h
  refine oe_iconst (pc := 175) (v := 1) d_X12_goThrough_175 rfl ?_
  refine oe_goto (pc := 176) (tgt := 180) d_X12_goThrough_176 (by decide) ?_
  exact v_X12_goThrough_180 hd hK  hr14 h
def f_X12_goThrough_144 (N : Nat) (K : oK) (r14 : (Int32 → Int32 → Int32 → oM → Option (Int32 × oM))) (p1 : Int32) (p3 : Int32) (p4 : Int32) (p6 : Int32) (p7 : Int32) (s0 : Int32) (s1 : Int32) (s3 : Int32) (s4 : Int32) (M : oM) : Option (Int32 × oM) :=
  oB2 (f_X12_losesAt N K s1 s0 M) (fun v15 M16 => oIx (p3) 25 ((if p7 < p6 then (f_X12_goThrough_175 N K r14 p1 ((s4 - (s3 * v15)) - ((43 : Int32) * (M16.1 85 (p3 : Int32).toNatClampNeg))) p3 p4 M16) else (if ((s4 - (s3 * v15)) - ((43 : Int32) * (M16.1 85 (p3 : Int32).toNatClampNeg))) ≤ p7 then (f_X12_goThrough_180 N K r14 p1 ((s4 - (s3 * v15)) - ((43 : Int32) * (M16.1 85 (p3 : Int32).toNatClampNeg))) p3 p4 0 M16) else (f_X12_goThrough_175 N K r14 p1 ((s4 - (s3 * v15)) - ((43 : Int32) * (M16.1 85 (p3 : Int32).toNatClampNeg))) p3 p4 M16)))))
set_option maxRecDepth 20000 in
theorem v_X12_goThrough_144 {X : oX} {d N : Nat} {K : oK} {r14 : (Int32 → Int32 → Int32 → oM → Option (Int32 × oM))} {p1 : Int32} {p3 : Int32} {p4 : Int32} {p6 : Int32} {p7 : Int32} {s0 : Int32} {s1 : Int32} {s3 : Int32} {s4 : Int32} {M : oM} {v : Int32} {M' : oM}  (hd : 3 ≤ d) (hK : oSR K)  (hr14 : ∀ (p1 : Int32) (p2 : Int32) (p3 : Int32) (M : oM) (v : Int32) (M' : oM) , r14 p1 p2 p3 M = some (v, M') → oEv X d J_X12_goThrough 14 [some (.ref 59), some (.int p1), some (.int p2), some (.int p3), none, none, none, none] [] K M (some (.int v)) K M') (h : f_X12_goThrough_144 N K r14 p1 p3 p4 p6 p7 s0 s1 s3 s4 M = some (v, M')) : oEv X d J_X12_goThrough 144 [some (.ref 59), some (.int p1), none, some (.int p3), some (.int p4), none, some (.int p6), some (.int p7)] [(.int s0), (.int s1), (.ref 59), (.int s3), (.int s4)] K M (some (.int v)) K M' := by
  unfold f_X12_goThrough_144 at h
  obtain ⟨v15, M16, q17, h⟩ := oB2_some h
  refine oe_callV (pc := 144) (ci := 12) d_X12_goThrough_144 (v_X12_losesAt hK  q17) (by omega) ml_X12_213 jJ_X12_losesAt rfl rfl (oLt hK (a := 59) (Nat.le_of_ble_eq_true rfl)) (oSho hK (a := 59) (Nat.le_of_ble_eq_true rfl) rfl) ock12 rfl (Nat.le_of_ble_eq_true rfl) ⟨Nat.le_refl _, Nat.le_refl _⟩ ⟨Nat.le_refl _, Nat.le_refl _⟩ ?_
  refine oe_imul (pc := 147) d_X12_goThrough_147 ?_
  refine oe_isub (pc := 148) d_X12_goThrough_148 ?_
  refine oe_istore_n (pc := 149) (L2 := [_, _, _, _, _, _, _, _]) d_X12_goThrough_149 rfl rfl (Nat.le_of_ble_eq_true rfl) rfl ?_
  refine oe_iload_n (pc := 150) d_X12_goThrough_150 rfl ?_
  refine oe_bipush (pc := 151) (v := 43) d_X12_goThrough_151 rfl ?_
  refine oe_aload_n (pc := 153) d_X12_goThrough_153 rfl ?_
  refine oe_getr (pc := 154) d_X12_goThrough_154 fl_X12_86 ock12 (k := 36) (b := 85) (Nat.le_of_ble_eq_true rfl) (by decide) (oLt hK (a := 59) (Nat.le_of_ble_eq_true rfl)) (oSho hK (a := 59) (Nat.le_of_ble_eq_true rfl) rfl) (oRfK hK rfl) ?_
  refine oe_iload_n (pc := 157) d_X12_goThrough_157 rfl ?_
  obtain ⟨i18, h⟩ := oIx_some h
  refine oe_iald (pc := 158) d_X12_goThrough_158 (oLt hK (a := 85) (Nat.le_of_ble_eq_true rfl)) (oSha hK (a := 85) (Nat.le_of_ble_eq_true rfl) rfl) i18 ?_
  refine oe_imul (pc := 159) d_X12_goThrough_159 ?_
  refine oe_isub (pc := 160) d_X12_goThrough_160 ?_
  refine oe_istore_n (pc := 161) (L2 := [_, _, _, _, _, _, _, _]) d_X12_goThrough_161 rfl rfl (Nat.le_of_ble_eq_true rfl) rfl ?_
  refine oe_iload (pc := 162) d_X12_goThrough_162 rfl ?_
  refine oe_iload (pc := 164) d_X12_goThrough_164 rfl ?_
  refine oe_icmp_gt (pc := 166) (tgt := 175) d_X12_goThrough_166 (by decide) (fun c19 => ?_) (fun c19 => ?_)
  · replace h := (if_pos c19).symm.trans h
    refine oEv.fg [true, true, true, true, true, false, false, false] ?_
    exact v_X12_goThrough_175 hd hK  hr14 h
  · replace h := (if_neg c19).symm.trans h
    refine oe_iload_n (pc := 169) d_X12_goThrough_169 rfl ?_
    refine oe_iload (pc := 170) d_X12_goThrough_170 rfl ?_
    refine oe_icmp_le (pc := 172) (tgt := 179) d_X12_goThrough_172 (by decide) (fun c26 => ?_) (fun c26 => ?_)
    · replace h := (if_pos c26).symm.trans h
      refine oe_iconst (pc := 179) (v := 0) d_X12_goThrough_179 rfl ?_
      refine oEv.fg [true, true, true, true, true, false, false, false] ?_
      exact v_X12_goThrough_180 hd hK  hr14 h
    · replace h := (if_neg c26).symm.trans h
      refine oEv.fg [true, true, true, true, true, false, false, false] ?_
      exact v_X12_goThrough_175 hd hK  hr14 h
def f_X12_goThrough_41 (N : Nat) (K : oK) (r14 : (Int32 → Int32 → Int32 → oM → Option (Int32 × oM))) (p1 : Int32) (p2 : Int32) (p3 : Int32) (s0 : Int32) (M : oM) : Option (Int32 × oM) :=
  oIx (p3) 25 ((if (M.1 81 (p3 : Int32).toNatClampNeg) = 0 then oIx (p3) 25 (oB2 (f_X12_liftsAt N K (M.1 82 (p3 : Int32).toNatClampNeg) p1 M) (fun v28 M29 => (f_X12_goThrough_182 N K r14 p1 (p2 + v28) p3 s0 0 M29))) else oIx (p3) 25 ((if (M.1 81 (p3 : Int32).toNatClampNeg) = 2 then (f_X12_goThrough_182 N K r14 p1 0 p3 s0 0 M) else oIx (p3) 25 (oIx (((12 : Int32) + (M.1 83 (p3 : Int32).toNatClampNeg))) 21 (oIx (p3) 25 (oIx ((M.1 82 (p3 : Int32).toNatClampNeg)) 20 (oIx (p3) 25 (oIx (p3) 25 ((if (M.1 84 (p3 : Int32).toNatClampNeg) = 2 then (f_X12_goThrough_144 N K r14 p1 p3 s0 p2 (M.1 60 (((12 : Int32) + (M.1 83 (p3 : Int32).toNatClampNeg)) : Int32).toNatClampNeg) ((p1 + 1) / 2) (M.1 83 (p3 : Int32).toNatClampNeg) (M.1 66 ((M.1 82 (p3 : Int32).toNatClampNeg) : Int32).toNatClampNeg) p2 M) else (f_X12_goThrough_144 N K r14 p1 p3 s0 p2 (M.1 60 (((12 : Int32) + (M.1 83 (p3 : Int32).toNatClampNeg)) : Int32).toNatClampNeg) p1 (M.1 83 (p3 : Int32).toNatClampNeg) (M.1 66 ((M.1 82 (p3 : Int32).toNatClampNeg) : Int32).toNatClampNeg) p2 M))))))))))))
set_option maxRecDepth 20000 in
theorem v_X12_goThrough_41 {X : oX} {d N : Nat} {K : oK} {r14 : (Int32 → Int32 → Int32 → oM → Option (Int32 × oM))} {p1 : Int32} {p2 : Int32} {p3 : Int32} {s0 : Int32} {M : oM} {v : Int32} {M' : oM}  (hd : 3 ≤ d) (hK : oSR K)  (hr14 : ∀ (p1 : Int32) (p2 : Int32) (p3 : Int32) (M : oM) (v : Int32) (M' : oM) , r14 p1 p2 p3 M = some (v, M') → oEv X d J_X12_goThrough 14 [some (.ref 59), some (.int p1), some (.int p2), some (.int p3), none, none, none, none] [] K M (some (.int v)) K M') (h : f_X12_goThrough_41 N K r14 p1 p2 p3 s0 M = some (v, M')) : oEv X d J_X12_goThrough 41 [some (.ref 59), some (.int p1), some (.int p2), some (.int p3), none, none, none, none] [(.int s0)] K M (some (.int v)) K M' := by
  unfold f_X12_goThrough_41 at h
  refine oe_istore (pc := 41) (L2 := [_, _, _, _, _, _, _, _]) d_X12_goThrough_41 rfl (Nat.le_of_ble_eq_true rfl) rfl ?_
  refine oe_iconst (pc := 43) (v := 0) d_X12_goThrough_43 rfl ?_
  refine oe_istore (pc := 44) (L2 := [_, _, _, _, _, _, _, _]) d_X12_goThrough_44 rfl (Nat.le_of_ble_eq_true rfl) rfl ?_
  refine oe_aload_n (pc := 46) d_X12_goThrough_46 rfl ?_
  refine oe_getr (pc := 47) d_X12_goThrough_47 fl_X12_74 ock12 (k := 32) (b := 81) (Nat.le_of_ble_eq_true rfl) (by decide) (oLt hK (a := 59) (Nat.le_of_ble_eq_true rfl)) (oSho hK (a := 59) (Nat.le_of_ble_eq_true rfl) rfl) (oRfK hK rfl) ?_
  refine oe_iload_n (pc := 50) d_X12_goThrough_50 rfl ?_
  obtain ⟨i4, h⟩ := oIx_some h
  refine oe_iald (pc := 51) d_X12_goThrough_51 (oLt hK (a := 81) (Nat.le_of_ble_eq_true rfl)) (oSha hK (a := 81) (Nat.le_of_ble_eq_true rfl) rfl) i4 ?_
  refine oe_if_ne (pc := 52) (tgt := 72) d_X12_goThrough_52 (by decide) (fun c5 => ?_) (fun c5 => ?_)
  · replace h := (if_neg c5).symm.trans h
    refine oe_aload_n (pc := 72) d_X12_goThrough_72 rfl ?_
    refine oe_getr (pc := 73) d_X12_goThrough_73 fl_X12_74 ock12 (k := 32) (b := 81) (Nat.le_of_ble_eq_true rfl) (by decide) (oLt hK (a := 59) (Nat.le_of_ble_eq_true rfl)) (oSho hK (a := 59) (Nat.le_of_ble_eq_true rfl) rfl) (oRfK hK rfl) ?_
    refine oe_iload_n (pc := 76) d_X12_goThrough_76 rfl ?_
    obtain ⟨i6, h⟩ := oIx_some h
    refine oe_iald (pc := 77) d_X12_goThrough_77 (oLt hK (a := 81) (Nat.le_of_ble_eq_true rfl)) (oSha hK (a := 81) (Nat.le_of_ble_eq_true rfl) rfl) i6 ?_
    refine oe_iconst (pc := 78) (v := 2) d_X12_goThrough_78 rfl ?_
    refine oe_icmp_ne (pc := 79) (tgt := 87) d_X12_goThrough_79 (by decide) (fun c7 => ?_) (fun c7 => ?_)
    · replace h := (if_neg c7).symm.trans h
      refine oe_iload_n (pc := 87) d_X12_goThrough_87 rfl ?_
      refine oe_istore (pc := 88) (L2 := [_, _, _, _, _, _, _, _]) d_X12_goThrough_88 rfl (Nat.le_of_ble_eq_true rfl) rfl ?_
      refine oe_aload_n (pc := 90) d_X12_goThrough_90 rfl ?_
      refine oe_getr (pc := 91) d_X12_goThrough_91 fl_X12_7 ock12 (k := 0) (b := 60) (Nat.le_of_ble_eq_true rfl) (by decide) (oLt hK (a := 59) (Nat.le_of_ble_eq_true rfl)) (oSho hK (a := 59) (Nat.le_of_ble_eq_true rfl) rfl) (oRfK hK rfl) ?_
      refine oe_bipush (pc := 94) (v := 12) d_X12_goThrough_94 rfl ?_
      refine oe_aload_n (pc := 96) d_X12_goThrough_96 rfl ?_
      refine oe_getr (pc := 97) d_X12_goThrough_97 fl_X12_80 ock12 (k := 34) (b := 83) (Nat.le_of_ble_eq_true rfl) (by decide) (oLt hK (a := 59) (Nat.le_of_ble_eq_true rfl)) (oSho hK (a := 59) (Nat.le_of_ble_eq_true rfl) rfl) (oRfK hK rfl) ?_
      refine oe_iload_n (pc := 100) d_X12_goThrough_100 rfl ?_
      obtain ⟨i8, h⟩ := oIx_some h
      refine oe_iald (pc := 101) d_X12_goThrough_101 (oLt hK (a := 83) (Nat.le_of_ble_eq_true rfl)) (oSha hK (a := 83) (Nat.le_of_ble_eq_true rfl) rfl) i8 ?_
      refine oe_iadd (pc := 102) d_X12_goThrough_102 ?_
      obtain ⟨i9, h⟩ := oIx_some h
      refine oe_iald (pc := 103) d_X12_goThrough_103 (oLt hK (a := 60) (Nat.le_of_ble_eq_true rfl)) (oSha hK (a := 60) (Nat.le_of_ble_eq_true rfl) rfl) i9 ?_
      refine oe_istore (pc := 104) (L2 := [_, _, _, _, _, _, _, _]) d_X12_goThrough_104 rfl (Nat.le_of_ble_eq_true rfl) rfl ?_
      refine oe_iload_n (pc := 106) d_X12_goThrough_106 rfl ?_
      refine oe_aload_n (pc := 107) d_X12_goThrough_107 rfl ?_
      refine oe_getr (pc := 108) d_X12_goThrough_108 fl_X12_28 ock12 (k := 10) (b := 66) (Nat.le_of_ble_eq_true rfl) (by decide) (oLt hK (a := 59) (Nat.le_of_ble_eq_true rfl)) (oSho hK (a := 59) (Nat.le_of_ble_eq_true rfl) rfl) (oRfK hK rfl) ?_
      refine oe_aload_n (pc := 111) d_X12_goThrough_111 rfl ?_
      refine oe_getr (pc := 112) d_X12_goThrough_112 fl_X12_77 ock12 (k := 33) (b := 82) (Nat.le_of_ble_eq_true rfl) (by decide) (oLt hK (a := 59) (Nat.le_of_ble_eq_true rfl)) (oSho hK (a := 59) (Nat.le_of_ble_eq_true rfl) rfl) (oRfK hK rfl) ?_
      refine oe_iload_n (pc := 115) d_X12_goThrough_115 rfl ?_
      obtain ⟨i10, h⟩ := oIx_some h
      refine oe_iald (pc := 116) d_X12_goThrough_116 (oLt hK (a := 82) (Nat.le_of_ble_eq_true rfl)) (oSha hK (a := 82) (Nat.le_of_ble_eq_true rfl) rfl) i10 ?_
      obtain ⟨i11, h⟩ := oIx_some h
      refine oe_iald (pc := 117) d_X12_goThrough_117 (oLt hK (a := 66) (Nat.le_of_ble_eq_true rfl)) (oSha hK (a := 66) (Nat.le_of_ble_eq_true rfl) rfl) i11 ?_
      refine oe_aload_n (pc := 118) d_X12_goThrough_118 rfl ?_
      refine oe_aload_n (pc := 119) d_X12_goThrough_119 rfl ?_
      refine oe_getr (pc := 120) d_X12_goThrough_120 fl_X12_80 ock12 (k := 34) (b := 83) (Nat.le_of_ble_eq_true rfl) (by decide) (oLt hK (a := 59) (Nat.le_of_ble_eq_true rfl)) (oSho hK (a := 59) (Nat.le_of_ble_eq_true rfl) rfl) (oRfK hK rfl) ?_
      refine oe_iload_n (pc := 123) d_X12_goThrough_123 rfl ?_
      obtain ⟨i12, h⟩ := oIx_some h
      refine oe_iald (pc := 124) d_X12_goThrough_124 (oLt hK (a := 83) (Nat.le_of_ble_eq_true rfl)) (oSha hK (a := 83) (Nat.le_of_ble_eq_true rfl) rfl) i12 ?_
      refine oe_aload_n (pc := 125) d_X12_goThrough_125 rfl ?_
      refine oe_getr (pc := 126) d_X12_goThrough_126 fl_X12_83 ock12 (k := 35) (b := 84) (Nat.le_of_ble_eq_true rfl) (by decide) (oLt hK (a := 59) (Nat.le_of_ble_eq_true rfl)) (oSho hK (a := 59) (Nat.le_of_ble_eq_true rfl) rfl) (oRfK hK rfl) ?_
      refine oe_iload_n (pc := 129) d_X12_goThrough_129 rfl ?_
      obtain ⟨i13, h⟩ := oIx_some h
      refine oe_iald (pc := 130) d_X12_goThrough_130 (oLt hK (a := 84) (Nat.le_of_ble_eq_true rfl)) (oSha hK (a := 84) (Nat.le_of_ble_eq_true rfl) rfl) i13 ?_
      refine oe_iconst (pc := 131) (v := 2) d_X12_goThrough_131 rfl ?_
      refine oe_icmp_ne (pc := 132) (tgt := 143) d_X12_goThrough_132 (by decide) (fun c14 => ?_) (fun c14 => ?_)
      · replace h := (if_neg c14).symm.trans h
        refine oe_iload_n (pc := 143) d_X12_goThrough_143 rfl ?_
        refine oEv.fg [true, true, false, true, true, false, true, true] ?_
        exact v_X12_goThrough_144 hd hK  hr14 h
      · replace h := (if_pos c14).symm.trans h
        refine oe_iload_n (pc := 135) d_X12_goThrough_135 rfl ?_
        refine oe_iconst (pc := 136) (v := 1) d_X12_goThrough_136 rfl ?_
        refine oe_iadd (pc := 137) d_X12_goThrough_137 ?_
        refine oe_iconst (pc := 138) (v := 2) d_X12_goThrough_138 rfl ?_
        refine oe_idiv (pc := 139) d_X12_goThrough_139 (by decide) ?_
        refine oe_goto (pc := 140) (tgt := 144) d_X12_goThrough_140 (by decide) ?_
        refine oEv.fg [true, true, false, true, true, false, true, true] ?_
        exact v_X12_goThrough_144 hd hK  hr14 h
    · replace h := (if_pos c7).symm.trans h
      refine oe_iconst (pc := 82) (v := 0) d_X12_goThrough_82 rfl ?_
      refine oe_istore_n (pc := 83) (L2 := [_, _, _, _, _, _, _, _]) d_X12_goThrough_83 rfl rfl (Nat.le_of_ble_eq_true rfl) rfl ?_
      refine oe_goto (pc := 84) (tgt := 182) d_X12_goThrough_84 (by decide) ?_
      exact v_X12_goThrough_182 hd hK  hr14 h
  · replace h := (if_pos c5).symm.trans h
    refine oe_iload_n (pc := 55) d_X12_goThrough_55 rfl ?_
    refine oe_aload_n (pc := 56) d_X12_goThrough_56 rfl ?_
    refine oe_aload_n (pc := 57) d_X12_goThrough_57 rfl ?_
    refine oe_getr (pc := 58) d_X12_goThrough_58 fl_X12_77 ock12 (k := 33) (b := 82) (Nat.le_of_ble_eq_true rfl) (by decide) (oLt hK (a := 59) (Nat.le_of_ble_eq_true rfl)) (oSho hK (a := 59) (Nat.le_of_ble_eq_true rfl) rfl) (oRfK hK rfl) ?_
    refine oe_iload_n (pc := 61) d_X12_goThrough_61 rfl ?_
    obtain ⟨i27, h⟩ := oIx_some h
    refine oe_iald (pc := 62) d_X12_goThrough_62 (oLt hK (a := 82) (Nat.le_of_ble_eq_true rfl)) (oSha hK (a := 82) (Nat.le_of_ble_eq_true rfl) rfl) i27 ?_
    refine oe_iload_n (pc := 63) d_X12_goThrough_63 rfl ?_
    obtain ⟨v28, M29, q30, h⟩ := oB2_some h
    refine oe_callV (pc := 64) (ci := 12) d_X12_goThrough_64 (v_X12_liftsAt hK  q30) (by omega) ml_X12_219 jJ_X12_liftsAt rfl rfl (oLt hK (a := 59) (Nat.le_of_ble_eq_true rfl)) (oSho hK (a := 59) (Nat.le_of_ble_eq_true rfl) rfl) ock12 rfl (Nat.le_of_ble_eq_true rfl) ⟨Nat.le_refl _, Nat.le_refl _⟩ ⟨Nat.le_refl _, Nat.le_refl _⟩ ?_
    refine oe_iadd (pc := 67) d_X12_goThrough_67 ?_
    refine oe_istore_n (pc := 68) (L2 := [_, _, _, _, _, _, _, _]) d_X12_goThrough_68 rfl rfl (Nat.le_of_ble_eq_true rfl) rfl ?_
    refine oe_goto (pc := 69) (tgt := 182) d_X12_goThrough_69 (by decide) ?_
    exact v_X12_goThrough_182 hd hK  hr14 h
def f_X12_goThrough_40 (N : Nat) (K : oK) (r14 : (Int32 → Int32 → Int32 → oM → Option (Int32 × oM))) (p1 : Int32) (p2 : Int32) (p3 : Int32) (M : oM) : Option (Int32 × oM) :=
  (f_X12_goThrough_41 N K r14 p1 p2 p3 0 M)
set_option maxRecDepth 20000 in
theorem v_X12_goThrough_40 {X : oX} {d N : Nat} {K : oK} {r14 : (Int32 → Int32 → Int32 → oM → Option (Int32 × oM))} {p1 : Int32} {p2 : Int32} {p3 : Int32} {M : oM} {v : Int32} {M' : oM}  (hd : 3 ≤ d) (hK : oSR K)  (hr14 : ∀ (p1 : Int32) (p2 : Int32) (p3 : Int32) (M : oM) (v : Int32) (M' : oM) , r14 p1 p2 p3 M = some (v, M') → oEv X d J_X12_goThrough 14 [some (.ref 59), some (.int p1), some (.int p2), some (.int p3), none, none, none, none] [] K M (some (.int v)) K M') (h : f_X12_goThrough_40 N K r14 p1 p2 p3 M = some (v, M')) : oEv X d J_X12_goThrough 40 [some (.ref 59), some (.int p1), some (.int p2), some (.int p3), none, none, none, none] [] K M (some (.int v)) K M' := by
  unfold f_X12_goThrough_40 at h
  refine oe_iconst (pc := 40) (v := 0) d_X12_goThrough_40 rfl ?_
  exact v_X12_goThrough_41 hd hK  hr14 h
def f_X12_goThrough_14 (N : Nat) (K : oK)  : Nat → Int32 → Int32 → Int32 → oM → Option (Int32 × oM)
  | 0, _, _, _, _ => none
  | n + 1, p1, p2, p3, M => (fun r14 => (if (M.1 59 31) ≤ p3 then some (p2, M) else oIx (p3) 25 ((if (M.1 81 (p3 : Int32).toNatClampNeg) = 1 then (f_X12_goThrough_40 N K r14 p1 p2 p3 M) else (if 0 ≤ p2 then (f_X12_goThrough_40 N K r14 p1 p2 p3 M) else (f_X12_goThrough_41 N K r14 p1 p2 p3 1 M)))))) (f_X12_goThrough_14 N K  n)
set_option maxRecDepth 20000 in
theorem v_X12_goThrough_14_L {X : oX} {d N : Nat} {K : oK}  (hd : 3 ≤ d) (hK : oSR K)  : ∀ (n : Nat) (p1 : Int32) (p2 : Int32) (p3 : Int32) (M : oM) (v : Int32) (M' : oM)  , f_X12_goThrough_14 N K  n p1 p2 p3 M = some (v, M') → oEv X d J_X12_goThrough 14 [some (.ref 59), some (.int p1), some (.int p2), some (.int p3), none, none, none, none] [] K M (some (.int v)) K M' := by
  intro n
  induction n with
  | zero =>
    intro p1 p2 p3 M v M'   h
    cases h
  | succ n hr14 =>
    intro p1 p2 p3 M v M'   h
    refine oe_iload_n (pc := 14) d_X12_goThrough_14 rfl ?_
    refine oe_aload_n (pc := 15) d_X12_goThrough_15 rfl ?_
    refine oe_getf (pc := 16) d_X12_goThrough_16 fl_X12_246 ock12 (k := 31) (Nat.le_of_ble_eq_true rfl) rfl (oLt hK (a := 59) (Nat.le_of_ble_eq_true rfl)) (oSho hK (a := 59) (Nat.le_of_ble_eq_true rfl) rfl) ?_
    refine oe_icmp_ge (pc := 19) (tgt := 248) d_X12_goThrough_19 (by decide) (fun c1 => ?_) (fun c1 => ?_)
    · replace h := (if_pos c1).symm.trans h
      refine oe_iload_n (pc := 248) d_X12_goThrough_248 rfl ?_
      obtain ⟨rfl, rfl⟩ := oRes h
      exact oe_iret (pc := 249) d_X12_goThrough_249 ⟨_, rfl, rfl⟩
    · replace h := (if_neg c1).symm.trans h
      refine oe_aload_n (pc := 22) d_X12_goThrough_22 rfl ?_
      refine oe_getr (pc := 23) d_X12_goThrough_23 fl_X12_74 ock12 (k := 32) (b := 81) (Nat.le_of_ble_eq_true rfl) (by decide) (oLt hK (a := 59) (Nat.le_of_ble_eq_true rfl)) (oSho hK (a := 59) (Nat.le_of_ble_eq_true rfl) rfl) (oRfK hK rfl) ?_
      refine oe_iload_n (pc := 26) d_X12_goThrough_26 rfl ?_
      obtain ⟨i2, h⟩ := oIx_some h
      refine oe_iald (pc := 27) d_X12_goThrough_27 (oLt hK (a := 81) (Nat.le_of_ble_eq_true rfl)) (oSha hK (a := 81) (Nat.le_of_ble_eq_true rfl) rfl) i2 ?_
      refine oe_iconst (pc := 28) (v := 1) d_X12_goThrough_28 rfl ?_
      refine oe_icmp_eq (pc := 29) (tgt := 40) d_X12_goThrough_29 (by decide) (fun c3 => ?_) (fun c3 => ?_)
      · replace h := (if_pos c3).symm.trans h
        exact v_X12_goThrough_40 hd hK  hr14 h
      · replace h := (if_neg c3).symm.trans h
        refine oe_iload_n (pc := 32) d_X12_goThrough_32 rfl ?_
        refine oe_if_ge (pc := 33) (tgt := 40) d_X12_goThrough_33 (by decide) (fun c31 => ?_) (fun c31 => ?_)
        · replace h := (if_pos c31).symm.trans h
          exact v_X12_goThrough_40 hd hK  hr14 h
        · replace h := (if_neg c31).symm.trans h
          refine oe_iconst (pc := 36) (v := 1) d_X12_goThrough_36 rfl ?_
          refine oe_goto (pc := 37) (tgt := 41) d_X12_goThrough_37 (by decide) ?_
          exact v_X12_goThrough_41 hd hK  hr14 h
theorem v_X12_goThrough_14 {X : oX} {d N : Nat} {K : oK}  {p1 : Int32} {p2 : Int32} {p3 : Int32} {M : oM} {v : Int32} {M' : oM}  (hd : 3 ≤ d) (hK : oSR K)   (h : f_X12_goThrough_14 N K  N p1 p2 p3 M = some (v, M')) : oEv X d J_X12_goThrough 14 [some (.ref 59), some (.int p1), some (.int p2), some (.int p3), none, none, none, none] [] K M (some (.int v)) K M' := v_X12_goThrough_14_L hd hK  N p1 p2 p3 M v M'   h
def f_X12_goThrough (N : Nat) (K : oK) (p1 : Int32) (M : oM) : Option (Int32 × oM) :=
  (f_X12_goThrough_14 N K  N p1 0 0 (oUp (oUp M 59 38 ((-1) : Int32)) 59 39 ((-1) : Int32)))
set_option maxRecDepth 20000 in
theorem v_X12_goThrough {X : oX} {N : Nat} {K : oK} {p1 : Int32} {M : oM} {v : Int32} {M' : oM} (hK : oSR K)  (h : f_X12_goThrough N K p1 M = some (v, M')) : oMet X 3 J_X12_goThrough [(.ref 59), (.int p1)] K M (some (.int v)) K M' := by
  unfold f_X12_goThrough at h
  refine oMet_of (L := [some (.ref 59), some (.int p1), none, none, none, none, none, none]) jJ_X12_goThrough.1 rfl (Nat.le_of_ble_eq_true rfl) rfl (Nat.le_refl _) (Nat.le_refl _) ?_
  have hd : 3 ≤ 3 := Nat.le_refl _
  refine oe_iconst (pc := 0) (v := 0) d_X12_goThrough_0 rfl ?_
  refine oe_istore_n (pc := 1) (L2 := [_, _, _, _, _, _, _, _]) d_X12_goThrough_1 rfl rfl (Nat.le_of_ble_eq_true rfl) rfl ?_
  refine oe_aload_n (pc := 2) d_X12_goThrough_2 rfl ?_
  refine oe_iconst (pc := 3) (v := (-1)) d_X12_goThrough_3 rfl ?_
  refine oe_putf (pc := 4) d_X12_goThrough_4 fl_X12_262 ock12 (k := 38) (Nat.le_of_ble_eq_true rfl) rfl rfl (oLt hK (a := 59) (Nat.le_of_ble_eq_true rfl)) (oSho hK (a := 59) (Nat.le_of_ble_eq_true rfl) rfl) ?_
  refine oe_aload_n (pc := 7) d_X12_goThrough_7 rfl ?_
  refine oe_iconst (pc := 8) (v := (-1)) d_X12_goThrough_8 rfl ?_
  refine oe_putf (pc := 9) d_X12_goThrough_9 fl_X12_265 ock12 (k := 39) (Nat.le_of_ble_eq_true rfl) rfl rfl (oLt hK (a := 59) (Nat.le_of_ble_eq_true rfl)) (oSho hK (a := 59) (Nat.le_of_ble_eq_true rfl) rfl) ?_
  refine oe_iconst (pc := 12) (v := 0) d_X12_goThrough_12 rfl ?_
  refine oe_istore_n (pc := 13) (L2 := [_, _, _, _, _, _, _, _]) d_X12_goThrough_13 rfl rfl (Nat.le_of_ble_eq_true rfl) rfl ?_
  exact v_X12_goThrough_14 hd hK   h
theorem d_X12_greatest_0 : decode J_X12_greatest.2.1 0 = .ok (.sipush 600, 3) := by decide +kernel
theorem d_X12_greatest_3 : decode J_X12_greatest.2.1 3 = .ok (.istore 4, 2) := by decide +kernel
theorem d_X12_greatest_5 : decode J_X12_greatest.2.1 5 = .ok (.iload 4, 2) := by decide +kernel
theorem d_X12_greatest_7 : decode J_X12_greatest.2.1 7 = .ok (.iload_n 3, 1) := by decide +kernel
theorem d_X12_greatest_8 : decode J_X12_greatest.2.1 8 = .ok (.if_icmp .le 44, 3) := by decide +kernel
theorem d_X12_greatest_11 : decode J_X12_greatest.2.1 11 = .ok (.aload_n 0, 1) := by decide +kernel
theorem d_X12_greatest_12 : decode J_X12_greatest.2.1 12 = .ok (.iload 4, 2) := by decide +kernel
theorem d_X12_greatest_14 : decode J_X12_greatest.2.1 14 = .ok (.invokevirtual 268, 3) := by decide +kernel
theorem d_X12_greatest_17 : decode J_X12_greatest.2.1 17 = .ok (.istore 5, 2) := by decide +kernel
theorem d_X12_greatest_19 : decode J_X12_greatest.2.1 19 = .ok (.iload 5, 2) := by decide +kernel
theorem d_X12_greatest_21 : decode J_X12_greatest.2.1 21 = .ok (.iload_n 1, 1) := by decide +kernel
theorem d_X12_greatest_22 : decode J_X12_greatest.2.1 22 = .ok (.if_icmp .lt 24, 3) := by decide +kernel
theorem d_X12_greatest_25 : decode J_X12_greatest.2.1 25 = .ok (.iload_n 2, 1) := by decide +kernel
theorem d_X12_greatest_26 : decode J_X12_greatest.2.1 26 = .ok (.ifCond .eq 10, 3) := by decide +kernel
theorem d_X12_greatest_29 : decode J_X12_greatest.2.1 29 = .ok (.aload_n 0, 1) := by decide +kernel
theorem d_X12_greatest_30 : decode J_X12_greatest.2.1 30 = .ok (.getfield 265, 3) := by decide +kernel
theorem d_X12_greatest_33 : decode J_X12_greatest.2.1 33 = .ok (.goto 7, 3) := by decide +kernel
theorem d_X12_greatest_36 : decode J_X12_greatest.2.1 36 = .ok (.aload_n 0, 1) := by decide +kernel
theorem d_X12_greatest_37 : decode J_X12_greatest.2.1 37 = .ok (.getfield 262, 3) := by decide +kernel
theorem d_X12_greatest_40 : decode J_X12_greatest.2.1 40 = .ok (.ifCond .ge 6, 3) := by decide +kernel
theorem d_X12_greatest_43 : decode J_X12_greatest.2.1 43 = .ok (.iload 4, 2) := by decide +kernel
theorem d_X12_greatest_45 : decode J_X12_greatest.2.1 45 = .ok (.ireturn, 1) := by decide +kernel
theorem d_X12_greatest_46 : decode J_X12_greatest.2.1 46 = .ok (.iinc 4 (-1), 3) := by decide +kernel
theorem d_X12_greatest_49 : decode J_X12_greatest.2.1 49 = .ok (.goto (-44), 3) := by decide +kernel
theorem d_X12_greatest_52 : decode J_X12_greatest.2.1 52 = .ok (.iload_n 3, 1) := by decide +kernel
theorem d_X12_greatest_53 : decode J_X12_greatest.2.1 53 = .ok (.ireturn, 1) := by decide +kernel
def f_X12_greatest_46 (N : Nat) (K : oK) (r5 : (Int32 → Int32 → Int32 → Int32 → oM → Option (Int32 × oM))) (p1 : Int32) (p2 : Int32) (p3 : Int32) (p4 : Int32) (M : oM) : Option (Int32 × oM) :=
  (r5 p1 p2 p3 (p4 + (-1)) M)
set_option maxRecDepth 20000 in
theorem v_X12_greatest_46 {X : oX} {d N : Nat} {K : oK} {r5 : (Int32 → Int32 → Int32 → Int32 → oM → Option (Int32 × oM))} {p1 : Int32} {p2 : Int32} {p3 : Int32} {p4 : Int32} {M : oM} {v : Int32} {M' : oM}  (hd : 4 ≤ d) (hK : oSR K)  (hr5 : ∀ (p1 : Int32) (p2 : Int32) (p3 : Int32) (p4 : Int32) (M : oM) (v : Int32) (M' : oM) , r5 p1 p2 p3 p4 M = some (v, M') → oEv X d J_X12_greatest 5 [some (.ref 59), some (.int p1), some (.int p2), some (.int p3), some (.int p4), none] [] K M (some (.int v)) K M') (h : f_X12_greatest_46 N K r5 p1 p2 p3 p4 M = some (v, M')) : oEv X d J_X12_greatest 46 [some (.ref 59), some (.int p1), some (.int p2), some (.int p3), some (.int p4), none] [] K M (some (.int v)) K M' := by
  unfold f_X12_greatest_46 at h
  refine oe_iinc (pc := 46) (v := (p4 + (-1))) (L2 := [_, _, _, _, _, _]) d_X12_greatest_46 rfl rfl rfl (Nat.le_of_ble_eq_true rfl) rfl ?_
  refine oe_goto (pc := 49) (tgt := 5) d_X12_greatest_49 (by decide) ?_
  exact hr5 _ _ _ _ _ _ _ h
def f_X12_greatest_40 (N : Nat) (K : oK) (r5 : (Int32 → Int32 → Int32 → Int32 → oM → Option (Int32 × oM))) (p1 : Int32) (p2 : Int32) (p3 : Int32) (p4 : Int32) (s0 : Int32) (M : oM) : Option (Int32 × oM) :=
  (if 0 ≤ s0 then (f_X12_greatest_46 N K r5 p1 p2 p3 p4 M) else some (p4, M))
set_option maxRecDepth 20000 in
theorem v_X12_greatest_40 {X : oX} {d N : Nat} {K : oK} {r5 : (Int32 → Int32 → Int32 → Int32 → oM → Option (Int32 × oM))} {p1 : Int32} {p2 : Int32} {p3 : Int32} {p4 : Int32} {s0 : Int32} {M : oM} {v : Int32} {M' : oM}  (hd : 4 ≤ d) (hK : oSR K)  (hr5 : ∀ (p1 : Int32) (p2 : Int32) (p3 : Int32) (p4 : Int32) (M : oM) (v : Int32) (M' : oM) , r5 p1 p2 p3 p4 M = some (v, M') → oEv X d J_X12_greatest 5 [some (.ref 59), some (.int p1), some (.int p2), some (.int p3), some (.int p4), none] [] K M (some (.int v)) K M') (h : f_X12_greatest_40 N K r5 p1 p2 p3 p4 s0 M = some (v, M')) : oEv X d J_X12_greatest 40 [some (.ref 59), some (.int p1), some (.int p2), some (.int p3), some (.int p4), none] [(.int s0)] K M (some (.int v)) K M' := by
  unfold f_X12_greatest_40 at h
  refine oe_if_ge (pc := 40) (tgt := 46) d_X12_greatest_40 (by decide) (fun c7 => ?_) (fun c7 => ?_)
  · replace h := (if_pos c7).symm.trans h
    exact v_X12_greatest_46 hd hK  hr5 h
  · replace h := (if_neg c7).symm.trans h
    refine oe_iload (pc := 43) d_X12_greatest_43 rfl ?_
    obtain ⟨rfl, rfl⟩ := oRes h
    exact oe_iret (pc := 45) d_X12_greatest_45 ⟨_, rfl, rfl⟩
def f_X12_greatest_5 (N : Nat) (K : oK)  : Nat → Int32 → Int32 → Int32 → Int32 → oM → Option (Int32 × oM)
  | 0, _, _, _, _, _ => none
  | n + 1, p1, p2, p3, p4, M => (fun r5 => (if p4 ≤ p3 then some (p3, M) else oB2 (f_X12_goThrough N K p4 M) (fun v2 M3 => (if v2 < p1 then (f_X12_greatest_46 N K r5 p1 p2 p3 p4 M3) else (if p2 = 0 then (f_X12_greatest_40 N K r5 p1 p2 p3 p4 (M3.1 59 38) M3) else (f_X12_greatest_40 N K r5 p1 p2 p3 p4 (M3.1 59 39) M3)))))) (f_X12_greatest_5 N K  n)
set_option maxRecDepth 20000 in
theorem v_X12_greatest_5_L {X : oX} {d N : Nat} {K : oK}  (hd : 4 ≤ d) (hK : oSR K)  : ∀ (n : Nat) (p1 : Int32) (p2 : Int32) (p3 : Int32) (p4 : Int32) (M : oM) (v : Int32) (M' : oM)  , f_X12_greatest_5 N K  n p1 p2 p3 p4 M = some (v, M') → oEv X d J_X12_greatest 5 [some (.ref 59), some (.int p1), some (.int p2), some (.int p3), some (.int p4), none] [] K M (some (.int v)) K M' := by
  intro n
  induction n with
  | zero =>
    intro p1 p2 p3 p4 M v M'   h
    cases h
  | succ n hr5 =>
    intro p1 p2 p3 p4 M v M'   h
    refine oe_iload (pc := 5) d_X12_greatest_5 rfl ?_
    refine oe_iload_n (pc := 7) d_X12_greatest_7 rfl ?_
    refine oe_icmp_le (pc := 8) (tgt := 52) d_X12_greatest_8 (by decide) (fun c1 => ?_) (fun c1 => ?_)
    · replace h := (if_pos c1).symm.trans h
      refine oe_iload_n (pc := 52) d_X12_greatest_52 rfl ?_
      obtain ⟨rfl, rfl⟩ := oRes h
      exact oe_iret (pc := 53) d_X12_greatest_53 ⟨_, rfl, rfl⟩
    · replace h := (if_neg c1).symm.trans h
      refine oe_aload_n (pc := 11) d_X12_greatest_11 rfl ?_
      refine oe_iload (pc := 12) d_X12_greatest_12 rfl ?_
      obtain ⟨v2, M3, q4, h⟩ := oB2_some h
      refine oe_callV (pc := 14) (ci := 12) d_X12_greatest_14 (v_X12_goThrough hK  q4) (by omega) ml_X12_268 jJ_X12_goThrough rfl rfl (oLt hK (a := 59) (Nat.le_of_ble_eq_true rfl)) (oSho hK (a := 59) (Nat.le_of_ble_eq_true rfl) rfl) ock12 rfl (Nat.le_of_ble_eq_true rfl) ⟨Nat.le_refl _, Nat.le_refl _⟩ ⟨Nat.le_refl _, Nat.le_refl _⟩ ?_
      refine oe_istore (pc := 17) (L2 := [_, _, _, _, _, _]) d_X12_greatest_17 rfl (Nat.le_of_ble_eq_true rfl) rfl ?_
      refine oe_iload (pc := 19) d_X12_greatest_19 rfl ?_
      refine oe_iload_n (pc := 21) d_X12_greatest_21 rfl ?_
      refine oe_icmp_lt (pc := 22) (tgt := 46) d_X12_greatest_22 (by decide) (fun c5 => ?_) (fun c5 => ?_)
      · replace h := (if_pos c5).symm.trans h
        refine oEv.fg [true, true, true, true, true, false] ?_
        exact v_X12_greatest_46 hd hK  hr5 h
      · replace h := (if_neg c5).symm.trans h
        refine oe_iload_n (pc := 25) d_X12_greatest_25 rfl ?_
        refine oe_if_eq (pc := 26) (tgt := 36) d_X12_greatest_26 (by decide) (fun c6 => ?_) (fun c6 => ?_)
        · replace h := (if_pos c6).symm.trans h
          refine oe_aload_n (pc := 36) d_X12_greatest_36 rfl ?_
          refine oe_getf (pc := 37) d_X12_greatest_37 fl_X12_262 ock12 (k := 38) (Nat.le_of_ble_eq_true rfl) rfl (oLt hK (a := 59) (Nat.le_of_ble_eq_true rfl)) (oSho hK (a := 59) (Nat.le_of_ble_eq_true rfl) rfl) ?_
          refine oEv.fg [true, true, true, true, true, false] ?_
          exact v_X12_greatest_40 hd hK  hr5 h
        · replace h := (if_neg c6).symm.trans h
          refine oe_aload_n (pc := 29) d_X12_greatest_29 rfl ?_
          refine oe_getf (pc := 30) d_X12_greatest_30 fl_X12_265 ock12 (k := 39) (Nat.le_of_ble_eq_true rfl) rfl (oLt hK (a := 59) (Nat.le_of_ble_eq_true rfl)) (oSho hK (a := 59) (Nat.le_of_ble_eq_true rfl) rfl) ?_
          refine oe_goto (pc := 33) (tgt := 40) d_X12_greatest_33 (by decide) ?_
          refine oEv.fg [true, true, true, true, true, false] ?_
          exact v_X12_greatest_40 hd hK  hr5 h
theorem v_X12_greatest_5 {X : oX} {d N : Nat} {K : oK}  {p1 : Int32} {p2 : Int32} {p3 : Int32} {p4 : Int32} {M : oM} {v : Int32} {M' : oM}  (hd : 4 ≤ d) (hK : oSR K)   (h : f_X12_greatest_5 N K  N p1 p2 p3 p4 M = some (v, M')) : oEv X d J_X12_greatest 5 [some (.ref 59), some (.int p1), some (.int p2), some (.int p3), some (.int p4), none] [] K M (some (.int v)) K M' := v_X12_greatest_5_L hd hK  N p1 p2 p3 p4 M v M'   h
def f_X12_greatest (N : Nat) (K : oK) (p1 : Int32) (p2 : Int32) (p3 : Int32) (M : oM) : Option (Int32 × oM) :=
  (f_X12_greatest_5 N K  N p1 p2 p3 600 M)
set_option maxRecDepth 20000 in
theorem v_X12_greatest {X : oX} {N : Nat} {K : oK} {p1 : Int32} {p2 : Int32} {p3 : Int32} {M : oM} {v : Int32} {M' : oM} (hK : oSR K)  (h : f_X12_greatest N K p1 p2 p3 M = some (v, M')) : oMet X 4 J_X12_greatest [(.ref 59), (.int p1), (.int p2), (.int p3)] K M (some (.int v)) K M' := by
  unfold f_X12_greatest at h
  refine oMet_of (L := [some (.ref 59), some (.int p1), some (.int p2), some (.int p3), none, none]) jJ_X12_greatest.1 rfl (Nat.le_of_ble_eq_true rfl) rfl (Nat.le_refl _) (Nat.le_refl _) ?_
  have hd : 4 ≤ 4 := Nat.le_refl _
  refine oe_sipush (pc := 0) (v := 600) d_X12_greatest_0 rfl ?_
  refine oe_istore (pc := 3) (L2 := [_, _, _, _, _, _]) d_X12_greatest_3 rfl (Nat.le_of_ble_eq_true rfl) rfl ?_
  exact v_X12_greatest_5 hd hK   h
theorem d_X12_flowNow_0 : decode J_X12_flowNow.2.1 0 = .ok (.aload_n 0, 1) := by decide +kernel
theorem d_X12_flowNow_1 : decode J_X12_flowNow.2.1 1 = .ok (.iload_n 1, 1) := by decide +kernel
theorem d_X12_flowNow_2 : decode J_X12_flowNow.2.1 2 = .ok (.iconst 0, 1) := by decide +kernel
theorem d_X12_flowNow_3 : decode J_X12_flowNow.2.1 3 = .ok (.iconst (-1), 1) := by decide +kernel
theorem d_X12_flowNow_4 : decode J_X12_flowNow.2.1 4 = .ok (.invokevirtual 271, 3) := by decide +kernel
theorem d_X12_flowNow_7 : decode J_X12_flowNow.2.1 7 = .ok (.istore_n 2, 1) := by decide +kernel
theorem d_X12_flowNow_8 : decode J_X12_flowNow.2.1 8 = .ok (.iload_n 2, 1) := by decide +kernel
theorem d_X12_flowNow_9 : decode J_X12_flowNow.2.1 9 = .ok (.ifCond .ge 8, 3) := by decide +kernel
theorem d_X12_flowNow_12 : decode J_X12_flowNow.2.1 12 = .ok (.bipush (-2), 2) := by decide +kernel
theorem d_X12_flowNow_14 : decode J_X12_flowNow.2.1 14 = .ok (.goto 4, 3) := by decide +kernel
theorem d_X12_flowNow_17 : decode J_X12_flowNow.2.1 17 = .ok (.iload_n 2, 1) := by decide +kernel
theorem d_X12_flowNow_18 : decode J_X12_flowNow.2.1 18 = .ok (.ireturn, 1) := by decide +kernel
def f_X12_flowNow (N : Nat) (K : oK) (p1 : Int32) (M : oM) : Option (Int32 × oM) :=
  oB2 (f_X12_greatest N K p1 (0 : Int32) ((-1) : Int32) M) (fun v1 M2 => (if 0 ≤ v1 then some (v1, M2) else some ((-2), M2)))
set_option maxRecDepth 20000 in
theorem v_X12_flowNow {X : oX} {N : Nat} {K : oK} {p1 : Int32} {M : oM} {v : Int32} {M' : oM} (hK : oSR K)  (h : f_X12_flowNow N K p1 M = some (v, M')) : oMet X 5 J_X12_flowNow [(.ref 59), (.int p1)] K M (some (.int v)) K M' := by
  unfold f_X12_flowNow at h
  refine oMet_of (L := [some (.ref 59), some (.int p1), none]) jJ_X12_flowNow.1 rfl (Nat.le_of_ble_eq_true rfl) rfl (Nat.le_refl _) (Nat.le_refl _) ?_
  have hd : 5 ≤ 5 := Nat.le_refl _
  refine oe_aload_n (pc := 0) d_X12_flowNow_0 rfl ?_
  refine oe_iload_n (pc := 1) d_X12_flowNow_1 rfl ?_
  refine oe_iconst (pc := 2) (v := 0) d_X12_flowNow_2 rfl ?_
  refine oe_iconst (pc := 3) (v := (-1)) d_X12_flowNow_3 rfl ?_
  obtain ⟨v1, M2, q3, h⟩ := oB2_some h
  refine oe_callV (pc := 4) (ci := 12) d_X12_flowNow_4 (v_X12_greatest hK  q3) (by omega) ml_X12_271 jJ_X12_greatest rfl rfl (oLt hK (a := 59) (Nat.le_of_ble_eq_true rfl)) (oSho hK (a := 59) (Nat.le_of_ble_eq_true rfl) rfl) ock12 rfl (Nat.le_of_ble_eq_true rfl) ⟨Nat.le_refl _, Nat.le_refl _⟩ ⟨Nat.le_refl _, Nat.le_refl _⟩ ?_
  refine oe_istore_n (pc := 7) (L2 := [_, _, _]) d_X12_flowNow_7 rfl rfl (Nat.le_of_ble_eq_true rfl) rfl ?_
  refine oe_iload_n (pc := 8) d_X12_flowNow_8 rfl ?_
  refine oe_if_ge (pc := 9) (tgt := 17) d_X12_flowNow_9 (by decide) (fun c4 => ?_) (fun c4 => ?_)
  · replace h := (if_pos c4).symm.trans h
    refine oe_iload_n (pc := 17) d_X12_flowNow_17 rfl ?_
    obtain ⟨rfl, rfl⟩ := oRes h
    exact oe_iret (pc := 18) d_X12_flowNow_18 ⟨_, rfl, rfl⟩
  · replace h := (if_neg c4).symm.trans h
    refine oe_bipush (pc := 12) (v := (-2)) d_X12_flowNow_12 rfl ?_
    refine oe_goto (pc := 14) (tgt := 18) d_X12_flowNow_14 (by decide) ?_
    obtain ⟨rfl, rfl⟩ := oRes h
    exact oe_iret (pc := 18) d_X12_flowNow_18 ⟨_, rfl, rfl⟩
