/-! walked by program: X12_isShelf, X12_parts, X12_adds, X12_settle, X12_think -/
theorem d_X12_isShelf_0 : decode J_X12_isShelf.2.1 0 = .ok (.iload_n 0, 1) := by decide +kernel
theorem d_X12_isShelf_1 : decode J_X12_isShelf.2.1 1 = .ok (.i2l, 1) := by decide +kernel
theorem d_X12_isShelf_2 : decode J_X12_isShelf.2.1 2 = .ok (.lconst 0, 1) := by decide +kernel
theorem d_X12_isShelf_3 : decode J_X12_isShelf.2.1 3 = .ok (.ldc2_w 225, 3) := by decide +kernel
theorem d_X12_isShelf_6 : decode J_X12_isShelf.2.1 6 = .ok (.invokestatic 145, 3) := by decide +kernel
theorem d_X12_isShelf_9 : decode J_X12_isShelf.2.1 9 = .ok (.ireturn, 1) := by decide +kernel
def f_X12_isShelf (N : Nat) (K : oK) (p0 : Int32) (M : oM) : Option (Bool × oM) :=
  oB2 (f_X12_within N K ((p0 : Int32).toInt64) 0 5 M) (fun v1 M2 => cond v1 (some (true, M2)) (some (false, M2)))
set_option maxRecDepth 20000 in
theorem v_X12_isShelf {X : oX} {N : Nat} {K : oK} {p0 : Int32} {M : oM} {v : Bool} {M' : oM} (hK : oSR K)  (h : f_X12_isShelf N K p0 M = some (v, M')) : oMet X 2 J_X12_isShelf [(.int p0)] K M (some (.int (oBi v))) K M' := by
  unfold f_X12_isShelf at h
  refine oMet_of (L := [some (.int p0)]) jJ_X12_isShelf.1 rfl (Nat.le_of_ble_eq_true rfl) rfl (Nat.le_refl _) (Nat.le_refl _) ?_
  have hd : 2 ≤ 2 := Nat.le_refl _
  refine oe_iload_n (pc := 0) d_X12_isShelf_0 rfl ?_
  refine oe_i2l (pc := 1) d_X12_isShelf_1 ?_
  refine oe_lconst (pc := 2) (v := 0) d_X12_isShelf_2 rfl ?_
  refine oe_ldc2 (pc := 3) d_X12_isShelf_3 co_X12_225 ?_
  obtain ⟨v1, M2, q3, h⟩ := oB2_some h
  cases v1 with
  | true =>
    replace h := oCt h
    refine oe_callS (pc := 6) d_X12_isShelf_6 (v_X12_within hK  q3) (by omega) ml_X12_145 jJ_X12_within rfl rfl (Nat.le_of_ble_eq_true rfl) ⟨Nat.le_refl _, Nat.le_refl _⟩ ⟨Nat.le_refl _, Nat.le_refl _⟩ ?_
    obtain ⟨rfl, rfl⟩ := oRes h
    exact oe_iret (pc := 9) d_X12_isShelf_9 ⟨_, rfl, rfl⟩
  | false =>
    replace h := oCf h
    refine oe_callS (pc := 6) d_X12_isShelf_6 (v_X12_within hK  q3) (by omega) ml_X12_145 jJ_X12_within rfl rfl (Nat.le_of_ble_eq_true rfl) ⟨Nat.le_refl _, Nat.le_refl _⟩ ⟨Nat.le_refl _, Nat.le_refl _⟩ ?_
    obtain ⟨rfl, rfl⟩ := oRes h
    exact oe_iret (pc := 9) d_X12_isShelf_9 ⟨_, rfl, rfl⟩
theorem d_X12_parts_0 : decode J_X12_parts.2.1 0 = .ok (.aload_n 0, 1) := by decide +kernel
theorem d_X12_parts_1 : decode J_X12_parts.2.1 1 = .ok (.iload_n 1, 1) := by decide +kernel
theorem d_X12_parts_2 : decode J_X12_parts.2.1 2 = .ok (.invokevirtual 230, 3) := by decide +kernel
theorem d_X12_parts_5 : decode J_X12_parts.2.1 5 = .ok (.ifCond .eq 23, 3) := by decide +kernel
theorem d_X12_parts_8 : decode J_X12_parts.2.1 8 = .ok (.iload_n 2, 1) := by decide +kernel
theorem d_X12_parts_9 : decode J_X12_parts.2.1 9 = .ok (.invokestatic 237, 3) := by decide +kernel
theorem d_X12_parts_12 : decode J_X12_parts.2.1 12 = .ok (.ifCond .eq 16, 3) := by decide +kernel
theorem d_X12_parts_15 : decode J_X12_parts.2.1 15 = .ok (.iload 4, 2) := by decide +kernel
theorem d_X12_parts_17 : decode J_X12_parts.2.1 17 = .ok (.i2l, 1) := by decide +kernel
theorem d_X12_parts_18 : decode J_X12_parts.2.1 18 = .ok (.lconst 1, 1) := by decide +kernel
theorem d_X12_parts_19 : decode J_X12_parts.2.1 19 = .ok (.ldc2_w 240, 3) := by decide +kernel
theorem d_X12_parts_22 : decode J_X12_parts.2.1 22 = .ok (.invokestatic 145, 3) := by decide +kernel
theorem d_X12_parts_25 : decode J_X12_parts.2.1 25 = .ok (.ifCond .ne 5, 3) := by decide +kernel
theorem d_X12_parts_28 : decode J_X12_parts.2.1 28 = .ok (.iconst (-1), 1) := by decide +kernel
theorem d_X12_parts_29 : decode J_X12_parts.2.1 29 = .ok (.ireturn, 1) := by decide +kernel
theorem d_X12_parts_30 : decode J_X12_parts.2.1 30 = .ok (.aload_n 0, 1) := by decide +kernel
theorem d_X12_parts_31 : decode J_X12_parts.2.1 31 = .ok (.getfield 122, 3) := by decide +kernel
theorem d_X12_parts_34 : decode J_X12_parts.2.1 34 = .ok (.iload_n 2, 1) := by decide +kernel
theorem d_X12_parts_35 : decode J_X12_parts.2.1 35 = .ok (.iaload, 1) := by decide +kernel
theorem d_X12_parts_36 : decode J_X12_parts.2.1 36 = .ok (.ifCond .lt 17, 3) := by decide +kernel
theorem d_X12_parts_39 : decode J_X12_parts.2.1 39 = .ok (.aload_n 0, 1) := by decide +kernel
theorem d_X12_parts_40 : decode J_X12_parts.2.1 40 = .ok (.getfield 122, 3) := by decide +kernel
theorem d_X12_parts_43 : decode J_X12_parts.2.1 43 = .ok (.iload_n 2, 1) := by decide +kernel
theorem d_X12_parts_44 : decode J_X12_parts.2.1 44 = .ok (.iaload, 1) := by decide +kernel
theorem d_X12_parts_45 : decode J_X12_parts.2.1 45 = .ok (.bipush 20, 2) := by decide +kernel
theorem d_X12_parts_47 : decode J_X12_parts.2.1 47 = .ok (.if_icmp .eq 6, 3) := by decide +kernel
theorem d_X12_parts_50 : decode J_X12_parts.2.1 50 = .ok (.bipush (-12), 2) := by decide +kernel
theorem d_X12_parts_52 : decode J_X12_parts.2.1 52 = .ok (.ireturn, 1) := by decide +kernel
theorem d_X12_parts_53 : decode J_X12_parts.2.1 53 = .ok (.iconst 0, 1) := by decide +kernel
theorem d_X12_parts_54 : decode J_X12_parts.2.1 54 = .ok (.istore 5, 2) := by decide +kernel
theorem d_X12_parts_56 : decode J_X12_parts.2.1 56 = .ok (.aload_n 0, 1) := by decide +kernel
theorem d_X12_parts_57 : decode J_X12_parts.2.1 57 = .ok (.getfield 122, 3) := by decide +kernel
theorem d_X12_parts_60 : decode J_X12_parts.2.1 60 = .ok (.iload_n 2, 1) := by decide +kernel
theorem d_X12_parts_61 : decode J_X12_parts.2.1 61 = .ok (.iaload, 1) := by decide +kernel
theorem d_X12_parts_62 : decode J_X12_parts.2.1 62 = .ok (.bipush 20, 2) := by decide +kernel
theorem d_X12_parts_64 : decode J_X12_parts.2.1 64 = .ok (.if_icmp .ne 11, 3) := by decide +kernel
theorem d_X12_parts_67 : decode J_X12_parts.2.1 67 = .ok (.iload_n 3, 1) := by decide +kernel
theorem d_X12_parts_68 : decode J_X12_parts.2.1 68 = .ok (.ifCond .lt 7, 3) := by decide +kernel
theorem d_X12_parts_71 : decode J_X12_parts.2.1 71 = .ok (.iconst 1, 1) := by decide +kernel
theorem d_X12_parts_72 : decode J_X12_parts.2.1 72 = .ok (.goto 4, 3) := by decide +kernel
theorem d_X12_parts_75 : decode J_X12_parts.2.1 75 = .ok (.iconst 0, 1) := by decide +kernel
theorem d_X12_parts_76 : decode J_X12_parts.2.1 76 = .ok (.istore 6, 2) := by decide +kernel
theorem d_X12_parts_78 : decode J_X12_parts.2.1 78 = .ok (.iload 6, 2) := by decide +kernel
theorem d_X12_parts_80 : decode J_X12_parts.2.1 80 = .ok (.ifCond .eq 101, 3) := by decide +kernel
theorem d_X12_parts_83 : decode J_X12_parts.2.1 83 = .ok (.iload 5, 2) := by decide +kernel
theorem d_X12_parts_85 : decode J_X12_parts.2.1 85 = .ok (.iload 4, 2) := by decide +kernel
theorem d_X12_parts_87 : decode J_X12_parts.2.1 87 = .ok (.if_icmp .ge 94, 3) := by decide +kernel
theorem d_X12_parts_90 : decode J_X12_parts.2.1 90 = .ok (.bipush 60, 2) := by decide +kernel
theorem d_X12_parts_92 : decode J_X12_parts.2.1 92 = .ok (.iload_n 2, 1) := by decide +kernel
theorem d_X12_parts_93 : decode J_X12_parts.2.1 93 = .ok (.imul, 1) := by decide +kernel
theorem d_X12_parts_94 : decode J_X12_parts.2.1 94 = .ok (.iload_n 3, 1) := by decide +kernel
theorem d_X12_parts_95 : decode J_X12_parts.2.1 95 = .ok (.iadd, 1) := by decide +kernel
theorem d_X12_parts_96 : decode J_X12_parts.2.1 96 = .ok (.iconst 3, 1) := by decide +kernel
theorem d_X12_parts_97 : decode J_X12_parts.2.1 97 = .ok (.iload 5, 2) := by decide +kernel
theorem d_X12_parts_99 : decode J_X12_parts.2.1 99 = .ok (.imul, 1) := by decide +kernel
theorem d_X12_parts_100 : decode J_X12_parts.2.1 100 = .ok (.iadd, 1) := by decide +kernel
theorem d_X12_parts_101 : decode J_X12_parts.2.1 101 = .ok (.istore 7, 2) := by decide +kernel
theorem d_X12_parts_103 : decode J_X12_parts.2.1 103 = .ok (.iload_n 3, 1) := by decide +kernel
theorem d_X12_parts_104 : decode J_X12_parts.2.1 104 = .ok (.aload_n 0, 1) := by decide +kernel
theorem d_X12_parts_105 : decode J_X12_parts.2.1 105 = .ok (.getfield 125, 3) := by decide +kernel
theorem d_X12_parts_108 : decode J_X12_parts.2.1 108 = .ok (.iload_n 2, 1) := by decide +kernel
theorem d_X12_parts_109 : decode J_X12_parts.2.1 109 = .ok (.iaload, 1) := by decide +kernel
theorem d_X12_parts_110 : decode J_X12_parts.2.1 110 = .ok (.iconst 3, 1) := by decide +kernel
theorem d_X12_parts_111 : decode J_X12_parts.2.1 111 = .ok (.isub, 1) := by decide +kernel
theorem d_X12_parts_112 : decode J_X12_parts.2.1 112 = .ok (.iconst 3, 1) := by decide +kernel
theorem d_X12_parts_113 : decode J_X12_parts.2.1 113 = .ok (.iload 5, 2) := by decide +kernel
theorem d_X12_parts_115 : decode J_X12_parts.2.1 115 = .ok (.imul, 1) := by decide +kernel
theorem d_X12_parts_116 : decode J_X12_parts.2.1 116 = .ok (.isub, 1) := by decide +kernel
theorem d_X12_parts_117 : decode J_X12_parts.2.1 117 = .ok (.if_icmp .gt 43, 3) := by decide +kernel
theorem d_X12_parts_120 : decode J_X12_parts.2.1 120 = .ok (.aload_n 0, 1) := by decide +kernel
theorem d_X12_parts_121 : decode J_X12_parts.2.1 121 = .ok (.iload_n 1, 1) := by decide +kernel
theorem d_X12_parts_122 : decode J_X12_parts.2.1 122 = .ok (.aload_n 0, 1) := by decide +kernel
theorem d_X12_parts_123 : decode J_X12_parts.2.1 123 = .ok (.getfield 128, 3) := by decide +kernel
theorem d_X12_parts_126 : decode J_X12_parts.2.1 126 = .ok (.iload 7, 2) := by decide +kernel
theorem d_X12_parts_128 : decode J_X12_parts.2.1 128 = .ok (.laload, 1) := by decide +kernel
theorem d_X12_parts_129 : decode J_X12_parts.2.1 129 = .ok (.l2i, 1) := by decide +kernel
theorem d_X12_parts_130 : decode J_X12_parts.2.1 130 = .ok (.aload_n 0, 1) := by decide +kernel
theorem d_X12_parts_131 : decode J_X12_parts.2.1 131 = .ok (.getfield 128, 3) := by decide +kernel
theorem d_X12_parts_134 : decode J_X12_parts.2.1 134 = .ok (.iload 7, 2) := by decide +kernel
theorem d_X12_parts_136 : decode J_X12_parts.2.1 136 = .ok (.iconst 1, 1) := by decide +kernel
theorem d_X12_parts_137 : decode J_X12_parts.2.1 137 = .ok (.iadd, 1) := by decide +kernel
theorem d_X12_parts_138 : decode J_X12_parts.2.1 138 = .ok (.laload, 1) := by decide +kernel
theorem d_X12_parts_139 : decode J_X12_parts.2.1 139 = .ok (.l2i, 1) := by decide +kernel
theorem d_X12_parts_140 : decode J_X12_parts.2.1 140 = .ok (.aload_n 0, 1) := by decide +kernel
theorem d_X12_parts_141 : decode J_X12_parts.2.1 141 = .ok (.getfield 128, 3) := by decide +kernel
theorem d_X12_parts_144 : decode J_X12_parts.2.1 144 = .ok (.iload 7, 2) := by decide +kernel
theorem d_X12_parts_146 : decode J_X12_parts.2.1 146 = .ok (.iconst 2, 1) := by decide +kernel
theorem d_X12_parts_147 : decode J_X12_parts.2.1 147 = .ok (.iadd, 1) := by decide +kernel
theorem d_X12_parts_148 : decode J_X12_parts.2.1 148 = .ok (.laload, 1) := by decide +kernel
theorem d_X12_parts_149 : decode J_X12_parts.2.1 149 = .ok (.l2i, 1) := by decide +kernel
theorem d_X12_parts_150 : decode J_X12_parts.2.1 150 = .ok (.invokevirtual 242, 3) := by decide +kernel
theorem d_X12_parts_153 : decode J_X12_parts.2.1 153 = .ok (.ifCond .le 7, 3) := by decide +kernel
theorem d_X12_parts_156 : decode J_X12_parts.2.1 156 = .ok (.iconst 1, 1) := by decide +kernel
theorem d_X12_parts_157 : decode J_X12_parts.2.1 157 = .ok (.goto 4, 3) := by decide +kernel
theorem d_X12_parts_160 : decode J_X12_parts.2.1 160 = .ok (.iconst 0, 1) := by decide +kernel
theorem d_X12_parts_161 : decode J_X12_parts.2.1 161 = .ok (.istore 6, 2) := by decide +kernel
theorem d_X12_parts_163 : decode J_X12_parts.2.1 163 = .ok (.iload 5, 2) := by decide +kernel
theorem d_X12_parts_165 : decode J_X12_parts.2.1 165 = .ok (.iload 6, 2) := by decide +kernel
theorem d_X12_parts_167 : decode J_X12_parts.2.1 167 = .ok (.ifCond .eq 7, 3) := by decide +kernel
theorem d_X12_parts_170 : decode J_X12_parts.2.1 170 = .ok (.iconst 1, 1) := by decide +kernel
theorem d_X12_parts_171 : decode J_X12_parts.2.1 171 = .ok (.goto 4, 3) := by decide +kernel
theorem d_X12_parts_174 : decode J_X12_parts.2.1 174 = .ok (.iconst 0, 1) := by decide +kernel
theorem d_X12_parts_175 : decode J_X12_parts.2.1 175 = .ok (.iadd, 1) := by decide +kernel
theorem d_X12_parts_176 : decode J_X12_parts.2.1 176 = .ok (.istore 5, 2) := by decide +kernel
theorem d_X12_parts_178 : decode J_X12_parts.2.1 178 = .ok (.goto (-100), 3) := by decide +kernel
theorem d_X12_parts_181 : decode J_X12_parts.2.1 181 = .ok (.iload 5, 2) := by decide +kernel
theorem d_X12_parts_183 : decode J_X12_parts.2.1 183 = .ok (.ireturn, 1) := by decide +kernel
def f_X12_parts_175 (N : Nat) (K : oK) (r78 : (Int32 → Int32 → Int32 → Int32 → Int32 → Int32 → oM → Option (Int32 × oM))) (p1 : Int32) (p2 : Int32) (p3 : Int32) (p4 : Int32) (p6 : Int32) (s0 : Int32) (s1 : Int32) (M : oM) : Option (Int32 × oM) :=
  (r78 p1 p2 p3 p4 (s1 + s0) p6 M)
set_option maxRecDepth 20000 in
theorem v_X12_parts_175 {X : oX} {d N : Nat} {K : oK} {r78 : (Int32 → Int32 → Int32 → Int32 → Int32 → Int32 → oM → Option (Int32 × oM))} {p1 : Int32} {p2 : Int32} {p3 : Int32} {p4 : Int32} {p6 : Int32} {s0 : Int32} {s1 : Int32} {M : oM} {v : Int32} {M' : oM}  (hd : 5 ≤ d) (hK : oSR K)  (hr78 : ∀ (p1 : Int32) (p2 : Int32) (p3 : Int32) (p4 : Int32) (p5 : Int32) (p6 : Int32) (M : oM) (v : Int32) (M' : oM) , r78 p1 p2 p3 p4 p5 p6 M = some (v, M') → oEv X d J_X12_parts 78 [some (.ref 59), some (.int p1), some (.int p2), some (.int p3), some (.int p4), some (.int p5), some (.int p6), none] [] K M (some (.int v)) K M') (h : f_X12_parts_175 N K r78 p1 p2 p3 p4 p6 s0 s1 M = some (v, M')) : oEv X d J_X12_parts 175 [some (.ref 59), some (.int p1), some (.int p2), some (.int p3), some (.int p4), none, some (.int p6), none] [(.int s0), (.int s1)] K M (some (.int v)) K M' := by
  unfold f_X12_parts_175 at h
  refine oe_iadd (pc := 175) d_X12_parts_175 ?_
  refine oe_istore (pc := 176) (L2 := [_, _, _, _, _, _, _, _]) d_X12_parts_176 rfl (Nat.le_of_ble_eq_true rfl) rfl ?_
  refine oe_goto (pc := 178) (tgt := 78) d_X12_parts_178 (by decide) ?_
  exact hr78 _ _ _ _ _ _ _ _ _ h
def f_X12_parts_161 (N : Nat) (K : oK) (r78 : (Int32 → Int32 → Int32 → Int32 → Int32 → Int32 → oM → Option (Int32 × oM))) (p1 : Int32) (p2 : Int32) (p3 : Int32) (p4 : Int32) (p5 : Int32) (s0 : Int32) (M : oM) : Option (Int32 × oM) :=
  (if s0 = 0 then (f_X12_parts_175 N K r78 p1 p2 p3 p4 s0 0 p5 M) else (f_X12_parts_175 N K r78 p1 p2 p3 p4 s0 1 p5 M))
set_option maxRecDepth 20000 in
theorem v_X12_parts_161 {X : oX} {d N : Nat} {K : oK} {r78 : (Int32 → Int32 → Int32 → Int32 → Int32 → Int32 → oM → Option (Int32 × oM))} {p1 : Int32} {p2 : Int32} {p3 : Int32} {p4 : Int32} {p5 : Int32} {s0 : Int32} {M : oM} {v : Int32} {M' : oM}  (hd : 5 ≤ d) (hK : oSR K)  (hr78 : ∀ (p1 : Int32) (p2 : Int32) (p3 : Int32) (p4 : Int32) (p5 : Int32) (p6 : Int32) (M : oM) (v : Int32) (M' : oM) , r78 p1 p2 p3 p4 p5 p6 M = some (v, M') → oEv X d J_X12_parts 78 [some (.ref 59), some (.int p1), some (.int p2), some (.int p3), some (.int p4), some (.int p5), some (.int p6), none] [] K M (some (.int v)) K M') (h : f_X12_parts_161 N K r78 p1 p2 p3 p4 p5 s0 M = some (v, M')) : oEv X d J_X12_parts 161 [some (.ref 59), some (.int p1), some (.int p2), some (.int p3), some (.int p4), some (.int p5), none, none] [(.int s0)] K M (some (.int v)) K M' := by
  unfold f_X12_parts_161 at h
  refine oe_istore (pc := 161) (L2 := [_, _, _, _, _, _, _, _]) d_X12_parts_161 rfl (Nat.le_of_ble_eq_true rfl) rfl ?_
  refine oe_iload (pc := 163) d_X12_parts_163 rfl ?_
  refine oe_iload (pc := 165) d_X12_parts_165 rfl ?_
  refine oe_if_eq (pc := 167) (tgt := 174) d_X12_parts_167 (by decide) (fun c18 => ?_) (fun c18 => ?_)
  · replace h := (if_pos c18).symm.trans h
    refine oe_iconst (pc := 174) (v := 0) d_X12_parts_174 rfl ?_
    refine oEv.fg [true, true, true, true, true, false, true, false] ?_
    exact v_X12_parts_175 hd hK  hr78 h
  · replace h := (if_neg c18).symm.trans h
    refine oe_iconst (pc := 170) (v := 1) d_X12_parts_170 rfl ?_
    refine oe_goto (pc := 171) (tgt := 175) d_X12_parts_171 (by decide) ?_
    refine oEv.fg [true, true, true, true, true, false, true, false] ?_
    exact v_X12_parts_175 hd hK  hr78 h
def f_X12_parts_160 (N : Nat) (K : oK) (r78 : (Int32 → Int32 → Int32 → Int32 → Int32 → Int32 → oM → Option (Int32 × oM))) (p1 : Int32) (p2 : Int32) (p3 : Int32) (p4 : Int32) (p5 : Int32) (M : oM) : Option (Int32 × oM) :=
  (f_X12_parts_161 N K r78 p1 p2 p3 p4 p5 0 M)
set_option maxRecDepth 20000 in
theorem v_X12_parts_160 {X : oX} {d N : Nat} {K : oK} {r78 : (Int32 → Int32 → Int32 → Int32 → Int32 → Int32 → oM → Option (Int32 × oM))} {p1 : Int32} {p2 : Int32} {p3 : Int32} {p4 : Int32} {p5 : Int32} {M : oM} {v : Int32} {M' : oM}  (hd : 5 ≤ d) (hK : oSR K)  (hr78 : ∀ (p1 : Int32) (p2 : Int32) (p3 : Int32) (p4 : Int32) (p5 : Int32) (p6 : Int32) (M : oM) (v : Int32) (M' : oM) , r78 p1 p2 p3 p4 p5 p6 M = some (v, M') → oEv X d J_X12_parts 78 [some (.ref 59), some (.int p1), some (.int p2), some (.int p3), some (.int p4), some (.int p5), some (.int p6), none] [] K M (some (.int v)) K M') (h : f_X12_parts_160 N K r78 p1 p2 p3 p4 p5 M = some (v, M')) : oEv X d J_X12_parts 160 [some (.ref 59), some (.int p1), some (.int p2), some (.int p3), some (.int p4), some (.int p5), none, none] [] K M (some (.int v)) K M' := by
  unfold f_X12_parts_160 at h
  refine oe_iconst (pc := 160) (v := 0) d_X12_parts_160 rfl ?_
  exact v_X12_parts_161 hd hK  hr78 h
def f_X12_parts_78 (N : Nat) (K : oK)  : Nat → Int32 → Int32 → Int32 → Int32 → Int32 → Int32 → oM → Option (Int32 × oM)
  | 0, _, _, _, _, _, _, _ => none
  | n + 1, p1, p2, p3, p4, p5, p6, M => (fun r78 => (if p6 = 0 then some (p5, M) else (if p4 ≤ p5 then some (p5, M) else oIx (p2) 6 ((if (((M.1 98 (p2 : Int32).toNatClampNeg) - 3) - ((3 : Int32) * p5)) < p3 then (f_X12_parts_160 N K r78 p1 p2 p3 p4 p5 M) else oIx (((((60 : Int32) * p2) + p3) + ((3 : Int32) * p5))) 360 (oIx ((((((60 : Int32) * p2) + p3) + ((3 : Int32) * p5)) + 1)) 360 (oIx ((((((60 : Int32) * p2) + p3) + ((3 : Int32) * p5)) + 2)) 360 (oB2 (f_X12_part N K p1 (((M.2 99 (((((60 : Int32) * p2) + p3) + ((3 : Int32) * p5)) : Int32).toNatClampNeg) : Int64).toInt32) (((M.2 99 ((((((60 : Int32) * p2) + p3) + ((3 : Int32) * p5)) + 1) : Int32).toNatClampNeg) : Int64).toInt32) (((M.2 99 ((((((60 : Int32) * p2) + p3) + ((3 : Int32) * p5)) + 2) : Int32).toNatClampNeg) : Int64).toInt32) M) (fun v22 M23 => (if v22 ≤ 0 then (f_X12_parts_160 N K r78 p1 p2 p3 p4 p5 M23) else (f_X12_parts_161 N K r78 p1 p2 p3 p4 p5 1 M23))))))))))) (f_X12_parts_78 N K  n)
set_option maxRecDepth 20000 in
theorem v_X12_parts_78_L {X : oX} {d N : Nat} {K : oK}  (hd : 5 ≤ d) (hK : oSR K)  : ∀ (n : Nat) (p1 : Int32) (p2 : Int32) (p3 : Int32) (p4 : Int32) (p5 : Int32) (p6 : Int32) (M : oM) (v : Int32) (M' : oM)  , f_X12_parts_78 N K  n p1 p2 p3 p4 p5 p6 M = some (v, M') → oEv X d J_X12_parts 78 [some (.ref 59), some (.int p1), some (.int p2), some (.int p3), some (.int p4), some (.int p5), some (.int p6), none] [] K M (some (.int v)) K M' := by
  intro n
  induction n with
  | zero =>
    intro p1 p2 p3 p4 p5 p6 M v M'   h
    cases h
  | succ n hr78 =>
    intro p1 p2 p3 p4 p5 p6 M v M'   h
    refine oe_iload (pc := 78) d_X12_parts_78 rfl ?_
    refine oe_if_eq (pc := 80) (tgt := 181) d_X12_parts_80 (by decide) (fun c14 => ?_) (fun c14 => ?_)
    · replace h := (if_pos c14).symm.trans h
      refine oe_iload (pc := 181) d_X12_parts_181 rfl ?_
      obtain ⟨rfl, rfl⟩ := oRes h
      exact oe_iret (pc := 183) d_X12_parts_183 ⟨_, rfl, rfl⟩
    · replace h := (if_neg c14).symm.trans h
      refine oe_iload (pc := 83) d_X12_parts_83 rfl ?_
      refine oe_iload (pc := 85) d_X12_parts_85 rfl ?_
      refine oe_icmp_ge (pc := 87) (tgt := 181) d_X12_parts_87 (by decide) (fun c15 => ?_) (fun c15 => ?_)
      · replace h := (if_pos c15).symm.trans h
        refine oe_iload (pc := 181) d_X12_parts_181 rfl ?_
        obtain ⟨rfl, rfl⟩ := oRes h
        exact oe_iret (pc := 183) d_X12_parts_183 ⟨_, rfl, rfl⟩
      · replace h := (if_neg c15).symm.trans h
        refine oe_bipush (pc := 90) (v := 60) d_X12_parts_90 rfl ?_
        refine oe_iload_n (pc := 92) d_X12_parts_92 rfl ?_
        refine oe_imul (pc := 93) d_X12_parts_93 ?_
        refine oe_iload_n (pc := 94) d_X12_parts_94 rfl ?_
        refine oe_iadd (pc := 95) d_X12_parts_95 ?_
        refine oe_iconst (pc := 96) (v := 3) d_X12_parts_96 rfl ?_
        refine oe_iload (pc := 97) d_X12_parts_97 rfl ?_
        refine oe_imul (pc := 99) d_X12_parts_99 ?_
        refine oe_iadd (pc := 100) d_X12_parts_100 ?_
        refine oe_istore (pc := 101) (L2 := [_, _, _, _, _, _, _, _]) d_X12_parts_101 rfl (Nat.le_of_ble_eq_true rfl) rfl ?_
        refine oe_iload_n (pc := 103) d_X12_parts_103 rfl ?_
        refine oe_aload_n (pc := 104) d_X12_parts_104 rfl ?_
        refine oe_getr (pc := 105) d_X12_parts_105 fl_X12_125 ock12 (k := 63) (b := 98) (Nat.le_of_ble_eq_true rfl) (by decide) (oLt hK (a := 59) (Nat.le_of_ble_eq_true rfl)) (oSho hK (a := 59) (Nat.le_of_ble_eq_true rfl) rfl) (oRfK hK rfl) ?_
        refine oe_iload_n (pc := 108) d_X12_parts_108 rfl ?_
        obtain ⟨i16, h⟩ := oIx_some h
        refine oe_iald (pc := 109) d_X12_parts_109 (oLt hK (a := 98) (Nat.le_of_ble_eq_true rfl)) (oSha hK (a := 98) (Nat.le_of_ble_eq_true rfl) rfl) i16 ?_
        refine oe_iconst (pc := 110) (v := 3) d_X12_parts_110 rfl ?_
        refine oe_isub (pc := 111) d_X12_parts_111 ?_
        refine oe_iconst (pc := 112) (v := 3) d_X12_parts_112 rfl ?_
        refine oe_iload (pc := 113) d_X12_parts_113 rfl ?_
        refine oe_imul (pc := 115) d_X12_parts_115 ?_
        refine oe_isub (pc := 116) d_X12_parts_116 ?_
        refine oe_icmp_gt (pc := 117) (tgt := 160) d_X12_parts_117 (by decide) (fun c17 => ?_) (fun c17 => ?_)
        · replace h := (if_pos c17).symm.trans h
          refine oEv.fg [true, true, true, true, true, true, false, false] ?_
          exact v_X12_parts_160 hd hK  hr78 h
        · replace h := (if_neg c17).symm.trans h
          refine oe_aload_n (pc := 120) d_X12_parts_120 rfl ?_
          refine oe_iload_n (pc := 121) d_X12_parts_121 rfl ?_
          refine oe_aload_n (pc := 122) d_X12_parts_122 rfl ?_
          refine oe_getr (pc := 123) d_X12_parts_123 fl_X12_128 ock12 (k := 64) (b := 99) (Nat.le_of_ble_eq_true rfl) (by decide) (oLt hK (a := 59) (Nat.le_of_ble_eq_true rfl)) (oSho hK (a := 59) (Nat.le_of_ble_eq_true rfl) rfl) (oRfK hK rfl) ?_
          refine oe_iload (pc := 126) d_X12_parts_126 rfl ?_
          obtain ⟨i19, h⟩ := oIx_some h
          refine oe_lald (pc := 128) d_X12_parts_128 (oLt hK (a := 99) (Nat.le_of_ble_eq_true rfl)) (oSha hK (a := 99) (Nat.le_of_ble_eq_true rfl) rfl) i19 ?_
          refine oe_l2i (pc := 129) d_X12_parts_129 ?_
          refine oe_aload_n (pc := 130) d_X12_parts_130 rfl ?_
          refine oe_getr (pc := 131) d_X12_parts_131 fl_X12_128 ock12 (k := 64) (b := 99) (Nat.le_of_ble_eq_true rfl) (by decide) (oLt hK (a := 59) (Nat.le_of_ble_eq_true rfl)) (oSho hK (a := 59) (Nat.le_of_ble_eq_true rfl) rfl) (oRfK hK rfl) ?_
          refine oe_iload (pc := 134) d_X12_parts_134 rfl ?_
          refine oe_iconst (pc := 136) (v := 1) d_X12_parts_136 rfl ?_
          refine oe_iadd (pc := 137) d_X12_parts_137 ?_
          obtain ⟨i20, h⟩ := oIx_some h
          refine oe_lald (pc := 138) d_X12_parts_138 (oLt hK (a := 99) (Nat.le_of_ble_eq_true rfl)) (oSha hK (a := 99) (Nat.le_of_ble_eq_true rfl) rfl) i20 ?_
          refine oe_l2i (pc := 139) d_X12_parts_139 ?_
          refine oe_aload_n (pc := 140) d_X12_parts_140 rfl ?_
          refine oe_getr (pc := 141) d_X12_parts_141 fl_X12_128 ock12 (k := 64) (b := 99) (Nat.le_of_ble_eq_true rfl) (by decide) (oLt hK (a := 59) (Nat.le_of_ble_eq_true rfl)) (oSho hK (a := 59) (Nat.le_of_ble_eq_true rfl) rfl) (oRfK hK rfl) ?_
          refine oe_iload (pc := 144) d_X12_parts_144 rfl ?_
          refine oe_iconst (pc := 146) (v := 2) d_X12_parts_146 rfl ?_
          refine oe_iadd (pc := 147) d_X12_parts_147 ?_
          obtain ⟨i21, h⟩ := oIx_some h
          refine oe_lald (pc := 148) d_X12_parts_148 (oLt hK (a := 99) (Nat.le_of_ble_eq_true rfl)) (oSha hK (a := 99) (Nat.le_of_ble_eq_true rfl) rfl) i21 ?_
          refine oe_l2i (pc := 149) d_X12_parts_149 ?_
          obtain ⟨v22, M23, q24, h⟩ := oB2_some h
          refine oe_callV (pc := 150) (ci := 12) d_X12_parts_150 (v_X12_part hK  q24) (by omega) ml_X12_242 jJ_X12_part rfl rfl (oLt hK (a := 59) (Nat.le_of_ble_eq_true rfl)) (oSho hK (a := 59) (Nat.le_of_ble_eq_true rfl) rfl) ock12 rfl (Nat.le_of_ble_eq_true rfl) ⟨Nat.le_refl _, Nat.le_refl _⟩ ⟨Nat.le_refl _, Nat.le_refl _⟩ ?_
          refine oe_if_le (pc := 153) (tgt := 160) d_X12_parts_153 (by decide) (fun c25 => ?_) (fun c25 => ?_)
          · replace h := (if_pos c25).symm.trans h
            refine oEv.fg [true, true, true, true, true, true, false, false] ?_
            exact v_X12_parts_160 hd hK  hr78 h
          · replace h := (if_neg c25).symm.trans h
            refine oe_iconst (pc := 156) (v := 1) d_X12_parts_156 rfl ?_
            refine oe_goto (pc := 157) (tgt := 161) d_X12_parts_157 (by decide) ?_
            refine oEv.fg [true, true, true, true, true, true, false, false] ?_
            exact v_X12_parts_161 hd hK  hr78 h
theorem v_X12_parts_78 {X : oX} {d N : Nat} {K : oK}  {p1 : Int32} {p2 : Int32} {p3 : Int32} {p4 : Int32} {p5 : Int32} {p6 : Int32} {M : oM} {v : Int32} {M' : oM}  (hd : 5 ≤ d) (hK : oSR K)   (h : f_X12_parts_78 N K  N p1 p2 p3 p4 p5 p6 M = some (v, M')) : oEv X d J_X12_parts 78 [some (.ref 59), some (.int p1), some (.int p2), some (.int p3), some (.int p4), some (.int p5), some (.int p6), none] [] K M (some (.int v)) K M' := v_X12_parts_78_L hd hK  N p1 p2 p3 p4 p5 p6 M v M'   h
def f_X12_parts_76 (N : Nat) (K : oK)  (p1 : Int32) (p2 : Int32) (p3 : Int32) (p4 : Int32) (p5 : Int32) (s0 : Int32) (M : oM) : Option (Int32 × oM) :=
  (f_X12_parts_78 N K  N p1 p2 p3 p4 p5 s0 M)
set_option maxRecDepth 20000 in
theorem v_X12_parts_76 {X : oX} {d N : Nat} {K : oK}  {p1 : Int32} {p2 : Int32} {p3 : Int32} {p4 : Int32} {p5 : Int32} {s0 : Int32} {M : oM} {v : Int32} {M' : oM}  (hd : 5 ≤ d) (hK : oSR K)   (h : f_X12_parts_76 N K  p1 p2 p3 p4 p5 s0 M = some (v, M')) : oEv X d J_X12_parts 76 [some (.ref 59), some (.int p1), some (.int p2), some (.int p3), some (.int p4), some (.int p5), none, none] [(.int s0)] K M (some (.int v)) K M' := by
  unfold f_X12_parts_76 at h
  refine oe_istore (pc := 76) (L2 := [_, _, _, _, _, _, _, _]) d_X12_parts_76 rfl (Nat.le_of_ble_eq_true rfl) rfl ?_
  exact v_X12_parts_78 hd hK   h
def f_X12_parts_75 (N : Nat) (K : oK)  (p1 : Int32) (p2 : Int32) (p3 : Int32) (p4 : Int32) (p5 : Int32) (M : oM) : Option (Int32 × oM) :=
  (f_X12_parts_76 N K  p1 p2 p3 p4 p5 0 M)
set_option maxRecDepth 20000 in
theorem v_X12_parts_75 {X : oX} {d N : Nat} {K : oK}  {p1 : Int32} {p2 : Int32} {p3 : Int32} {p4 : Int32} {p5 : Int32} {M : oM} {v : Int32} {M' : oM}  (hd : 5 ≤ d) (hK : oSR K)   (h : f_X12_parts_75 N K  p1 p2 p3 p4 p5 M = some (v, M')) : oEv X d J_X12_parts 75 [some (.ref 59), some (.int p1), some (.int p2), some (.int p3), some (.int p4), some (.int p5), none, none] [] K M (some (.int v)) K M' := by
  unfold f_X12_parts_75 at h
  refine oe_iconst (pc := 75) (v := 0) d_X12_parts_75 rfl ?_
  exact v_X12_parts_76 hd hK   h
def f_X12_parts_53 (N : Nat) (K : oK)  (p1 : Int32) (p2 : Int32) (p3 : Int32) (p4 : Int32) (M : oM) : Option (Int32 × oM) :=
  oIx (p2) 6 ((if (M.1 97 (p2 : Int32).toNatClampNeg) = 20 then (if p3 < 0 then (f_X12_parts_75 N K  p1 p2 p3 p4 0 M) else (f_X12_parts_76 N K  p1 p2 p3 p4 0 1 M)) else (f_X12_parts_75 N K  p1 p2 p3 p4 0 M)))
set_option maxRecDepth 20000 in
theorem v_X12_parts_53 {X : oX} {d N : Nat} {K : oK}  {p1 : Int32} {p2 : Int32} {p3 : Int32} {p4 : Int32} {M : oM} {v : Int32} {M' : oM}  (hd : 5 ≤ d) (hK : oSR K)   (h : f_X12_parts_53 N K  p1 p2 p3 p4 M = some (v, M')) : oEv X d J_X12_parts 53 [some (.ref 59), some (.int p1), some (.int p2), some (.int p3), some (.int p4), none, none, none] [] K M (some (.int v)) K M' := by
  unfold f_X12_parts_53 at h
  refine oe_iconst (pc := 53) (v := 0) d_X12_parts_53 rfl ?_
  refine oe_istore (pc := 54) (L2 := [_, _, _, _, _, _, _, _]) d_X12_parts_54 rfl (Nat.le_of_ble_eq_true rfl) rfl ?_
  refine oe_aload_n (pc := 56) d_X12_parts_56 rfl ?_
  refine oe_getr (pc := 57) d_X12_parts_57 fl_X12_122 ock12 (k := 62) (b := 97) (Nat.le_of_ble_eq_true rfl) (by decide) (oLt hK (a := 59) (Nat.le_of_ble_eq_true rfl)) (oSho hK (a := 59) (Nat.le_of_ble_eq_true rfl) rfl) (oRfK hK rfl) ?_
  refine oe_iload_n (pc := 60) d_X12_parts_60 rfl ?_
  obtain ⟨i12, h⟩ := oIx_some h
  refine oe_iald (pc := 61) d_X12_parts_61 (oLt hK (a := 97) (Nat.le_of_ble_eq_true rfl)) (oSha hK (a := 97) (Nat.le_of_ble_eq_true rfl) rfl) i12 ?_
  refine oe_bipush (pc := 62) (v := 20) d_X12_parts_62 rfl ?_
  refine oe_icmp_ne (pc := 64) (tgt := 75) d_X12_parts_64 (by decide) (fun c13 => ?_) (fun c13 => ?_)
  · replace h := (if_neg c13).symm.trans h
    exact v_X12_parts_75 hd hK   h
  · replace h := (if_pos c13).symm.trans h
    refine oe_iload_n (pc := 67) d_X12_parts_67 rfl ?_
    refine oe_if_lt (pc := 68) (tgt := 75) d_X12_parts_68 (by decide) (fun c26 => ?_) (fun c26 => ?_)
    · replace h := (if_pos c26).symm.trans h
      exact v_X12_parts_75 hd hK   h
    · replace h := (if_neg c26).symm.trans h
      refine oe_iconst (pc := 71) (v := 1) d_X12_parts_71 rfl ?_
      refine oe_goto (pc := 72) (tgt := 76) d_X12_parts_72 (by decide) ?_
      exact v_X12_parts_76 hd hK   h
def f_X12_parts (N : Nat) (K : oK) (p1 : Int32) (p2 : Int32) (p3 : Int32) (p4 : Int32) (M : oM) : Option (Int32 × oM) :=
  oB2 (f_X12_isLaying N K p1 M) (fun v1 M2 => cond v1 (oB2 (f_X12_isShelf N K p2 M2) (fun v4 M5 => cond v4 (oB2 (f_X12_within N K ((p4 : Int32).toInt64) 1 20 M5) (fun v7 M8 => cond v7 (oIx (p2) 6 ((if (M8.1 97 (p2 : Int32).toNatClampNeg) < 0 then (f_X12_parts_53 N K  p1 p2 p3 p4 M8) else oIx (p2) 6 ((if (M8.1 97 (p2 : Int32).toNatClampNeg) = 20 then (f_X12_parts_53 N K  p1 p2 p3 p4 M8) else some ((-12), M8)))))) (some ((-1), M8)))) (some ((-1), M5)))) (some ((-1), M2)))
set_option maxRecDepth 20000 in
theorem v_X12_parts {X : oX} {N : Nat} {K : oK} {p1 : Int32} {p2 : Int32} {p3 : Int32} {p4 : Int32} {M : oM} {v : Int32} {M' : oM} (hK : oSR K)  (h : f_X12_parts N K p1 p2 p3 p4 M = some (v, M')) : oMet X 5 J_X12_parts [(.ref 59), (.int p1), (.int p2), (.int p3), (.int p4)] K M (some (.int v)) K M' := by
  unfold f_X12_parts at h
  refine oMet_of (L := [some (.ref 59), some (.int p1), some (.int p2), some (.int p3), some (.int p4), none, none, none]) jJ_X12_parts.1 rfl (Nat.le_of_ble_eq_true rfl) rfl (Nat.le_refl _) (Nat.le_refl _) ?_
  have hd : 5 ≤ 5 := Nat.le_refl _
  refine oe_aload_n (pc := 0) d_X12_parts_0 rfl ?_
  refine oe_iload_n (pc := 1) d_X12_parts_1 rfl ?_
  obtain ⟨v1, M2, q3, h⟩ := oB2_some h
  cases v1 with
  | true =>
    replace h := oCt h
    refine oe_callV (pc := 2) (ci := 12) d_X12_parts_2 (v_X12_isLaying hK  q3) (by omega) ml_X12_230 jJ_X12_isLaying rfl rfl (oLt hK (a := 59) (Nat.le_of_ble_eq_true rfl)) (oSho hK (a := 59) (Nat.le_of_ble_eq_true rfl) rfl) ock12 rfl (Nat.le_of_ble_eq_true rfl) ⟨Nat.le_refl _, Nat.le_refl _⟩ ⟨Nat.le_refl _, Nat.le_refl _⟩ ?_
    refine oe_if_eq (pc := 5) (tgt := 28) d_X12_parts_5 (by decide) (fun c => absurd c (by decide)) (fun _ => ?_)
    refine oe_iload_n (pc := 8) d_X12_parts_8 rfl ?_
    obtain ⟨v4, M5, q6, h⟩ := oB2_some h
    cases v4 with
    | true =>
      replace h := oCt h
      refine oe_callS (pc := 9) d_X12_parts_9 (v_X12_isShelf hK  q6) (by omega) ml_X12_237 jJ_X12_isShelf rfl rfl (Nat.le_of_ble_eq_true rfl) ⟨Nat.le_refl _, Nat.le_refl _⟩ ⟨Nat.le_refl _, Nat.le_refl _⟩ ?_
      refine oe_if_eq (pc := 12) (tgt := 28) d_X12_parts_12 (by decide) (fun c => absurd c (by decide)) (fun _ => ?_)
      refine oe_iload (pc := 15) d_X12_parts_15 rfl ?_
      refine oe_i2l (pc := 17) d_X12_parts_17 ?_
      refine oe_lconst (pc := 18) (v := 1) d_X12_parts_18 rfl ?_
      refine oe_ldc2 (pc := 19) d_X12_parts_19 co_X12_240 ?_
      obtain ⟨v7, M8, q9, h⟩ := oB2_some h
      cases v7 with
      | true =>
        replace h := oCt h
        refine oe_callS (pc := 22) d_X12_parts_22 (v_X12_within hK  q9) (by omega) ml_X12_145 jJ_X12_within rfl rfl (Nat.le_of_ble_eq_true rfl) ⟨Nat.le_refl _, Nat.le_refl _⟩ ⟨Nat.le_refl _, Nat.le_refl _⟩ ?_
        refine oe_if_ne (pc := 25) (tgt := 30) d_X12_parts_25 (by decide) (fun _ => ?_) (fun c => absurd c (by decide))
        refine oe_aload_n (pc := 30) d_X12_parts_30 rfl ?_
        refine oe_getr (pc := 31) d_X12_parts_31 fl_X12_122 ock12 (k := 62) (b := 97) (Nat.le_of_ble_eq_true rfl) (by decide) (oLt hK (a := 59) (Nat.le_of_ble_eq_true rfl)) (oSho hK (a := 59) (Nat.le_of_ble_eq_true rfl) rfl) (oRfK hK rfl) ?_
        refine oe_iload_n (pc := 34) d_X12_parts_34 rfl ?_
        obtain ⟨i10, h⟩ := oIx_some h
        refine oe_iald (pc := 35) d_X12_parts_35 (oLt hK (a := 97) (Nat.le_of_ble_eq_true rfl)) (oSha hK (a := 97) (Nat.le_of_ble_eq_true rfl) rfl) i10 ?_
        refine oe_if_lt (pc := 36) (tgt := 53) d_X12_parts_36 (by decide) (fun c11 => ?_) (fun c11 => ?_)
        · replace h := (if_pos c11).symm.trans h
          exact v_X12_parts_53 hd hK   h
        · replace h := (if_neg c11).symm.trans h
          refine oe_aload_n (pc := 39) d_X12_parts_39 rfl ?_
          refine oe_getr (pc := 40) d_X12_parts_40 fl_X12_122 ock12 (k := 62) (b := 97) (Nat.le_of_ble_eq_true rfl) (by decide) (oLt hK (a := 59) (Nat.le_of_ble_eq_true rfl)) (oSho hK (a := 59) (Nat.le_of_ble_eq_true rfl) rfl) (oRfK hK rfl) ?_
          refine oe_iload_n (pc := 43) d_X12_parts_43 rfl ?_
          obtain ⟨i27, h⟩ := oIx_some h
          refine oe_iald (pc := 44) d_X12_parts_44 (oLt hK (a := 97) (Nat.le_of_ble_eq_true rfl)) (oSha hK (a := 97) (Nat.le_of_ble_eq_true rfl) rfl) i27 ?_
          refine oe_bipush (pc := 45) (v := 20) d_X12_parts_45 rfl ?_
          refine oe_icmp_eq (pc := 47) (tgt := 53) d_X12_parts_47 (by decide) (fun c28 => ?_) (fun c28 => ?_)
          · replace h := (if_pos c28).symm.trans h
            exact v_X12_parts_53 hd hK   h
          · replace h := (if_neg c28).symm.trans h
            refine oe_bipush (pc := 50) (v := (-12)) d_X12_parts_50 rfl ?_
            obtain ⟨rfl, rfl⟩ := oRes h
            exact oe_iret (pc := 52) d_X12_parts_52 ⟨_, rfl, rfl⟩
      | false =>
        replace h := oCf h
        refine oe_callS (pc := 22) d_X12_parts_22 (v_X12_within hK  q9) (by omega) ml_X12_145 jJ_X12_within rfl rfl (Nat.le_of_ble_eq_true rfl) ⟨Nat.le_refl _, Nat.le_refl _⟩ ⟨Nat.le_refl _, Nat.le_refl _⟩ ?_
        refine oe_if_ne (pc := 25) (tgt := 30) d_X12_parts_25 (by decide) (fun c => absurd (by decide) c) (fun _ => ?_)
        refine oe_iconst (pc := 28) (v := (-1)) d_X12_parts_28 rfl ?_
        obtain ⟨rfl, rfl⟩ := oRes h
        exact oe_iret (pc := 29) d_X12_parts_29 ⟨_, rfl, rfl⟩
    | false =>
      replace h := oCf h
      refine oe_callS (pc := 9) d_X12_parts_9 (v_X12_isShelf hK  q6) (by omega) ml_X12_237 jJ_X12_isShelf rfl rfl (Nat.le_of_ble_eq_true rfl) ⟨Nat.le_refl _, Nat.le_refl _⟩ ⟨Nat.le_refl _, Nat.le_refl _⟩ ?_
      refine oe_if_eq (pc := 12) (tgt := 28) d_X12_parts_12 (by decide) (fun _ => ?_) (fun c => absurd (by decide) c)
      refine oe_iconst (pc := 28) (v := (-1)) d_X12_parts_28 rfl ?_
      obtain ⟨rfl, rfl⟩ := oRes h
      exact oe_iret (pc := 29) d_X12_parts_29 ⟨_, rfl, rfl⟩
  | false =>
    replace h := oCf h
    refine oe_callV (pc := 2) (ci := 12) d_X12_parts_2 (v_X12_isLaying hK  q3) (by omega) ml_X12_230 jJ_X12_isLaying rfl rfl (oLt hK (a := 59) (Nat.le_of_ble_eq_true rfl)) (oSho hK (a := 59) (Nat.le_of_ble_eq_true rfl) rfl) ock12 rfl (Nat.le_of_ble_eq_true rfl) ⟨Nat.le_refl _, Nat.le_refl _⟩ ⟨Nat.le_refl _, Nat.le_refl _⟩ ?_
    refine oe_if_eq (pc := 5) (tgt := 28) d_X12_parts_5 (by decide) (fun _ => ?_) (fun c => absurd (by decide) c)
    refine oe_iconst (pc := 28) (v := (-1)) d_X12_parts_28 rfl ?_
    obtain ⟨rfl, rfl⟩ := oRes h
    exact oe_iret (pc := 29) d_X12_parts_29 ⟨_, rfl, rfl⟩
theorem d_X12_adds_0 : decode J_X12_adds.2.1 0 = .ok (.aload_n 0, 1) := by decide +kernel
theorem d_X12_adds_1 : decode J_X12_adds.2.1 1 = .ok (.getfield 74, 3) := by decide +kernel
theorem d_X12_adds_4 : decode J_X12_adds.2.1 4 = .ok (.aload_n 0, 1) := by decide +kernel
theorem d_X12_adds_5 : decode J_X12_adds.2.1 5 = .ok (.getfield 246, 3) := by decide +kernel
theorem d_X12_adds_8 : decode J_X12_adds.2.1 8 = .ok (.iload_n 1, 1) := by decide +kernel
theorem d_X12_adds_9 : decode J_X12_adds.2.1 9 = .ok (.iastore, 1) := by decide +kernel
theorem d_X12_adds_10 : decode J_X12_adds.2.1 10 = .ok (.aload_n 0, 1) := by decide +kernel
theorem d_X12_adds_11 : decode J_X12_adds.2.1 11 = .ok (.getfield 77, 3) := by decide +kernel
theorem d_X12_adds_14 : decode J_X12_adds.2.1 14 = .ok (.aload_n 0, 1) := by decide +kernel
theorem d_X12_adds_15 : decode J_X12_adds.2.1 15 = .ok (.getfield 246, 3) := by decide +kernel
theorem d_X12_adds_18 : decode J_X12_adds.2.1 18 = .ok (.iload_n 2, 1) := by decide +kernel
theorem d_X12_adds_19 : decode J_X12_adds.2.1 19 = .ok (.iastore, 1) := by decide +kernel
theorem d_X12_adds_20 : decode J_X12_adds.2.1 20 = .ok (.aload_n 0, 1) := by decide +kernel
theorem d_X12_adds_21 : decode J_X12_adds.2.1 21 = .ok (.getfield 80, 3) := by decide +kernel
theorem d_X12_adds_24 : decode J_X12_adds.2.1 24 = .ok (.aload_n 0, 1) := by decide +kernel
theorem d_X12_adds_25 : decode J_X12_adds.2.1 25 = .ok (.getfield 246, 3) := by decide +kernel
theorem d_X12_adds_28 : decode J_X12_adds.2.1 28 = .ok (.iload_n 3, 1) := by decide +kernel
theorem d_X12_adds_29 : decode J_X12_adds.2.1 29 = .ok (.iastore, 1) := by decide +kernel
theorem d_X12_adds_30 : decode J_X12_adds.2.1 30 = .ok (.aload_n 0, 1) := by decide +kernel
theorem d_X12_adds_31 : decode J_X12_adds.2.1 31 = .ok (.dup, 1) := by decide +kernel
theorem d_X12_adds_32 : decode J_X12_adds.2.1 32 = .ok (.getfield 246, 3) := by decide +kernel
theorem d_X12_adds_35 : decode J_X12_adds.2.1 35 = .ok (.iconst 1, 1) := by decide +kernel
theorem d_X12_adds_36 : decode J_X12_adds.2.1 36 = .ok (.iadd, 1) := by decide +kernel
theorem d_X12_adds_37 : decode J_X12_adds.2.1 37 = .ok (.putfield 246, 3) := by decide +kernel
theorem d_X12_adds_40 : decode J_X12_adds.2.1 40 = .ok (.return_, 1) := by decide +kernel
def f_X12_adds (N : Nat) (K : oK) (p1 : Int32) (p2 : Int32) (p3 : Int32) (M : oM) : Option (Unit × oM) :=
  oIx ((M.1 59 31)) 25 (oIx (((oUp M 81 ((M.1 59 31) : Int32).toNatClampNeg p1).1 59 31)) 25 (oIx (((oUp (oUp M 81 ((M.1 59 31) : Int32).toNatClampNeg p1) 82 (((oUp M 81 ((M.1 59 31) : Int32).toNatClampNeg p1).1 59 31) : Int32).toNatClampNeg p2).1 59 31)) 25 (some ((), (oUp (oUp (oUp (oUp M 81 ((M.1 59 31) : Int32).toNatClampNeg p1) 82 (((oUp M 81 ((M.1 59 31) : Int32).toNatClampNeg p1).1 59 31) : Int32).toNatClampNeg p2) 83 (((oUp (oUp M 81 ((M.1 59 31) : Int32).toNatClampNeg p1) 82 (((oUp M 81 ((M.1 59 31) : Int32).toNatClampNeg p1).1 59 31) : Int32).toNatClampNeg p2).1 59 31) : Int32).toNatClampNeg p3) 59 31 (((oUp (oUp (oUp M 81 ((M.1 59 31) : Int32).toNatClampNeg p1) 82 (((oUp M 81 ((M.1 59 31) : Int32).toNatClampNeg p1).1 59 31) : Int32).toNatClampNeg p2) 83 (((oUp (oUp M 81 ((M.1 59 31) : Int32).toNatClampNeg p1) 82 (((oUp M 81 ((M.1 59 31) : Int32).toNatClampNeg p1).1 59 31) : Int32).toNatClampNeg p2).1 59 31) : Int32).toNatClampNeg p3).1 59 31) + 1))))))
set_option maxRecDepth 20000 in
theorem v_X12_adds {X : oX} {N : Nat} {K : oK} {p1 : Int32} {p2 : Int32} {p3 : Int32} {M : oM} {v : Unit} {M' : oM} (hK : oSR K)  (h : f_X12_adds N K p1 p2 p3 M = some (v, M')) : oMet X 1 J_X12_adds [(.ref 59), (.int p1), (.int p2), (.int p3)] K M none K M' := by
  unfold f_X12_adds at h
  refine oMet_of (L := [some (.ref 59), some (.int p1), some (.int p2), some (.int p3)]) jJ_X12_adds.1 rfl (Nat.le_of_ble_eq_true rfl) rfl (Nat.le_refl _) (Nat.le_refl _) ?_
  have hd : 1 ≤ 1 := Nat.le_refl _
  refine oe_aload_n (pc := 0) d_X12_adds_0 rfl ?_
  refine oe_getr (pc := 1) d_X12_adds_1 fl_X12_74 ock12 (k := 32) (b := 81) (Nat.le_of_ble_eq_true rfl) (by decide) (oLt hK (a := 59) (Nat.le_of_ble_eq_true rfl)) (oSho hK (a := 59) (Nat.le_of_ble_eq_true rfl) rfl) (oRfK hK rfl) ?_
  refine oe_aload_n (pc := 4) d_X12_adds_4 rfl ?_
  refine oe_getf (pc := 5) d_X12_adds_5 fl_X12_246 ock12 (k := 31) (Nat.le_of_ble_eq_true rfl) rfl (oLt hK (a := 59) (Nat.le_of_ble_eq_true rfl)) (oSho hK (a := 59) (Nat.le_of_ble_eq_true rfl) rfl) ?_
  refine oe_iload_n (pc := 8) d_X12_adds_8 rfl ?_
  obtain ⟨i1, h⟩ := oIx_some h
  refine oe_iast (pc := 9) d_X12_adds_9 (oLt hK (a := 81) (Nat.le_of_ble_eq_true rfl)) (oSha hK (a := 81) (Nat.le_of_ble_eq_true rfl) rfl) i1 ?_
  refine oe_aload_n (pc := 10) d_X12_adds_10 rfl ?_
  refine oe_getr (pc := 11) d_X12_adds_11 fl_X12_77 ock12 (k := 33) (b := 82) (Nat.le_of_ble_eq_true rfl) (by decide) (oLt hK (a := 59) (Nat.le_of_ble_eq_true rfl)) (oSho hK (a := 59) (Nat.le_of_ble_eq_true rfl) rfl) (oRfK hK rfl) ?_
  refine oe_aload_n (pc := 14) d_X12_adds_14 rfl ?_
  refine oe_getf (pc := 15) d_X12_adds_15 fl_X12_246 ock12 (k := 31) (Nat.le_of_ble_eq_true rfl) rfl (oLt hK (a := 59) (Nat.le_of_ble_eq_true rfl)) (oSho hK (a := 59) (Nat.le_of_ble_eq_true rfl) rfl) ?_
  refine oe_iload_n (pc := 18) d_X12_adds_18 rfl ?_
  obtain ⟨i2, h⟩ := oIx_some h
  refine oe_iast (pc := 19) d_X12_adds_19 (oLt hK (a := 82) (Nat.le_of_ble_eq_true rfl)) (oSha hK (a := 82) (Nat.le_of_ble_eq_true rfl) rfl) i2 ?_
  refine oe_aload_n (pc := 20) d_X12_adds_20 rfl ?_
  refine oe_getr (pc := 21) d_X12_adds_21 fl_X12_80 ock12 (k := 34) (b := 83) (Nat.le_of_ble_eq_true rfl) (by decide) (oLt hK (a := 59) (Nat.le_of_ble_eq_true rfl)) (oSho hK (a := 59) (Nat.le_of_ble_eq_true rfl) rfl) (oRfK hK rfl) ?_
  refine oe_aload_n (pc := 24) d_X12_adds_24 rfl ?_
  refine oe_getf (pc := 25) d_X12_adds_25 fl_X12_246 ock12 (k := 31) (Nat.le_of_ble_eq_true rfl) rfl (oLt hK (a := 59) (Nat.le_of_ble_eq_true rfl)) (oSho hK (a := 59) (Nat.le_of_ble_eq_true rfl) rfl) ?_
  refine oe_iload_n (pc := 28) d_X12_adds_28 rfl ?_
  obtain ⟨i3, h⟩ := oIx_some h
  refine oe_iast (pc := 29) d_X12_adds_29 (oLt hK (a := 83) (Nat.le_of_ble_eq_true rfl)) (oSha hK (a := 83) (Nat.le_of_ble_eq_true rfl) rfl) i3 ?_
  refine oe_aload_n (pc := 30) d_X12_adds_30 rfl ?_
  refine oe_dup (pc := 31) d_X12_adds_31 rfl ?_
  refine oe_getf (pc := 32) d_X12_adds_32 fl_X12_246 ock12 (k := 31) (Nat.le_of_ble_eq_true rfl) rfl (oLt hK (a := 59) (Nat.le_of_ble_eq_true rfl)) (oSho hK (a := 59) (Nat.le_of_ble_eq_true rfl) rfl) ?_
  refine oe_iconst (pc := 35) (v := 1) d_X12_adds_35 rfl ?_
  refine oe_iadd (pc := 36) d_X12_adds_36 ?_
  refine oe_putf (pc := 37) d_X12_adds_37 fl_X12_246 ock12 (k := 31) (Nat.le_of_ble_eq_true rfl) rfl rfl (oLt hK (a := 59) (Nat.le_of_ble_eq_true rfl)) (oSho hK (a := 59) (Nat.le_of_ble_eq_true rfl) rfl) ?_
  obtain ⟨rfl, rfl⟩ := oRes h
  exact oe_vret (pc := 40) d_X12_adds_40 rfl
theorem d_X12_settle_0 : decode J_X12_settle.2.1 0 = .ok (.iconst (-1), 1) := by decide +kernel
theorem d_X12_settle_1 : decode J_X12_settle.2.1 1 = .ok (.istore_n 1, 1) := by decide +kernel
theorem d_X12_settle_2 : decode J_X12_settle.2.1 2 = .ok (.iconst 0, 1) := by decide +kernel
theorem d_X12_settle_3 : decode J_X12_settle.2.1 3 = .ok (.istore_n 2, 1) := by decide +kernel
theorem d_X12_settle_4 : decode J_X12_settle.2.1 4 = .ok (.iload_n 2, 1) := by decide +kernel
theorem d_X12_settle_5 : decode J_X12_settle.2.1 5 = .ok (.aload_n 0, 1) := by decide +kernel
theorem d_X12_settle_6 : decode J_X12_settle.2.1 6 = .ok (.getfield 246, 3) := by decide +kernel
theorem d_X12_settle_9 : decode J_X12_settle.2.1 9 = .ok (.if_icmp .ge 24, 3) := by decide +kernel
theorem d_X12_settle_12 : decode J_X12_settle.2.1 12 = .ok (.aload_n 0, 1) := by decide +kernel
theorem d_X12_settle_13 : decode J_X12_settle.2.1 13 = .ok (.getfield 74, 3) := by decide +kernel
theorem d_X12_settle_16 : decode J_X12_settle.2.1 16 = .ok (.iload_n 2, 1) := by decide +kernel
theorem d_X12_settle_17 : decode J_X12_settle.2.1 17 = .ok (.iaload, 1) := by decide +kernel
theorem d_X12_settle_18 : decode J_X12_settle.2.1 18 = .ok (.ifCond .ne 7, 3) := by decide +kernel
theorem d_X12_settle_21 : decode J_X12_settle.2.1 21 = .ok (.iload_n 2, 1) := by decide +kernel
theorem d_X12_settle_22 : decode J_X12_settle.2.1 22 = .ok (.goto 4, 3) := by decide +kernel
theorem d_X12_settle_25 : decode J_X12_settle.2.1 25 = .ok (.iload_n 1, 1) := by decide +kernel
theorem d_X12_settle_26 : decode J_X12_settle.2.1 26 = .ok (.istore_n 1, 1) := by decide +kernel
theorem d_X12_settle_27 : decode J_X12_settle.2.1 27 = .ok (.iinc 2 1, 3) := by decide +kernel
theorem d_X12_settle_30 : decode J_X12_settle.2.1 30 = .ok (.goto (-26), 3) := by decide +kernel
theorem d_X12_settle_33 : decode J_X12_settle.2.1 33 = .ok (.aload_n 0, 1) := by decide +kernel
theorem d_X12_settle_34 : decode J_X12_settle.2.1 34 = .ok (.getfield 249, 3) := by decide +kernel
theorem d_X12_settle_37 : decode J_X12_settle.2.1 37 = .ok (.istore_n 2, 1) := by decide +kernel
theorem d_X12_settle_38 : decode J_X12_settle.2.1 38 = .ok (.iconst 0, 1) := by decide +kernel
theorem d_X12_settle_39 : decode J_X12_settle.2.1 39 = .ok (.istore_n 3, 1) := by decide +kernel
theorem d_X12_settle_40 : decode J_X12_settle.2.1 40 = .ok (.iload_n 3, 1) := by decide +kernel
theorem d_X12_settle_41 : decode J_X12_settle.2.1 41 = .ok (.aload_n 0, 1) := by decide +kernel
theorem d_X12_settle_42 : decode J_X12_settle.2.1 42 = .ok (.getfield 246, 3) := by decide +kernel
theorem d_X12_settle_45 : decode J_X12_settle.2.1 45 = .ok (.if_icmp .ge 119, 3) := by decide +kernel
theorem d_X12_settle_48 : decode J_X12_settle.2.1 48 = .ok (.aload_n 0, 1) := by decide +kernel
theorem d_X12_settle_49 : decode J_X12_settle.2.1 49 = .ok (.getfield 83, 3) := by decide +kernel
theorem d_X12_settle_52 : decode J_X12_settle.2.1 52 = .ok (.iload_n 3, 1) := by decide +kernel
theorem d_X12_settle_53 : decode J_X12_settle.2.1 53 = .ok (.aload_n 0, 1) := by decide +kernel
theorem d_X12_settle_54 : decode J_X12_settle.2.1 54 = .ok (.getfield 252, 3) := by decide +kernel
theorem d_X12_settle_57 : decode J_X12_settle.2.1 57 = .ok (.iconst 2, 1) := by decide +kernel
theorem d_X12_settle_58 : decode J_X12_settle.2.1 58 = .ok (.if_icmp .eq 16, 3) := by decide +kernel
theorem d_X12_settle_61 : decode J_X12_settle.2.1 61 = .ok (.aload_n 0, 1) := by decide +kernel
theorem d_X12_settle_62 : decode J_X12_settle.2.1 62 = .ok (.getfield 252, 3) := by decide +kernel
theorem d_X12_settle_65 : decode J_X12_settle.2.1 65 = .ok (.iconst 4, 1) := by decide +kernel
theorem d_X12_settle_66 : decode J_X12_settle.2.1 66 = .ok (.if_icmp .ne 12, 3) := by decide +kernel
theorem d_X12_settle_69 : decode J_X12_settle.2.1 69 = .ok (.iload_n 3, 1) := by decide +kernel
theorem d_X12_settle_70 : decode J_X12_settle.2.1 70 = .ok (.iload_n 1, 1) := by decide +kernel
theorem d_X12_settle_71 : decode J_X12_settle.2.1 71 = .ok (.if_icmp .le 7, 3) := by decide +kernel
theorem d_X12_settle_74 : decode J_X12_settle.2.1 74 = .ok (.iconst 2, 1) := by decide +kernel
theorem d_X12_settle_75 : decode J_X12_settle.2.1 75 = .ok (.goto 4, 3) := by decide +kernel
theorem d_X12_settle_78 : decode J_X12_settle.2.1 78 = .ok (.iconst 1, 1) := by decide +kernel
theorem d_X12_settle_79 : decode J_X12_settle.2.1 79 = .ok (.iastore, 1) := by decide +kernel
theorem d_X12_settle_80 : decode J_X12_settle.2.1 80 = .ok (.aload_n 0, 1) := by decide +kernel
theorem d_X12_settle_81 : decode J_X12_settle.2.1 81 = .ok (.getfield 86, 3) := by decide +kernel
theorem d_X12_settle_84 : decode J_X12_settle.2.1 84 = .ok (.iload_n 3, 1) := by decide +kernel
theorem d_X12_settle_85 : decode J_X12_settle.2.1 85 = .ok (.iconst 0, 1) := by decide +kernel
theorem d_X12_settle_86 : decode J_X12_settle.2.1 86 = .ok (.iastore, 1) := by decide +kernel
theorem d_X12_settle_87 : decode J_X12_settle.2.1 87 = .ok (.aload_n 0, 1) := by decide +kernel
theorem d_X12_settle_88 : decode J_X12_settle.2.1 88 = .ok (.getfield 74, 3) := by decide +kernel
theorem d_X12_settle_91 : decode J_X12_settle.2.1 91 = .ok (.iload_n 3, 1) := by decide +kernel
theorem d_X12_settle_92 : decode J_X12_settle.2.1 92 = .ok (.iaload, 1) := by decide +kernel
theorem d_X12_settle_93 : decode J_X12_settle.2.1 93 = .ok (.iconst 1, 1) := by decide +kernel
theorem d_X12_settle_94 : decode J_X12_settle.2.1 94 = .ok (.if_icmp .ne 64, 3) := by decide +kernel
theorem d_X12_settle_97 : decode J_X12_settle.2.1 97 = .ok (.aload_n 0, 1) := by decide +kernel
theorem d_X12_settle_98 : decode J_X12_settle.2.1 98 = .ok (.getfield 77, 3) := by decide +kernel
theorem d_X12_settle_101 : decode J_X12_settle.2.1 101 = .ok (.iload_n 3, 1) := by decide +kernel
theorem d_X12_settle_102 : decode J_X12_settle.2.1 102 = .ok (.iaload, 1) := by decide +kernel
theorem d_X12_settle_103 : decode J_X12_settle.2.1 103 = .ok (.istore 4, 2) := by decide +kernel
theorem d_X12_settle_105 : decode J_X12_settle.2.1 105 = .ok (.aload_n 0, 1) := by decide +kernel
theorem d_X12_settle_106 : decode J_X12_settle.2.1 106 = .ok (.getfield 22, 3) := by decide +kernel
theorem d_X12_settle_109 : decode J_X12_settle.2.1 109 = .ok (.iload 4, 2) := by decide +kernel
theorem d_X12_settle_111 : decode J_X12_settle.2.1 111 = .ok (.iaload, 1) := by decide +kernel
theorem d_X12_settle_112 : decode J_X12_settle.2.1 112 = .ok (.iload_n 2, 1) := by decide +kernel
theorem d_X12_settle_113 : decode J_X12_settle.2.1 113 = .ok (.if_icmp .ne 13, 3) := by decide +kernel
theorem d_X12_settle_116 : decode J_X12_settle.2.1 116 = .ok (.aload_n 0, 1) := by decide +kernel
theorem d_X12_settle_117 : decode J_X12_settle.2.1 117 = .ok (.getfield 25, 3) := by decide +kernel
theorem d_X12_settle_120 : decode J_X12_settle.2.1 120 = .ok (.iload 4, 2) := by decide +kernel
theorem d_X12_settle_122 : decode J_X12_settle.2.1 122 = .ok (.iaload, 1) := by decide +kernel
theorem d_X12_settle_123 : decode J_X12_settle.2.1 123 = .ok (.goto 10, 3) := by decide +kernel
theorem d_X12_settle_126 : decode J_X12_settle.2.1 126 = .ok (.aload_n 0, 1) := by decide +kernel
theorem d_X12_settle_127 : decode J_X12_settle.2.1 127 = .ok (.getfield 22, 3) := by decide +kernel
theorem d_X12_settle_130 : decode J_X12_settle.2.1 130 = .ok (.iload 4, 2) := by decide +kernel
theorem d_X12_settle_132 : decode J_X12_settle.2.1 132 = .ok (.iaload, 1) := by decide +kernel
theorem d_X12_settle_133 : decode J_X12_settle.2.1 133 = .ok (.istore 5, 2) := by decide +kernel
theorem d_X12_settle_135 : decode J_X12_settle.2.1 135 = .ok (.aload_n 0, 1) := by decide +kernel
theorem d_X12_settle_136 : decode J_X12_settle.2.1 136 = .ok (.getfield 86, 3) := by decide +kernel
theorem d_X12_settle_139 : decode J_X12_settle.2.1 139 = .ok (.iload_n 3, 1) := by decide +kernel
theorem d_X12_settle_140 : decode J_X12_settle.2.1 140 = .ok (.aload_n 0, 1) := by decide +kernel
theorem d_X12_settle_141 : decode J_X12_settle.2.1 141 = .ok (.getfield 7, 3) := by decide +kernel
theorem d_X12_settle_144 : decode J_X12_settle.2.1 144 = .ok (.iload 5, 2) := by decide +kernel
theorem d_X12_settle_146 : decode J_X12_settle.2.1 146 = .ok (.iaload, 1) := by decide +kernel
theorem d_X12_settle_147 : decode J_X12_settle.2.1 147 = .ok (.aload_n 0, 1) := by decide +kernel
theorem d_X12_settle_148 : decode J_X12_settle.2.1 148 = .ok (.getfield 7, 3) := by decide +kernel
theorem d_X12_settle_151 : decode J_X12_settle.2.1 151 = .ok (.iload_n 2, 1) := by decide +kernel
theorem d_X12_settle_152 : decode J_X12_settle.2.1 152 = .ok (.iaload, 1) := by decide +kernel
theorem d_X12_settle_153 : decode J_X12_settle.2.1 153 = .ok (.isub, 1) := by decide +kernel
theorem d_X12_settle_154 : decode J_X12_settle.2.1 154 = .ok (.iastore, 1) := by decide +kernel
theorem d_X12_settle_155 : decode J_X12_settle.2.1 155 = .ok (.iload 5, 2) := by decide +kernel
theorem d_X12_settle_157 : decode J_X12_settle.2.1 157 = .ok (.istore_n 2, 1) := by decide +kernel
theorem d_X12_settle_158 : decode J_X12_settle.2.1 158 = .ok (.iinc 3 1, 3) := by decide +kernel
theorem d_X12_settle_161 : decode J_X12_settle.2.1 161 = .ok (.goto (-121), 3) := by decide +kernel
theorem d_X12_settle_164 : decode J_X12_settle.2.1 164 = .ok (.return_, 1) := by decide +kernel
def f_X12_settle_158 (N : Nat) (K : oK) (r40 : (Int32 → Int32 → Int32 → oM → Option (Unit × oM))) (p1 : Int32) (p2 : Int32) (p3 : Int32) (M : oM) : Option (Unit × oM) :=
  (r40 p1 p2 (p3 + 1) M)
set_option maxRecDepth 20000 in
theorem v_X12_settle_158 {X : oX} {d N : Nat} {K : oK} {r40 : (Int32 → Int32 → Int32 → oM → Option (Unit × oM))} {p1 : Int32} {p2 : Int32} {p3 : Int32} {M : oM} {v : Unit} {M' : oM}  (hd : 1 ≤ d) (hK : oSR K)  (hr40 : ∀ (p1 : Int32) (p2 : Int32) (p3 : Int32) (M : oM) (v : Unit) (M' : oM) , r40 p1 p2 p3 M = some (v, M') → oEv X d J_X12_settle 40 [some (.ref 59), some (.int p1), some (.int p2), some (.int p3), none, none] [] K M none K M') (h : f_X12_settle_158 N K r40 p1 p2 p3 M = some (v, M')) : oEv X d J_X12_settle 158 [some (.ref 59), some (.int p1), some (.int p2), some (.int p3), none, none] [] K M none K M' := by
  unfold f_X12_settle_158 at h
  refine oe_iinc (pc := 158) (v := (p3 + 1)) (L2 := [_, _, _, _, _, _]) d_X12_settle_158 rfl rfl rfl (Nat.le_of_ble_eq_true rfl) rfl ?_
  refine oe_goto (pc := 161) (tgt := 40) d_X12_settle_161 (by decide) ?_
  exact hr40 _ _ _ _ _ _ h
def f_X12_settle_133 (N : Nat) (K : oK) (r40 : (Int32 → Int32 → Int32 → oM → Option (Unit × oM))) (p1 : Int32) (p2 : Int32) (p3 : Int32) (s0 : Int32) (M : oM) : Option (Unit × oM) :=
  oIx (s0) 21 (oIx (p2) 21 (oIx (p3) 25 ((f_X12_settle_158 N K r40 p1 s0 p3 (oUp M 85 (p3 : Int32).toNatClampNeg ((M.1 60 (s0 : Int32).toNatClampNeg) - (M.1 60 (p2 : Int32).toNatClampNeg)))))))
set_option maxRecDepth 20000 in
theorem v_X12_settle_133 {X : oX} {d N : Nat} {K : oK} {r40 : (Int32 → Int32 → Int32 → oM → Option (Unit × oM))} {p1 : Int32} {p2 : Int32} {p3 : Int32} {s0 : Int32} {M : oM} {v : Unit} {M' : oM}  (hd : 1 ≤ d) (hK : oSR K)  (hr40 : ∀ (p1 : Int32) (p2 : Int32) (p3 : Int32) (M : oM) (v : Unit) (M' : oM) , r40 p1 p2 p3 M = some (v, M') → oEv X d J_X12_settle 40 [some (.ref 59), some (.int p1), some (.int p2), some (.int p3), none, none] [] K M none K M') (h : f_X12_settle_133 N K r40 p1 p2 p3 s0 M = some (v, M')) : oEv X d J_X12_settle 133 [some (.ref 59), some (.int p1), some (.int p2), some (.int p3), none, none] [(.int s0)] K M none K M' := by
  unfold f_X12_settle_133 at h
  refine oe_istore (pc := 133) (L2 := [_, _, _, _, _, _]) d_X12_settle_133 rfl (Nat.le_of_ble_eq_true rfl) rfl ?_
  refine oe_aload_n (pc := 135) d_X12_settle_135 rfl ?_
  refine oe_getr (pc := 136) d_X12_settle_136 fl_X12_86 ock12 (k := 36) (b := 85) (Nat.le_of_ble_eq_true rfl) (by decide) (oLt hK (a := 59) (Nat.le_of_ble_eq_true rfl)) (oSho hK (a := 59) (Nat.le_of_ble_eq_true rfl) rfl) (oRfK hK rfl) ?_
  refine oe_iload_n (pc := 139) d_X12_settle_139 rfl ?_
  refine oe_aload_n (pc := 140) d_X12_settle_140 rfl ?_
  refine oe_getr (pc := 141) d_X12_settle_141 fl_X12_7 ock12 (k := 0) (b := 60) (Nat.le_of_ble_eq_true rfl) (by decide) (oLt hK (a := 59) (Nat.le_of_ble_eq_true rfl)) (oSho hK (a := 59) (Nat.le_of_ble_eq_true rfl) rfl) (oRfK hK rfl) ?_
  refine oe_iload (pc := 144) d_X12_settle_144 rfl ?_
  obtain ⟨i12, h⟩ := oIx_some h
  refine oe_iald (pc := 146) d_X12_settle_146 (oLt hK (a := 60) (Nat.le_of_ble_eq_true rfl)) (oSha hK (a := 60) (Nat.le_of_ble_eq_true rfl) rfl) i12 ?_
  refine oe_aload_n (pc := 147) d_X12_settle_147 rfl ?_
  refine oe_getr (pc := 148) d_X12_settle_148 fl_X12_7 ock12 (k := 0) (b := 60) (Nat.le_of_ble_eq_true rfl) (by decide) (oLt hK (a := 59) (Nat.le_of_ble_eq_true rfl)) (oSho hK (a := 59) (Nat.le_of_ble_eq_true rfl) rfl) (oRfK hK rfl) ?_
  refine oe_iload_n (pc := 151) d_X12_settle_151 rfl ?_
  obtain ⟨i13, h⟩ := oIx_some h
  refine oe_iald (pc := 152) d_X12_settle_152 (oLt hK (a := 60) (Nat.le_of_ble_eq_true rfl)) (oSha hK (a := 60) (Nat.le_of_ble_eq_true rfl) rfl) i13 ?_
  refine oe_isub (pc := 153) d_X12_settle_153 ?_
  obtain ⟨i14, h⟩ := oIx_some h
  refine oe_iast (pc := 154) d_X12_settle_154 (oLt hK (a := 85) (Nat.le_of_ble_eq_true rfl)) (oSha hK (a := 85) (Nat.le_of_ble_eq_true rfl) rfl) i14 ?_
  refine oe_iload (pc := 155) d_X12_settle_155 rfl ?_
  refine oe_istore_n (pc := 157) (L2 := [_, _, _, _, _, _]) d_X12_settle_157 rfl rfl (Nat.le_of_ble_eq_true rfl) rfl ?_
  refine oEv.fg [true, true, true, true, false, false] ?_
  exact v_X12_settle_158 hd hK  hr40 h
def f_X12_settle_79 (N : Nat) (K : oK) (r40 : (Int32 → Int32 → Int32 → oM → Option (Unit × oM))) (p1 : Int32) (p2 : Int32) (p3 : Int32) (s0 : Int32) (s1 : Int32) (M : oM) : Option (Unit × oM) :=
  oIx (s1) 25 (oIx (p3) 25 (oIx (p3) 25 ((if ((oUp (oUp M 84 (s1 : Int32).toNatClampNeg s0) 85 (p3 : Int32).toNatClampNeg (0 : Int32)).1 81 (p3 : Int32).toNatClampNeg) = 1 then oIx (p3) 25 (oIx (((oUp (oUp M 84 (s1 : Int32).toNatClampNeg s0) 85 (p3 : Int32).toNatClampNeg (0 : Int32)).1 82 (p3 : Int32).toNatClampNeg)) 20 ((if ((oUp (oUp M 84 (s1 : Int32).toNatClampNeg s0) 85 (p3 : Int32).toNatClampNeg (0 : Int32)).1 64 (((oUp (oUp M 84 (s1 : Int32).toNatClampNeg s0) 85 (p3 : Int32).toNatClampNeg (0 : Int32)).1 82 (p3 : Int32).toNatClampNeg) : Int32).toNatClampNeg) = p2 then oIx (((oUp (oUp M 84 (s1 : Int32).toNatClampNeg s0) 85 (p3 : Int32).toNatClampNeg (0 : Int32)).1 82 (p3 : Int32).toNatClampNeg)) 20 ((f_X12_settle_133 N K r40 p1 p2 p3 ((oUp (oUp M 84 (s1 : Int32).toNatClampNeg s0) 85 (p3 : Int32).toNatClampNeg (0 : Int32)).1 65 (((oUp (oUp M 84 (s1 : Int32).toNatClampNeg s0) 85 (p3 : Int32).toNatClampNeg (0 : Int32)).1 82 (p3 : Int32).toNatClampNeg) : Int32).toNatClampNeg) (oUp (oUp M 84 (s1 : Int32).toNatClampNeg s0) 85 (p3 : Int32).toNatClampNeg (0 : Int32)))) else oIx (((oUp (oUp M 84 (s1 : Int32).toNatClampNeg s0) 85 (p3 : Int32).toNatClampNeg (0 : Int32)).1 82 (p3 : Int32).toNatClampNeg)) 20 ((f_X12_settle_133 N K r40 p1 p2 p3 ((oUp (oUp M 84 (s1 : Int32).toNatClampNeg s0) 85 (p3 : Int32).toNatClampNeg (0 : Int32)).1 64 (((oUp (oUp M 84 (s1 : Int32).toNatClampNeg s0) 85 (p3 : Int32).toNatClampNeg (0 : Int32)).1 82 (p3 : Int32).toNatClampNeg) : Int32).toNatClampNeg) (oUp (oUp M 84 (s1 : Int32).toNatClampNeg s0) 85 (p3 : Int32).toNatClampNeg (0 : Int32))))))) else (f_X12_settle_158 N K r40 p1 p2 p3 (oUp (oUp M 84 (s1 : Int32).toNatClampNeg s0) 85 (p3 : Int32).toNatClampNeg (0 : Int32)))))))
set_option maxRecDepth 20000 in
theorem v_X12_settle_79 {X : oX} {d N : Nat} {K : oK} {r40 : (Int32 → Int32 → Int32 → oM → Option (Unit × oM))} {p1 : Int32} {p2 : Int32} {p3 : Int32} {s0 : Int32} {s1 : Int32} {M : oM} {v : Unit} {M' : oM}  (hd : 1 ≤ d) (hK : oSR K)  (hr40 : ∀ (p1 : Int32) (p2 : Int32) (p3 : Int32) (M : oM) (v : Unit) (M' : oM) , r40 p1 p2 p3 M = some (v, M') → oEv X d J_X12_settle 40 [some (.ref 59), some (.int p1), some (.int p2), some (.int p3), none, none] [] K M none K M') (h : f_X12_settle_79 N K r40 p1 p2 p3 s0 s1 M = some (v, M')) : oEv X d J_X12_settle 79 [some (.ref 59), some (.int p1), some (.int p2), some (.int p3), none, none] [(.int s0), (.int s1), (.ref 84)] K M none K M' := by
  unfold f_X12_settle_79 at h
  obtain ⟨i4, h⟩ := oIx_some h
  refine oe_iast (pc := 79) d_X12_settle_79 (oLt hK (a := 84) (Nat.le_of_ble_eq_true rfl)) (oSha hK (a := 84) (Nat.le_of_ble_eq_true rfl) rfl) i4 ?_
  refine oe_aload_n (pc := 80) d_X12_settle_80 rfl ?_
  refine oe_getr (pc := 81) d_X12_settle_81 fl_X12_86 ock12 (k := 36) (b := 85) (Nat.le_of_ble_eq_true rfl) (by decide) (oLt hK (a := 59) (Nat.le_of_ble_eq_true rfl)) (oSho hK (a := 59) (Nat.le_of_ble_eq_true rfl) rfl) (oRfK hK rfl) ?_
  refine oe_iload_n (pc := 84) d_X12_settle_84 rfl ?_
  refine oe_iconst (pc := 85) (v := 0) d_X12_settle_85 rfl ?_
  obtain ⟨i5, h⟩ := oIx_some h
  refine oe_iast (pc := 86) d_X12_settle_86 (oLt hK (a := 85) (Nat.le_of_ble_eq_true rfl)) (oSha hK (a := 85) (Nat.le_of_ble_eq_true rfl) rfl) i5 ?_
  refine oe_aload_n (pc := 87) d_X12_settle_87 rfl ?_
  refine oe_getr (pc := 88) d_X12_settle_88 fl_X12_74 ock12 (k := 32) (b := 81) (Nat.le_of_ble_eq_true rfl) (by decide) (oLt hK (a := 59) (Nat.le_of_ble_eq_true rfl)) (oSho hK (a := 59) (Nat.le_of_ble_eq_true rfl) rfl) (oRfK hK rfl) ?_
  refine oe_iload_n (pc := 91) d_X12_settle_91 rfl ?_
  obtain ⟨i6, h⟩ := oIx_some h
  refine oe_iald (pc := 92) d_X12_settle_92 (oLt hK (a := 81) (Nat.le_of_ble_eq_true rfl)) (oSha hK (a := 81) (Nat.le_of_ble_eq_true rfl) rfl) i6 ?_
  refine oe_iconst (pc := 93) (v := 1) d_X12_settle_93 rfl ?_
  refine oe_icmp_ne (pc := 94) (tgt := 158) d_X12_settle_94 (by decide) (fun c7 => ?_) (fun c7 => ?_)
  · replace h := (if_neg c7).symm.trans h
    exact v_X12_settle_158 hd hK  hr40 h
  · replace h := (if_pos c7).symm.trans h
    refine oe_aload_n (pc := 97) d_X12_settle_97 rfl ?_
    refine oe_getr (pc := 98) d_X12_settle_98 fl_X12_77 ock12 (k := 33) (b := 82) (Nat.le_of_ble_eq_true rfl) (by decide) (oLt hK (a := 59) (Nat.le_of_ble_eq_true rfl)) (oSho hK (a := 59) (Nat.le_of_ble_eq_true rfl) rfl) (oRfK hK rfl) ?_
    refine oe_iload_n (pc := 101) d_X12_settle_101 rfl ?_
    obtain ⟨i8, h⟩ := oIx_some h
    refine oe_iald (pc := 102) d_X12_settle_102 (oLt hK (a := 82) (Nat.le_of_ble_eq_true rfl)) (oSha hK (a := 82) (Nat.le_of_ble_eq_true rfl) rfl) i8 ?_
    refine oe_istore (pc := 103) (L2 := [_, _, _, _, _, _]) d_X12_settle_103 rfl (Nat.le_of_ble_eq_true rfl) rfl ?_
    refine oe_aload_n (pc := 105) d_X12_settle_105 rfl ?_
    refine oe_getr (pc := 106) d_X12_settle_106 fl_X12_22 ock12 (k := 8) (b := 64) (Nat.le_of_ble_eq_true rfl) (by decide) (oLt hK (a := 59) (Nat.le_of_ble_eq_true rfl)) (oSho hK (a := 59) (Nat.le_of_ble_eq_true rfl) rfl) (oRfK hK rfl) ?_
    refine oe_iload (pc := 109) d_X12_settle_109 rfl ?_
    obtain ⟨i9, h⟩ := oIx_some h
    refine oe_iald (pc := 111) d_X12_settle_111 (oLt hK (a := 64) (Nat.le_of_ble_eq_true rfl)) (oSha hK (a := 64) (Nat.le_of_ble_eq_true rfl) rfl) i9 ?_
    refine oe_iload_n (pc := 112) d_X12_settle_112 rfl ?_
    refine oe_icmp_ne (pc := 113) (tgt := 126) d_X12_settle_113 (by decide) (fun c10 => ?_) (fun c10 => ?_)
    · replace h := (if_neg c10).symm.trans h
      refine oe_aload_n (pc := 126) d_X12_settle_126 rfl ?_
      refine oe_getr (pc := 127) d_X12_settle_127 fl_X12_22 ock12 (k := 8) (b := 64) (Nat.le_of_ble_eq_true rfl) (by decide) (oLt hK (a := 59) (Nat.le_of_ble_eq_true rfl)) (oSho hK (a := 59) (Nat.le_of_ble_eq_true rfl) rfl) (oRfK hK rfl) ?_
      refine oe_iload (pc := 130) d_X12_settle_130 rfl ?_
      obtain ⟨i11, h⟩ := oIx_some h
      refine oe_iald (pc := 132) d_X12_settle_132 (oLt hK (a := 64) (Nat.le_of_ble_eq_true rfl)) (oSha hK (a := 64) (Nat.le_of_ble_eq_true rfl) rfl) i11 ?_
      refine oEv.fg [true, true, true, true, false, false] ?_
      exact v_X12_settle_133 hd hK  hr40 h
    · replace h := (if_pos c10).symm.trans h
      refine oe_aload_n (pc := 116) d_X12_settle_116 rfl ?_
      refine oe_getr (pc := 117) d_X12_settle_117 fl_X12_25 ock12 (k := 9) (b := 65) (Nat.le_of_ble_eq_true rfl) (by decide) (oLt hK (a := 59) (Nat.le_of_ble_eq_true rfl)) (oSho hK (a := 59) (Nat.le_of_ble_eq_true rfl) rfl) (oRfK hK rfl) ?_
      refine oe_iload (pc := 120) d_X12_settle_120 rfl ?_
      obtain ⟨i15, h⟩ := oIx_some h
      refine oe_iald (pc := 122) d_X12_settle_122 (oLt hK (a := 65) (Nat.le_of_ble_eq_true rfl)) (oSha hK (a := 65) (Nat.le_of_ble_eq_true rfl) rfl) i15 ?_
      refine oe_goto (pc := 123) (tgt := 133) d_X12_settle_123 (by decide) ?_
      refine oEv.fg [true, true, true, true, false, false] ?_
      exact v_X12_settle_133 hd hK  hr40 h
def f_X12_settle_74 (N : Nat) (K : oK) (r40 : (Int32 → Int32 → Int32 → oM → Option (Unit × oM))) (p1 : Int32) (p2 : Int32) (p3 : Int32) (s0 : Int32) (M : oM) : Option (Unit × oM) :=
  (f_X12_settle_79 N K r40 p1 p2 p3 2 s0 M)
set_option maxRecDepth 20000 in
theorem v_X12_settle_74 {X : oX} {d N : Nat} {K : oK} {r40 : (Int32 → Int32 → Int32 → oM → Option (Unit × oM))} {p1 : Int32} {p2 : Int32} {p3 : Int32} {s0 : Int32} {M : oM} {v : Unit} {M' : oM}  (hd : 1 ≤ d) (hK : oSR K)  (hr40 : ∀ (p1 : Int32) (p2 : Int32) (p3 : Int32) (M : oM) (v : Unit) (M' : oM) , r40 p1 p2 p3 M = some (v, M') → oEv X d J_X12_settle 40 [some (.ref 59), some (.int p1), some (.int p2), some (.int p3), none, none] [] K M none K M') (h : f_X12_settle_74 N K r40 p1 p2 p3 s0 M = some (v, M')) : oEv X d J_X12_settle 74 [some (.ref 59), some (.int p1), some (.int p2), some (.int p3), none, none] [(.int s0), (.ref 84)] K M none K M' := by
  unfold f_X12_settle_74 at h
  refine oe_iconst (pc := 74) (v := 2) d_X12_settle_74 rfl ?_
  refine oe_goto (pc := 75) (tgt := 79) d_X12_settle_75 (by decide) ?_
  exact v_X12_settle_79 hd hK  hr40 h
def f_X12_settle_78 (N : Nat) (K : oK) (r40 : (Int32 → Int32 → Int32 → oM → Option (Unit × oM))) (p1 : Int32) (p2 : Int32) (p3 : Int32) (s0 : Int32) (M : oM) : Option (Unit × oM) :=
  (f_X12_settle_79 N K r40 p1 p2 p3 1 s0 M)
set_option maxRecDepth 20000 in
theorem v_X12_settle_78 {X : oX} {d N : Nat} {K : oK} {r40 : (Int32 → Int32 → Int32 → oM → Option (Unit × oM))} {p1 : Int32} {p2 : Int32} {p3 : Int32} {s0 : Int32} {M : oM} {v : Unit} {M' : oM}  (hd : 1 ≤ d) (hK : oSR K)  (hr40 : ∀ (p1 : Int32) (p2 : Int32) (p3 : Int32) (M : oM) (v : Unit) (M' : oM) , r40 p1 p2 p3 M = some (v, M') → oEv X d J_X12_settle 40 [some (.ref 59), some (.int p1), some (.int p2), some (.int p3), none, none] [] K M none K M') (h : f_X12_settle_78 N K r40 p1 p2 p3 s0 M = some (v, M')) : oEv X d J_X12_settle 78 [some (.ref 59), some (.int p1), some (.int p2), some (.int p3), none, none] [(.int s0), (.ref 84)] K M none K M' := by
  unfold f_X12_settle_78 at h
  refine oe_iconst (pc := 78) (v := 1) d_X12_settle_78 rfl ?_
  exact v_X12_settle_79 hd hK  hr40 h
def f_X12_settle_40 (N : Nat) (K : oK)  : Nat → Int32 → Int32 → Int32 → oM → Option (Unit × oM)
  | 0, _, _, _, _ => none
  | n + 1, p1, p2, p3, M => (fun r40 => (if (M.1 59 31) ≤ p3 then some ((), M) else (if (M.1 59 29) = 2 then (f_X12_settle_74 N K r40 p1 p2 p3 p3 M) else (if (M.1 59 29) = 4 then (if p3 ≤ p1 then (f_X12_settle_78 N K r40 p1 p2 p3 p3 M) else (f_X12_settle_74 N K r40 p1 p2 p3 p3 M)) else (f_X12_settle_78 N K r40 p1 p2 p3 p3 M))))) (f_X12_settle_40 N K  n)
set_option maxRecDepth 20000 in
theorem v_X12_settle_40_L {X : oX} {d N : Nat} {K : oK}  (hd : 1 ≤ d) (hK : oSR K)  : ∀ (n : Nat) (p1 : Int32) (p2 : Int32) (p3 : Int32) (M : oM) (v : Unit) (M' : oM)  , f_X12_settle_40 N K  n p1 p2 p3 M = some (v, M') → oEv X d J_X12_settle 40 [some (.ref 59), some (.int p1), some (.int p2), some (.int p3), none, none] [] K M none K M' := by
  intro n
  induction n with
  | zero =>
    intro p1 p2 p3 M v M'   h
    cases h
  | succ n hr40 =>
    intro p1 p2 p3 M v M'   h
    refine oe_iload_n (pc := 40) d_X12_settle_40 rfl ?_
    refine oe_aload_n (pc := 41) d_X12_settle_41 rfl ?_
    refine oe_getf (pc := 42) d_X12_settle_42 fl_X12_246 ock12 (k := 31) (Nat.le_of_ble_eq_true rfl) rfl (oLt hK (a := 59) (Nat.le_of_ble_eq_true rfl)) (oSho hK (a := 59) (Nat.le_of_ble_eq_true rfl) rfl) ?_
    refine oe_icmp_ge (pc := 45) (tgt := 164) d_X12_settle_45 (by decide) (fun c2 => ?_) (fun c2 => ?_)
    · replace h := (if_pos c2).symm.trans h
      obtain ⟨rfl, rfl⟩ := oRes h
      exact oe_vret (pc := 164) d_X12_settle_164 rfl
    · replace h := (if_neg c2).symm.trans h
      refine oe_aload_n (pc := 48) d_X12_settle_48 rfl ?_
      refine oe_getr (pc := 49) d_X12_settle_49 fl_X12_83 ock12 (k := 35) (b := 84) (Nat.le_of_ble_eq_true rfl) (by decide) (oLt hK (a := 59) (Nat.le_of_ble_eq_true rfl)) (oSho hK (a := 59) (Nat.le_of_ble_eq_true rfl) rfl) (oRfK hK rfl) ?_
      refine oe_iload_n (pc := 52) d_X12_settle_52 rfl ?_
      refine oe_aload_n (pc := 53) d_X12_settle_53 rfl ?_
      refine oe_getf (pc := 54) d_X12_settle_54 fl_X12_252 ock12 (k := 29) (Nat.le_of_ble_eq_true rfl) rfl (oLt hK (a := 59) (Nat.le_of_ble_eq_true rfl)) (oSho hK (a := 59) (Nat.le_of_ble_eq_true rfl) rfl) ?_
      refine oe_iconst (pc := 57) (v := 2) d_X12_settle_57 rfl ?_
      refine oe_icmp_eq (pc := 58) (tgt := 74) d_X12_settle_58 (by decide) (fun c3 => ?_) (fun c3 => ?_)
      · replace h := (if_pos c3).symm.trans h
        exact v_X12_settle_74 hd hK  hr40 h
      · replace h := (if_neg c3).symm.trans h
        refine oe_aload_n (pc := 61) d_X12_settle_61 rfl ?_
        refine oe_getf (pc := 62) d_X12_settle_62 fl_X12_252 ock12 (k := 29) (Nat.le_of_ble_eq_true rfl) rfl (oLt hK (a := 59) (Nat.le_of_ble_eq_true rfl)) (oSho hK (a := 59) (Nat.le_of_ble_eq_true rfl) rfl) ?_
        refine oe_iconst (pc := 65) (v := 4) d_X12_settle_65 rfl ?_
        refine oe_icmp_ne (pc := 66) (tgt := 78) d_X12_settle_66 (by decide) (fun c16 => ?_) (fun c16 => ?_)
        · replace h := (if_neg c16).symm.trans h
          exact v_X12_settle_78 hd hK  hr40 h
        · replace h := (if_pos c16).symm.trans h
          refine oe_iload_n (pc := 69) d_X12_settle_69 rfl ?_
          refine oe_iload_n (pc := 70) d_X12_settle_70 rfl ?_
          refine oe_icmp_le (pc := 71) (tgt := 78) d_X12_settle_71 (by decide) (fun c17 => ?_) (fun c17 => ?_)
          · replace h := (if_pos c17).symm.trans h
            exact v_X12_settle_78 hd hK  hr40 h
          · replace h := (if_neg c17).symm.trans h
            exact v_X12_settle_74 hd hK  hr40 h
theorem v_X12_settle_40 {X : oX} {d N : Nat} {K : oK}  {p1 : Int32} {p2 : Int32} {p3 : Int32} {M : oM} {v : Unit} {M' : oM}  (hd : 1 ≤ d) (hK : oSR K)   (h : f_X12_settle_40 N K  N p1 p2 p3 M = some (v, M')) : oEv X d J_X12_settle 40 [some (.ref 59), some (.int p1), some (.int p2), some (.int p3), none, none] [] K M none K M' := v_X12_settle_40_L hd hK  N p1 p2 p3 M v M'   h
def f_X12_settle_26 (N : Nat) (K : oK) (r4 : (Int32 → Int32 → oM → Option (Unit × oM))) (p2 : Int32) (s0 : Int32) (M : oM) : Option (Unit × oM) :=
  (r4 s0 (p2 + 1) M)
set_option maxRecDepth 20000 in
theorem v_X12_settle_26 {X : oX} {d N : Nat} {K : oK} {r4 : (Int32 → Int32 → oM → Option (Unit × oM))} {p2 : Int32} {s0 : Int32} {M : oM} {v : Unit} {M' : oM}  (hd : 1 ≤ d) (hK : oSR K)  (hr4 : ∀ (p1 : Int32) (p2 : Int32) (M : oM) (v : Unit) (M' : oM) , r4 p1 p2 M = some (v, M') → oEv X d J_X12_settle 4 [some (.ref 59), some (.int p1), some (.int p2), none, none, none] [] K M none K M') (h : f_X12_settle_26 N K r4 p2 s0 M = some (v, M')) : oEv X d J_X12_settle 26 [some (.ref 59), none, some (.int p2), none, none, none] [(.int s0)] K M none K M' := by
  unfold f_X12_settle_26 at h
  refine oe_istore_n (pc := 26) (L2 := [_, _, _, _, _, _]) d_X12_settle_26 rfl rfl (Nat.le_of_ble_eq_true rfl) rfl ?_
  refine oe_iinc (pc := 27) (v := (p2 + 1)) (L2 := [_, _, _, _, _, _]) d_X12_settle_27 rfl rfl rfl (Nat.le_of_ble_eq_true rfl) rfl ?_
  refine oe_goto (pc := 30) (tgt := 4) d_X12_settle_30 (by decide) ?_
  exact hr4 _ _ _ _ _ h
def f_X12_settle_4 (N : Nat) (K : oK)  : Nat → Int32 → Int32 → oM → Option (Unit × oM)
  | 0, _, _, _ => none
  | n + 1, p1, p2, M => (fun r4 => (if (M.1 59 31) ≤ p2 then (f_X12_settle_40 N K  N p1 (M.1 59 30) 0 M) else oIx (p2) 25 ((if (M.1 81 (p2 : Int32).toNatClampNeg) = 0 then (f_X12_settle_26 N K r4 p2 p2 M) else (f_X12_settle_26 N K r4 p2 p1 M))))) (f_X12_settle_4 N K  n)
set_option maxRecDepth 20000 in
theorem v_X12_settle_4_L {X : oX} {d N : Nat} {K : oK}  (hd : 1 ≤ d) (hK : oSR K)  : ∀ (n : Nat) (p1 : Int32) (p2 : Int32) (M : oM) (v : Unit) (M' : oM)  , f_X12_settle_4 N K  n p1 p2 M = some (v, M') → oEv X d J_X12_settle 4 [some (.ref 59), some (.int p1), some (.int p2), none, none, none] [] K M none K M' := by
  intro n
  induction n with
  | zero =>
    intro p1 p2 M v M'   h
    cases h
  | succ n hr4 =>
    intro p1 p2 M v M'   h
    refine oe_iload_n (pc := 4) d_X12_settle_4 rfl ?_
    refine oe_aload_n (pc := 5) d_X12_settle_5 rfl ?_
    refine oe_getf (pc := 6) d_X12_settle_6 fl_X12_246 ock12 (k := 31) (Nat.le_of_ble_eq_true rfl) rfl (oLt hK (a := 59) (Nat.le_of_ble_eq_true rfl)) (oSho hK (a := 59) (Nat.le_of_ble_eq_true rfl) rfl) ?_
    refine oe_icmp_ge (pc := 9) (tgt := 33) d_X12_settle_9 (by decide) (fun c1 => ?_) (fun c1 => ?_)
    · replace h := (if_pos c1).symm.trans h
      refine oe_aload_n (pc := 33) d_X12_settle_33 rfl ?_
      refine oe_getf (pc := 34) d_X12_settle_34 fl_X12_249 ock12 (k := 30) (Nat.le_of_ble_eq_true rfl) rfl (oLt hK (a := 59) (Nat.le_of_ble_eq_true rfl)) (oSho hK (a := 59) (Nat.le_of_ble_eq_true rfl) rfl) ?_
      refine oe_istore_n (pc := 37) (L2 := [_, _, _, _, _, _]) d_X12_settle_37 rfl rfl (Nat.le_of_ble_eq_true rfl) rfl ?_
      refine oe_iconst (pc := 38) (v := 0) d_X12_settle_38 rfl ?_
      refine oe_istore_n (pc := 39) (L2 := [_, _, _, _, _, _]) d_X12_settle_39 rfl rfl (Nat.le_of_ble_eq_true rfl) rfl ?_
      exact v_X12_settle_40 hd hK   h
    · replace h := (if_neg c1).symm.trans h
      refine oe_aload_n (pc := 12) d_X12_settle_12 rfl ?_
      refine oe_getr (pc := 13) d_X12_settle_13 fl_X12_74 ock12 (k := 32) (b := 81) (Nat.le_of_ble_eq_true rfl) (by decide) (oLt hK (a := 59) (Nat.le_of_ble_eq_true rfl)) (oSho hK (a := 59) (Nat.le_of_ble_eq_true rfl) rfl) (oRfK hK rfl) ?_
      refine oe_iload_n (pc := 16) d_X12_settle_16 rfl ?_
      obtain ⟨i18, h⟩ := oIx_some h
      refine oe_iald (pc := 17) d_X12_settle_17 (oLt hK (a := 81) (Nat.le_of_ble_eq_true rfl)) (oSha hK (a := 81) (Nat.le_of_ble_eq_true rfl) rfl) i18 ?_
      refine oe_if_ne (pc := 18) (tgt := 25) d_X12_settle_18 (by decide) (fun c19 => ?_) (fun c19 => ?_)
      · replace h := (if_neg c19).symm.trans h
        refine oe_iload_n (pc := 25) d_X12_settle_25 rfl ?_
        refine oEv.fg [true, false, true, false, false, false] ?_
        exact v_X12_settle_26 hd hK  hr4 h
      · replace h := (if_pos c19).symm.trans h
        refine oe_iload_n (pc := 21) d_X12_settle_21 rfl ?_
        refine oe_goto (pc := 22) (tgt := 26) d_X12_settle_22 (by decide) ?_
        refine oEv.fg [true, false, true, false, false, false] ?_
        exact v_X12_settle_26 hd hK  hr4 h
theorem v_X12_settle_4 {X : oX} {d N : Nat} {K : oK}  {p1 : Int32} {p2 : Int32} {M : oM} {v : Unit} {M' : oM}  (hd : 1 ≤ d) (hK : oSR K)   (h : f_X12_settle_4 N K  N p1 p2 M = some (v, M')) : oEv X d J_X12_settle 4 [some (.ref 59), some (.int p1), some (.int p2), none, none, none] [] K M none K M' := v_X12_settle_4_L hd hK  N p1 p2 M v M'   h
def f_X12_settle (N : Nat) (K : oK)  (M : oM) : Option (Unit × oM) :=
  (f_X12_settle_4 N K  N (-1) 0 M)
set_option maxRecDepth 20000 in
theorem v_X12_settle {X : oX} {N : Nat} {K : oK}  {M : oM} {v : Unit} {M' : oM} (hK : oSR K)  (h : f_X12_settle N K  M = some (v, M')) : oMet X 1 J_X12_settle [(.ref 59)] K M none K M' := by
  unfold f_X12_settle at h
  refine oMet_of (L := [some (.ref 59), none, none, none, none, none]) jJ_X12_settle.1 rfl (Nat.le_of_ble_eq_true rfl) rfl (Nat.le_refl _) (Nat.le_refl _) ?_
  have hd : 1 ≤ 1 := Nat.le_refl _
  refine oe_iconst (pc := 0) (v := (-1)) d_X12_settle_0 rfl ?_
  refine oe_istore_n (pc := 1) (L2 := [_, _, _, _, _, _]) d_X12_settle_1 rfl rfl (Nat.le_of_ble_eq_true rfl) rfl ?_
  refine oe_iconst (pc := 2) (v := 0) d_X12_settle_2 rfl ?_
  refine oe_istore_n (pc := 3) (L2 := [_, _, _, _, _, _]) d_X12_settle_3 rfl rfl (Nat.le_of_ble_eq_true rfl) rfl ?_
  exact v_X12_settle_4 hd hK   h
theorem d_X12_think_0 : decode J_X12_think.2.1 0 = .ok (.aload_n 0, 1) := by decide +kernel
theorem d_X12_think_1 : decode J_X12_think.2.1 1 = .ok (.aload_n 0, 1) := by decide +kernel
theorem d_X12_think_2 : decode J_X12_think.2.1 2 = .ok (.getfield 49, 3) := by decide +kernel
theorem d_X12_think_5 : decode J_X12_think.2.1 5 = .ok (.iload_n 1, 1) := by decide +kernel
theorem d_X12_think_6 : decode J_X12_think.2.1 6 = .ok (.iaload, 1) := by decide +kernel
theorem d_X12_think_7 : decode J_X12_think.2.1 7 = .ok (.putfield 252, 3) := by decide +kernel
theorem d_X12_think_10 : decode J_X12_think.2.1 10 = .ok (.aload_n 0, 1) := by decide +kernel
theorem d_X12_think_11 : decode J_X12_think.2.1 11 = .ok (.aload_n 0, 1) := by decide +kernel
theorem d_X12_think_12 : decode J_X12_think.2.1 12 = .ok (.getfield 52, 3) := by decide +kernel
theorem d_X12_think_15 : decode J_X12_think.2.1 15 = .ok (.iload_n 1, 1) := by decide +kernel
theorem d_X12_think_16 : decode J_X12_think.2.1 16 = .ok (.iaload, 1) := by decide +kernel
theorem d_X12_think_17 : decode J_X12_think.2.1 17 = .ok (.putfield 249, 3) := by decide +kernel
theorem d_X12_think_20 : decode J_X12_think.2.1 20 = .ok (.aload_n 0, 1) := by decide +kernel
theorem d_X12_think_21 : decode J_X12_think.2.1 21 = .ok (.iconst 0, 1) := by decide +kernel
theorem d_X12_think_22 : decode J_X12_think.2.1 22 = .ok (.putfield 246, 3) := by decide +kernel
theorem d_X12_think_25 : decode J_X12_think.2.1 25 = .ok (.bipush 24, 2) := by decide +kernel
theorem d_X12_think_27 : decode J_X12_think.2.1 27 = .ok (.iload_n 1, 1) := by decide +kernel
theorem d_X12_think_28 : decode J_X12_think.2.1 28 = .ok (.imul, 1) := by decide +kernel
theorem d_X12_think_29 : decode J_X12_think.2.1 29 = .ok (.istore_n 2, 1) := by decide +kernel
theorem d_X12_think_30 : decode J_X12_think.2.1 30 = .ok (.iload_n 2, 1) := by decide +kernel
theorem d_X12_think_31 : decode J_X12_think.2.1 31 = .ok (.bipush 24, 2) := by decide +kernel
theorem d_X12_think_33 : decode J_X12_think.2.1 33 = .ok (.iload_n 1, 1) := by decide +kernel
theorem d_X12_think_34 : decode J_X12_think.2.1 34 = .ok (.imul, 1) := by decide +kernel
theorem d_X12_think_35 : decode J_X12_think.2.1 35 = .ok (.aload_n 0, 1) := by decide +kernel
theorem d_X12_think_36 : decode J_X12_think.2.1 36 = .ok (.getfield 58, 3) := by decide +kernel
theorem d_X12_think_39 : decode J_X12_think.2.1 39 = .ok (.iload_n 1, 1) := by decide +kernel
theorem d_X12_think_40 : decode J_X12_think.2.1 40 = .ok (.iaload, 1) := by decide +kernel
theorem d_X12_think_41 : decode J_X12_think.2.1 41 = .ok (.iadd, 1) := by decide +kernel
theorem d_X12_think_42 : decode J_X12_think.2.1 42 = .ok (.if_icmp .ge 31, 3) := by decide +kernel
theorem d_X12_think_45 : decode J_X12_think.2.1 45 = .ok (.aload_n 0, 1) := by decide +kernel
theorem d_X12_think_46 : decode J_X12_think.2.1 46 = .ok (.aload_n 0, 1) := by decide +kernel
theorem d_X12_think_47 : decode J_X12_think.2.1 47 = .ok (.getfield 61, 3) := by decide +kernel
theorem d_X12_think_50 : decode J_X12_think.2.1 50 = .ok (.iload_n 2, 1) := by decide +kernel
theorem d_X12_think_51 : decode J_X12_think.2.1 51 = .ok (.iaload, 1) := by decide +kernel
theorem d_X12_think_52 : decode J_X12_think.2.1 52 = .ok (.aload_n 0, 1) := by decide +kernel
theorem d_X12_think_53 : decode J_X12_think.2.1 53 = .ok (.getfield 64, 3) := by decide +kernel
theorem d_X12_think_56 : decode J_X12_think.2.1 56 = .ok (.iload_n 2, 1) := by decide +kernel
theorem d_X12_think_57 : decode J_X12_think.2.1 57 = .ok (.iaload, 1) := by decide +kernel
theorem d_X12_think_58 : decode J_X12_think.2.1 58 = .ok (.aload_n 0, 1) := by decide +kernel
theorem d_X12_think_59 : decode J_X12_think.2.1 59 = .ok (.getfield 67, 3) := by decide +kernel
theorem d_X12_think_62 : decode J_X12_think.2.1 62 = .ok (.iload_n 2, 1) := by decide +kernel
theorem d_X12_think_63 : decode J_X12_think.2.1 63 = .ok (.iaload, 1) := by decide +kernel
theorem d_X12_think_64 : decode J_X12_think.2.1 64 = .ok (.invokevirtual 255, 3) := by decide +kernel
theorem d_X12_think_67 : decode J_X12_think.2.1 67 = .ok (.iinc 2 1, 3) := by decide +kernel
theorem d_X12_think_70 : decode J_X12_think.2.1 70 = .ok (.goto (-40), 3) := by decide +kernel
theorem d_X12_think_73 : decode J_X12_think.2.1 73 = .ok (.aload_n 0, 1) := by decide +kernel
theorem d_X12_think_74 : decode J_X12_think.2.1 74 = .ok (.invokevirtual 259, 3) := by decide +kernel
theorem d_X12_think_77 : decode J_X12_think.2.1 77 = .ok (.return_, 1) := by decide +kernel
def f_X12_think_30 (N : Nat) (K : oK)  : Nat → Int32 → Int32 → oM → Option (Unit × oM)
  | 0, _, _, _ => none
  | n + 1, p1, p2, M => (fun r30 => oIx (p1) 20 ((if (((24 : Int32) * p1) + (M.1 76 (p1 : Int32).toNatClampNeg)) ≤ p2 then oB2 (f_X12_settle N K  M) (fun v5 M6 => some ((), M6)) else oIx (p2) 480 (oIx (p2) 480 (oIx (p2) 480 (oB2 (f_X12_adds N K (M.1 77 (p2 : Int32).toNatClampNeg) (M.1 78 (p2 : Int32).toNatClampNeg) (M.1 79 (p2 : Int32).toNatClampNeg) M) (fun v11 M12 => (r30 p1 (p2 + 1) M12)))))))) (f_X12_think_30 N K  n)
set_option maxRecDepth 20000 in
theorem v_X12_think_30_L {X : oX} {d N : Nat} {K : oK}  (hd : 2 ≤ d) (hK : oSR K)  : ∀ (n : Nat) (p1 : Int32) (p2 : Int32) (M : oM) (v : Unit) (M' : oM)  , f_X12_think_30 N K  n p1 p2 M = some (v, M') → oEv X d J_X12_think 30 [some (.ref 59), some (.int p1), some (.int p2)] [] K M none K M' := by
  intro n
  induction n with
  | zero =>
    intro p1 p2 M v M'   h
    cases h
  | succ n hr30 =>
    intro p1 p2 M v M'   h
    refine oe_iload_n (pc := 30) d_X12_think_30 rfl ?_
    refine oe_bipush (pc := 31) (v := 24) d_X12_think_31 rfl ?_
    refine oe_iload_n (pc := 33) d_X12_think_33 rfl ?_
    refine oe_imul (pc := 34) d_X12_think_34 ?_
    refine oe_aload_n (pc := 35) d_X12_think_35 rfl ?_
    refine oe_getr (pc := 36) d_X12_think_36 fl_X12_58 ock12 (k := 24) (b := 76) (Nat.le_of_ble_eq_true rfl) (by decide) (oLt hK (a := 59) (Nat.le_of_ble_eq_true rfl)) (oSho hK (a := 59) (Nat.le_of_ble_eq_true rfl) rfl) (oRfK hK rfl) ?_
    refine oe_iload_n (pc := 39) d_X12_think_39 rfl ?_
    obtain ⟨i3, h⟩ := oIx_some h
    refine oe_iald (pc := 40) d_X12_think_40 (oLt hK (a := 76) (Nat.le_of_ble_eq_true rfl)) (oSha hK (a := 76) (Nat.le_of_ble_eq_true rfl) rfl) i3 ?_
    refine oe_iadd (pc := 41) d_X12_think_41 ?_
    refine oe_icmp_ge (pc := 42) (tgt := 73) d_X12_think_42 (by decide) (fun c4 => ?_) (fun c4 => ?_)
    · replace h := (if_pos c4).symm.trans h
      refine oe_aload_n (pc := 73) d_X12_think_73 rfl ?_
      obtain ⟨v5, M6, q7, h⟩ := oB2_some h
      refine oe_callV (pc := 74) (ci := 12) d_X12_think_74 (v_X12_settle hK  q7) (by omega) ml_X12_259 jJ_X12_settle rfl rfl (oLt hK (a := 59) (Nat.le_of_ble_eq_true rfl)) (oSho hK (a := 59) (Nat.le_of_ble_eq_true rfl) rfl) ock12 rfl (Nat.le_of_ble_eq_true rfl) ⟨Nat.le_refl _, Nat.le_refl _⟩ ⟨Nat.le_refl _, Nat.le_refl _⟩ ?_
      obtain ⟨rfl, rfl⟩ := oRes h
      exact oe_vret (pc := 77) d_X12_think_77 rfl
    · replace h := (if_neg c4).symm.trans h
      refine oe_aload_n (pc := 45) d_X12_think_45 rfl ?_
      refine oe_aload_n (pc := 46) d_X12_think_46 rfl ?_
      refine oe_getr (pc := 47) d_X12_think_47 fl_X12_61 ock12 (k := 25) (b := 77) (Nat.le_of_ble_eq_true rfl) (by decide) (oLt hK (a := 59) (Nat.le_of_ble_eq_true rfl)) (oSho hK (a := 59) (Nat.le_of_ble_eq_true rfl) rfl) (oRfK hK rfl) ?_
      refine oe_iload_n (pc := 50) d_X12_think_50 rfl ?_
      obtain ⟨i8, h⟩ := oIx_some h
      refine oe_iald (pc := 51) d_X12_think_51 (oLt hK (a := 77) (Nat.le_of_ble_eq_true rfl)) (oSha hK (a := 77) (Nat.le_of_ble_eq_true rfl) rfl) i8 ?_
      refine oe_aload_n (pc := 52) d_X12_think_52 rfl ?_
      refine oe_getr (pc := 53) d_X12_think_53 fl_X12_64 ock12 (k := 26) (b := 78) (Nat.le_of_ble_eq_true rfl) (by decide) (oLt hK (a := 59) (Nat.le_of_ble_eq_true rfl)) (oSho hK (a := 59) (Nat.le_of_ble_eq_true rfl) rfl) (oRfK hK rfl) ?_
      refine oe_iload_n (pc := 56) d_X12_think_56 rfl ?_
      obtain ⟨i9, h⟩ := oIx_some h
      refine oe_iald (pc := 57) d_X12_think_57 (oLt hK (a := 78) (Nat.le_of_ble_eq_true rfl)) (oSha hK (a := 78) (Nat.le_of_ble_eq_true rfl) rfl) i9 ?_
      refine oe_aload_n (pc := 58) d_X12_think_58 rfl ?_
      refine oe_getr (pc := 59) d_X12_think_59 fl_X12_67 ock12 (k := 27) (b := 79) (Nat.le_of_ble_eq_true rfl) (by decide) (oLt hK (a := 59) (Nat.le_of_ble_eq_true rfl)) (oSho hK (a := 59) (Nat.le_of_ble_eq_true rfl) rfl) (oRfK hK rfl) ?_
      refine oe_iload_n (pc := 62) d_X12_think_62 rfl ?_
      obtain ⟨i10, h⟩ := oIx_some h
      refine oe_iald (pc := 63) d_X12_think_63 (oLt hK (a := 79) (Nat.le_of_ble_eq_true rfl)) (oSha hK (a := 79) (Nat.le_of_ble_eq_true rfl) rfl) i10 ?_
      obtain ⟨v11, M12, q13, h⟩ := oB2_some h
      refine oe_callV (pc := 64) (ci := 12) d_X12_think_64 (v_X12_adds hK  q13) (by omega) ml_X12_255 jJ_X12_adds rfl rfl (oLt hK (a := 59) (Nat.le_of_ble_eq_true rfl)) (oSho hK (a := 59) (Nat.le_of_ble_eq_true rfl) rfl) ock12 rfl (Nat.le_of_ble_eq_true rfl) ⟨Nat.le_refl _, Nat.le_refl _⟩ ⟨Nat.le_refl _, Nat.le_refl _⟩ ?_
      refine oe_iinc (pc := 67) (v := (p2 + 1)) (L2 := [_, _, _]) d_X12_think_67 rfl rfl rfl (Nat.le_of_ble_eq_true rfl) rfl ?_
      refine oe_goto (pc := 70) (tgt := 30) d_X12_think_70 (by decide) ?_
      exact hr30 _ _ _ _ _ h
theorem v_X12_think_30 {X : oX} {d N : Nat} {K : oK}  {p1 : Int32} {p2 : Int32} {M : oM} {v : Unit} {M' : oM}  (hd : 2 ≤ d) (hK : oSR K)   (h : f_X12_think_30 N K  N p1 p2 M = some (v, M')) : oEv X d J_X12_think 30 [some (.ref 59), some (.int p1), some (.int p2)] [] K M none K M' := v_X12_think_30_L hd hK  N p1 p2 M v M'   h
def f_X12_think (N : Nat) (K : oK) (p1 : Int32) (M : oM) : Option (Unit × oM) :=
  oIx (p1) 20 (oIx (p1) 20 ((f_X12_think_30 N K  N p1 ((24 : Int32) * p1) (oUp (oUp (oUp M 59 29 (M.1 73 (p1 : Int32).toNatClampNeg)) 59 30 ((oUp M 59 29 (M.1 73 (p1 : Int32).toNatClampNeg)).1 74 (p1 : Int32).toNatClampNeg)) 59 31 (0 : Int32)))))
set_option maxRecDepth 20000 in
theorem v_X12_think {X : oX} {N : Nat} {K : oK} {p1 : Int32} {M : oM} {v : Unit} {M' : oM} (hK : oSR K)  (h : f_X12_think N K p1 M = some (v, M')) : oMet X 2 J_X12_think [(.ref 59), (.int p1)] K M none K M' := by
  unfold f_X12_think at h
  refine oMet_of (L := [some (.ref 59), some (.int p1), none]) jJ_X12_think.1 rfl (Nat.le_of_ble_eq_true rfl) rfl (Nat.le_refl _) (Nat.le_refl _) ?_
  have hd : 2 ≤ 2 := Nat.le_refl _
  refine oe_aload_n (pc := 0) d_X12_think_0 rfl ?_
  refine oe_aload_n (pc := 1) d_X12_think_1 rfl ?_
  refine oe_getr (pc := 2) d_X12_think_2 fl_X12_49 ock12 (k := 21) (b := 73) (Nat.le_of_ble_eq_true rfl) (by decide) (oLt hK (a := 59) (Nat.le_of_ble_eq_true rfl)) (oSho hK (a := 59) (Nat.le_of_ble_eq_true rfl) rfl) (oRfK hK rfl) ?_
  refine oe_iload_n (pc := 5) d_X12_think_5 rfl ?_
  obtain ⟨i1, h⟩ := oIx_some h
  refine oe_iald (pc := 6) d_X12_think_6 (oLt hK (a := 73) (Nat.le_of_ble_eq_true rfl)) (oSha hK (a := 73) (Nat.le_of_ble_eq_true rfl) rfl) i1 ?_
  refine oe_putf (pc := 7) d_X12_think_7 fl_X12_252 ock12 (k := 29) (Nat.le_of_ble_eq_true rfl) rfl rfl (oLt hK (a := 59) (Nat.le_of_ble_eq_true rfl)) (oSho hK (a := 59) (Nat.le_of_ble_eq_true rfl) rfl) ?_
  refine oe_aload_n (pc := 10) d_X12_think_10 rfl ?_
  refine oe_aload_n (pc := 11) d_X12_think_11 rfl ?_
  refine oe_getr (pc := 12) d_X12_think_12 fl_X12_52 ock12 (k := 22) (b := 74) (Nat.le_of_ble_eq_true rfl) (by decide) (oLt hK (a := 59) (Nat.le_of_ble_eq_true rfl)) (oSho hK (a := 59) (Nat.le_of_ble_eq_true rfl) rfl) (oRfK hK rfl) ?_
  refine oe_iload_n (pc := 15) d_X12_think_15 rfl ?_
  obtain ⟨i2, h⟩ := oIx_some h
  refine oe_iald (pc := 16) d_X12_think_16 (oLt hK (a := 74) (Nat.le_of_ble_eq_true rfl)) (oSha hK (a := 74) (Nat.le_of_ble_eq_true rfl) rfl) i2 ?_
  refine oe_putf (pc := 17) d_X12_think_17 fl_X12_249 ock12 (k := 30) (Nat.le_of_ble_eq_true rfl) rfl rfl (oLt hK (a := 59) (Nat.le_of_ble_eq_true rfl)) (oSho hK (a := 59) (Nat.le_of_ble_eq_true rfl) rfl) ?_
  refine oe_aload_n (pc := 20) d_X12_think_20 rfl ?_
  refine oe_iconst (pc := 21) (v := 0) d_X12_think_21 rfl ?_
  refine oe_putf (pc := 22) d_X12_think_22 fl_X12_246 ock12 (k := 31) (Nat.le_of_ble_eq_true rfl) rfl rfl (oLt hK (a := 59) (Nat.le_of_ble_eq_true rfl)) (oSho hK (a := 59) (Nat.le_of_ble_eq_true rfl) rfl) ?_
  refine oe_bipush (pc := 25) (v := 24) d_X12_think_25 rfl ?_
  refine oe_iload_n (pc := 27) d_X12_think_27 rfl ?_
  refine oe_imul (pc := 28) d_X12_think_28 ?_
  refine oe_istore_n (pc := 29) (L2 := [_, _, _]) d_X12_think_29 rfl rfl (Nat.le_of_ble_eq_true rfl) rfl ?_
  exact v_X12_think_30 hd hK   h
