/-! walked by program: X12_part, X12_isShelf, X12_parts, X12_adds -/
theorem d_X12_part_0 : decode J_X12_part.2.1 0 = .ok (.aload_n 0, 1) := by decide +kernel
theorem d_X12_part_1 : decode J_X12_part.2.1 1 = .ok (.iload_n 1, 1) := by decide +kernel
theorem d_X12_part_2 : decode J_X12_part.2.1 2 = .ok (.invokevirtual 230, 3) := by decide +kernel
theorem d_X12_part_5 : decode J_X12_part.2.1 5 = .ok (.ifCond .eq 15, 3) := by decide +kernel
theorem d_X12_part_8 : decode J_X12_part.2.1 8 = .ok (.iload_n 2, 1) := by decide +kernel
theorem d_X12_part_9 : decode J_X12_part.2.1 9 = .ok (.i2l, 1) := by decide +kernel
theorem d_X12_part_10 : decode J_X12_part.2.1 10 = .ok (.lconst 0, 1) := by decide +kernel
theorem d_X12_part_11 : decode J_X12_part.2.1 11 = .ok (.ldc2_w 152, 3) := by decide +kernel
theorem d_X12_part_14 : decode J_X12_part.2.1 14 = .ok (.invokestatic 145, 3) := by decide +kernel
theorem d_X12_part_17 : decode J_X12_part.2.1 17 = .ok (.ifCond .ne 5, 3) := by decide +kernel
theorem d_X12_part_20 : decode J_X12_part.2.1 20 = .ok (.iconst (-1), 1) := by decide +kernel
theorem d_X12_part_21 : decode J_X12_part.2.1 21 = .ok (.ireturn, 1) := by decide +kernel
theorem d_X12_part_22 : decode J_X12_part.2.1 22 = .ok (.iload_n 2, 1) := by decide +kernel
theorem d_X12_part_23 : decode J_X12_part.2.1 23 = .ok (.ifCond .ne 11, 3) := by decide +kernel
theorem d_X12_part_26 : decode J_X12_part.2.1 26 = .ok (.aload_n 0, 1) := by decide +kernel
theorem d_X12_part_27 : decode J_X12_part.2.1 27 = .ok (.iload_n 3, 1) := by decide +kernel
theorem d_X12_part_28 : decode J_X12_part.2.1 28 = .ok (.invokevirtual 216, 3) := by decide +kernel
theorem d_X12_part_31 : decode J_X12_part.2.1 31 = .ok (.goto 53, 3) := by decide +kernel
theorem d_X12_part_34 : decode J_X12_part.2.1 34 = .ok (.iload_n 2, 1) := by decide +kernel
theorem d_X12_part_35 : decode J_X12_part.2.1 35 = .ok (.iconst 1, 1) := by decide +kernel
theorem d_X12_part_36 : decode J_X12_part.2.1 36 = .ok (.if_icmp .ne 33, 3) := by decide +kernel
theorem d_X12_part_39 : decode J_X12_part.2.1 39 = .ok (.aload_n 0, 1) := by decide +kernel
theorem d_X12_part_40 : decode J_X12_part.2.1 40 = .ok (.iload_n 3, 1) := by decide +kernel
theorem d_X12_part_41 : decode J_X12_part.2.1 41 = .ok (.aload_n 0, 1) := by decide +kernel
theorem d_X12_part_42 : decode J_X12_part.2.1 42 = .ok (.getfield 55, 3) := by decide +kernel
theorem d_X12_part_45 : decode J_X12_part.2.1 45 = .ok (.iload_n 1, 1) := by decide +kernel
theorem d_X12_part_46 : decode J_X12_part.2.1 46 = .ok (.iaload, 1) := by decide +kernel
theorem d_X12_part_47 : decode J_X12_part.2.1 47 = .ok (.invokevirtual 233, 3) := by decide +kernel
theorem d_X12_part_50 : decode J_X12_part.2.1 50 = .ok (.ifCond .eq 15, 3) := by decide +kernel
theorem d_X12_part_53 : decode J_X12_part.2.1 53 = .ok (.iload 4, 2) := by decide +kernel
theorem d_X12_part_55 : decode J_X12_part.2.1 55 = .ok (.invokestatic 169, 3) := by decide +kernel
theorem d_X12_part_58 : decode J_X12_part.2.1 58 = .ok (.ifCond .eq 7, 3) := by decide +kernel
theorem d_X12_part_61 : decode J_X12_part.2.1 61 = .ok (.iconst 1, 1) := by decide +kernel
theorem d_X12_part_62 : decode J_X12_part.2.1 62 = .ok (.goto 22, 3) := by decide +kernel
theorem d_X12_part_65 : decode J_X12_part.2.1 65 = .ok (.iconst 0, 1) := by decide +kernel
theorem d_X12_part_66 : decode J_X12_part.2.1 66 = .ok (.goto 18, 3) := by decide +kernel
theorem d_X12_part_69 : decode J_X12_part.2.1 69 = .ok (.aload_n 0, 1) := by decide +kernel
theorem d_X12_part_70 : decode J_X12_part.2.1 70 = .ok (.getfield 49, 3) := by decide +kernel
theorem d_X12_part_73 : decode J_X12_part.2.1 73 = .ok (.iload_n 1, 1) := by decide +kernel
theorem d_X12_part_74 : decode J_X12_part.2.1 74 = .ok (.iaload, 1) := by decide +kernel
theorem d_X12_part_75 : decode J_X12_part.2.1 75 = .ok (.iconst 3, 1) := by decide +kernel
theorem d_X12_part_76 : decode J_X12_part.2.1 76 = .ok (.if_icmp .ne 7, 3) := by decide +kernel
theorem d_X12_part_79 : decode J_X12_part.2.1 79 = .ok (.iconst 1, 1) := by decide +kernel
theorem d_X12_part_80 : decode J_X12_part.2.1 80 = .ok (.goto 4, 3) := by decide +kernel
theorem d_X12_part_83 : decode J_X12_part.2.1 83 = .ok (.iconst 0, 1) := by decide +kernel
theorem d_X12_part_84 : decode J_X12_part.2.1 84 = .ok (.istore 5, 2) := by decide +kernel
theorem d_X12_part_86 : decode J_X12_part.2.1 86 = .ok (.iload 5, 2) := by decide +kernel
theorem d_X12_part_88 : decode J_X12_part.2.1 88 = .ok (.ifCond .ne 5, 3) := by decide +kernel
theorem d_X12_part_91 : decode J_X12_part.2.1 91 = .ok (.iconst (-1), 1) := by decide +kernel
theorem d_X12_part_92 : decode J_X12_part.2.1 92 = .ok (.ireturn, 1) := by decide +kernel
theorem d_X12_part_93 : decode J_X12_part.2.1 93 = .ok (.iload_n 2, 1) := by decide +kernel
theorem d_X12_part_94 : decode J_X12_part.2.1 94 = .ok (.ifCond .ne 15, 3) := by decide +kernel
theorem d_X12_part_97 : decode J_X12_part.2.1 97 = .ok (.aload_n 0, 1) := by decide +kernel
theorem d_X12_part_98 : decode J_X12_part.2.1 98 = .ok (.getfield 70, 3) := by decide +kernel
theorem d_X12_part_101 : decode J_X12_part.2.1 101 = .ok (.iload_n 3, 1) := by decide +kernel
theorem d_X12_part_102 : decode J_X12_part.2.1 102 = .ok (.baload, 1) := by decide +kernel
theorem d_X12_part_103 : decode J_X12_part.2.1 103 = .ok (.ifCond .eq 6, 3) := by decide +kernel
theorem d_X12_part_106 : decode J_X12_part.2.1 106 = .ok (.bipush (-5), 2) := by decide +kernel
theorem d_X12_part_108 : decode J_X12_part.2.1 108 = .ok (.ireturn, 1) := by decide +kernel
theorem d_X12_part_109 : decode J_X12_part.2.1 109 = .ok (.aload_n 0, 1) := by decide +kernel
theorem d_X12_part_110 : decode J_X12_part.2.1 110 = .ok (.getfield 58, 3) := by decide +kernel
theorem d_X12_part_113 : decode J_X12_part.2.1 113 = .ok (.iload_n 1, 1) := by decide +kernel
theorem d_X12_part_114 : decode J_X12_part.2.1 114 = .ok (.iaload, 1) := by decide +kernel
theorem d_X12_part_115 : decode J_X12_part.2.1 115 = .ok (.bipush 24, 2) := by decide +kernel
theorem d_X12_part_117 : decode J_X12_part.2.1 117 = .ok (.if_icmp .ne 6, 3) := by decide +kernel
theorem d_X12_part_120 : decode J_X12_part.2.1 120 = .ok (.bipush (-3), 2) := by decide +kernel
theorem d_X12_part_122 : decode J_X12_part.2.1 122 = .ok (.ireturn, 1) := by decide +kernel
theorem d_X12_part_123 : decode J_X12_part.2.1 123 = .ok (.bipush 24, 2) := by decide +kernel
theorem d_X12_part_125 : decode J_X12_part.2.1 125 = .ok (.iload_n 1, 1) := by decide +kernel
theorem d_X12_part_126 : decode J_X12_part.2.1 126 = .ok (.imul, 1) := by decide +kernel
theorem d_X12_part_127 : decode J_X12_part.2.1 127 = .ok (.aload_n 0, 1) := by decide +kernel
theorem d_X12_part_128 : decode J_X12_part.2.1 128 = .ok (.getfield 58, 3) := by decide +kernel
theorem d_X12_part_131 : decode J_X12_part.2.1 131 = .ok (.iload_n 1, 1) := by decide +kernel
theorem d_X12_part_132 : decode J_X12_part.2.1 132 = .ok (.iaload, 1) := by decide +kernel
theorem d_X12_part_133 : decode J_X12_part.2.1 133 = .ok (.iadd, 1) := by decide +kernel
theorem d_X12_part_134 : decode J_X12_part.2.1 134 = .ok (.istore 6, 2) := by decide +kernel
theorem d_X12_part_136 : decode J_X12_part.2.1 136 = .ok (.aload_n 0, 1) := by decide +kernel
theorem d_X12_part_137 : decode J_X12_part.2.1 137 = .ok (.getfield 61, 3) := by decide +kernel
theorem d_X12_part_140 : decode J_X12_part.2.1 140 = .ok (.iload 6, 2) := by decide +kernel
theorem d_X12_part_142 : decode J_X12_part.2.1 142 = .ok (.iload_n 2, 1) := by decide +kernel
theorem d_X12_part_143 : decode J_X12_part.2.1 143 = .ok (.iastore, 1) := by decide +kernel
theorem d_X12_part_144 : decode J_X12_part.2.1 144 = .ok (.aload_n 0, 1) := by decide +kernel
theorem d_X12_part_145 : decode J_X12_part.2.1 145 = .ok (.getfield 64, 3) := by decide +kernel
theorem d_X12_part_148 : decode J_X12_part.2.1 148 = .ok (.iload 6, 2) := by decide +kernel
theorem d_X12_part_150 : decode J_X12_part.2.1 150 = .ok (.iload_n 2, 1) := by decide +kernel
theorem d_X12_part_151 : decode J_X12_part.2.1 151 = .ok (.iconst 2, 1) := by decide +kernel
theorem d_X12_part_152 : decode J_X12_part.2.1 152 = .ok (.if_icmp .ne 7, 3) := by decide +kernel
theorem d_X12_part_155 : decode J_X12_part.2.1 155 = .ok (.iconst (-1), 1) := by decide +kernel
theorem d_X12_part_156 : decode J_X12_part.2.1 156 = .ok (.goto 4, 3) := by decide +kernel
theorem d_X12_part_159 : decode J_X12_part.2.1 159 = .ok (.iload_n 3, 1) := by decide +kernel
theorem d_X12_part_160 : decode J_X12_part.2.1 160 = .ok (.iastore, 1) := by decide +kernel
theorem d_X12_part_161 : decode J_X12_part.2.1 161 = .ok (.aload_n 0, 1) := by decide +kernel
theorem d_X12_part_162 : decode J_X12_part.2.1 162 = .ok (.getfield 67, 3) := by decide +kernel
theorem d_X12_part_165 : decode J_X12_part.2.1 165 = .ok (.iload 6, 2) := by decide +kernel
theorem d_X12_part_167 : decode J_X12_part.2.1 167 = .ok (.iload_n 2, 1) := by decide +kernel
theorem d_X12_part_168 : decode J_X12_part.2.1 168 = .ok (.iconst 1, 1) := by decide +kernel
theorem d_X12_part_169 : decode J_X12_part.2.1 169 = .ok (.if_icmp .ne 8, 3) := by decide +kernel
theorem d_X12_part_172 : decode J_X12_part.2.1 172 = .ok (.iload 4, 2) := by decide +kernel
theorem d_X12_part_174 : decode J_X12_part.2.1 174 = .ok (.goto 4, 3) := by decide +kernel
theorem d_X12_part_177 : decode J_X12_part.2.1 177 = .ok (.iconst (-1), 1) := by decide +kernel
theorem d_X12_part_178 : decode J_X12_part.2.1 178 = .ok (.iastore, 1) := by decide +kernel
theorem d_X12_part_179 : decode J_X12_part.2.1 179 = .ok (.aload_n 0, 1) := by decide +kernel
theorem d_X12_part_180 : decode J_X12_part.2.1 180 = .ok (.getfield 58, 3) := by decide +kernel
theorem d_X12_part_183 : decode J_X12_part.2.1 183 = .ok (.iload_n 1, 1) := by decide +kernel
theorem d_X12_part_184 : decode J_X12_part.2.1 184 = .ok (.dup2, 1) := by decide +kernel
theorem d_X12_part_185 : decode J_X12_part.2.1 185 = .ok (.iaload, 1) := by decide +kernel
theorem d_X12_part_186 : decode J_X12_part.2.1 186 = .ok (.iconst 1, 1) := by decide +kernel
theorem d_X12_part_187 : decode J_X12_part.2.1 187 = .ok (.iadd, 1) := by decide +kernel
theorem d_X12_part_188 : decode J_X12_part.2.1 188 = .ok (.iastore, 1) := by decide +kernel
theorem d_X12_part_189 : decode J_X12_part.2.1 189 = .ok (.iload_n 2, 1) := by decide +kernel
theorem d_X12_part_190 : decode J_X12_part.2.1 190 = .ok (.ifCond .ne 10, 3) := by decide +kernel
theorem d_X12_part_193 : decode J_X12_part.2.1 193 = .ok (.aload_n 0, 1) := by decide +kernel
theorem d_X12_part_194 : decode J_X12_part.2.1 194 = .ok (.getfield 70, 3) := by decide +kernel
theorem d_X12_part_197 : decode J_X12_part.2.1 197 = .ok (.iload_n 3, 1) := by decide +kernel
theorem d_X12_part_198 : decode J_X12_part.2.1 198 = .ok (.iconst 1, 1) := by decide +kernel
theorem d_X12_part_199 : decode J_X12_part.2.1 199 = .ok (.bastore, 1) := by decide +kernel
theorem d_X12_part_200 : decode J_X12_part.2.1 200 = .ok (.iload_n 2, 1) := by decide +kernel
theorem d_X12_part_201 : decode J_X12_part.2.1 201 = .ok (.iconst 1, 1) := by decide +kernel
theorem d_X12_part_202 : decode J_X12_part.2.1 202 = .ok (.if_icmp .ne 39, 3) := by decide +kernel
theorem d_X12_part_205 : decode J_X12_part.2.1 205 = .ok (.aload_n 0, 1) := by decide +kernel
theorem d_X12_part_206 : decode J_X12_part.2.1 206 = .ok (.getfield 55, 3) := by decide +kernel
theorem d_X12_part_209 : decode J_X12_part.2.1 209 = .ok (.iload_n 1, 1) := by decide +kernel
theorem d_X12_part_210 : decode J_X12_part.2.1 210 = .ok (.aload_n 0, 1) := by decide +kernel
theorem d_X12_part_211 : decode J_X12_part.2.1 211 = .ok (.getfield 22, 3) := by decide +kernel
theorem d_X12_part_214 : decode J_X12_part.2.1 214 = .ok (.iload_n 3, 1) := by decide +kernel
theorem d_X12_part_215 : decode J_X12_part.2.1 215 = .ok (.iaload, 1) := by decide +kernel
theorem d_X12_part_216 : decode J_X12_part.2.1 216 = .ok (.aload_n 0, 1) := by decide +kernel
theorem d_X12_part_217 : decode J_X12_part.2.1 217 = .ok (.getfield 55, 3) := by decide +kernel
theorem d_X12_part_220 : decode J_X12_part.2.1 220 = .ok (.iload_n 1, 1) := by decide +kernel
theorem d_X12_part_221 : decode J_X12_part.2.1 221 = .ok (.iaload, 1) := by decide +kernel
theorem d_X12_part_222 : decode J_X12_part.2.1 222 = .ok (.if_icmp .ne 12, 3) := by decide +kernel
theorem d_X12_part_225 : decode J_X12_part.2.1 225 = .ok (.aload_n 0, 1) := by decide +kernel
theorem d_X12_part_226 : decode J_X12_part.2.1 226 = .ok (.getfield 25, 3) := by decide +kernel
theorem d_X12_part_229 : decode J_X12_part.2.1 229 = .ok (.iload_n 3, 1) := by decide +kernel
theorem d_X12_part_230 : decode J_X12_part.2.1 230 = .ok (.iaload, 1) := by decide +kernel
theorem d_X12_part_231 : decode J_X12_part.2.1 231 = .ok (.goto 9, 3) := by decide +kernel
theorem d_X12_part_234 : decode J_X12_part.2.1 234 = .ok (.aload_n 0, 1) := by decide +kernel
theorem d_X12_part_235 : decode J_X12_part.2.1 235 = .ok (.getfield 22, 3) := by decide +kernel
theorem d_X12_part_238 : decode J_X12_part.2.1 238 = .ok (.iload_n 3, 1) := by decide +kernel
theorem d_X12_part_239 : decode J_X12_part.2.1 239 = .ok (.iaload, 1) := by decide +kernel
theorem d_X12_part_240 : decode J_X12_part.2.1 240 = .ok (.iastore, 1) := by decide +kernel
theorem d_X12_part_241 : decode J_X12_part.2.1 241 = .ok (.aload_n 0, 1) := by decide +kernel
theorem d_X12_part_242 : decode J_X12_part.2.1 242 = .ok (.getfield 58, 3) := by decide +kernel
theorem d_X12_part_245 : decode J_X12_part.2.1 245 = .ok (.iload_n 1, 1) := by decide +kernel
theorem d_X12_part_246 : decode J_X12_part.2.1 246 = .ok (.iaload, 1) := by decide +kernel
theorem d_X12_part_247 : decode J_X12_part.2.1 247 = .ok (.ireturn, 1) := by decide +kernel
def f_X12_part_241 (N : Nat) (K : oK)  (p1 : Int32) (M : oM) : Option (Int32 × oM) :=
  oIx (p1) 20 (some ((M.1 76 (p1 : Int32).toNatClampNeg), M))
set_option maxRecDepth 20000 in
theorem v_X12_part_241 {X : oX} {d N : Nat} {K : oK}  {p1 : Int32} {M : oM} {v : Int32} {M' : oM}  (hd : 4 ≤ d) (hK : oSR K)   (h : f_X12_part_241 N K  p1 M = some (v, M')) : oEv X d J_X12_part 241 [some (.ref 59), some (.int p1), none, none, none, none, none] [] K M (some (.int v)) K M' := by
  unfold f_X12_part_241 at h
  refine oe_aload_n (pc := 241) d_X12_part_241 rfl ?_
  refine oe_getr (pc := 242) d_X12_part_242 fl_X12_58 ock12 (k := 24) (b := 76) (Nat.le_of_ble_eq_true rfl) (by decide) (oLt hK (a := 59) (Nat.le_of_ble_eq_true rfl)) (oSho hK (a := 59) (Nat.le_of_ble_eq_true rfl) rfl) (oRfK hK rfl) ?_
  refine oe_iload_n (pc := 245) d_X12_part_245 rfl ?_
  obtain ⟨i25, h⟩ := oIx_some h
  refine oe_iald (pc := 246) d_X12_part_246 (oLt hK (a := 76) (Nat.le_of_ble_eq_true rfl)) (oSha hK (a := 76) (Nat.le_of_ble_eq_true rfl) rfl) i25 ?_
  obtain ⟨rfl, rfl⟩ := oRes h
  exact oe_iret (pc := 247) d_X12_part_247 ⟨_, rfl, rfl⟩
def f_X12_part_240 (N : Nat) (K : oK)  (p1 : Int32) (s0 : Int32) (s1 : Int32) (M : oM) : Option (Int32 × oM) :=
  oIx (s1) 20 ((f_X12_part_241 N K  p1 (oUp M 75 (s1 : Int32).toNatClampNeg s0)))
set_option maxRecDepth 20000 in
theorem v_X12_part_240 {X : oX} {d N : Nat} {K : oK}  {p1 : Int32} {s0 : Int32} {s1 : Int32} {M : oM} {v : Int32} {M' : oM}  (hd : 4 ≤ d) (hK : oSR K)   (h : f_X12_part_240 N K  p1 s0 s1 M = some (v, M')) : oEv X d J_X12_part 240 [some (.ref 59), some (.int p1), none, none, none, none, none] [(.int s0), (.int s1), (.ref 75)] K M (some (.int v)) K M' := by
  unfold f_X12_part_240 at h
  obtain ⟨i30, h⟩ := oIx_some h
  refine oe_iast (pc := 240) d_X12_part_240 (oLt hK (a := 75) (Nat.le_of_ble_eq_true rfl)) (oSha hK (a := 75) (Nat.le_of_ble_eq_true rfl) rfl) i30 ?_
  exact v_X12_part_241 hd hK   h
def f_X12_part_200 (N : Nat) (K : oK)  (p1 : Int32) (p2 : Int32) (p3 : Int32) (M : oM) : Option (Int32 × oM) :=
  (if p2 = 1 then oIx (p3) 20 (oIx (p1) 20 ((if (M.1 64 (p3 : Int32).toNatClampNeg) = (M.1 75 (p1 : Int32).toNatClampNeg) then oIx (p3) 20 ((f_X12_part_240 N K  p1 (M.1 65 (p3 : Int32).toNatClampNeg) p1 M)) else oIx (p3) 20 ((f_X12_part_240 N K  p1 (M.1 64 (p3 : Int32).toNatClampNeg) p1 M))))) else (f_X12_part_241 N K  p1 M))
set_option maxRecDepth 20000 in
theorem v_X12_part_200 {X : oX} {d N : Nat} {K : oK}  {p1 : Int32} {p2 : Int32} {p3 : Int32} {M : oM} {v : Int32} {M' : oM}  (hd : 4 ≤ d) (hK : oSR K)   (h : f_X12_part_200 N K  p1 p2 p3 M = some (v, M')) : oEv X d J_X12_part 200 [some (.ref 59), some (.int p1), some (.int p2), some (.int p3), none, none, none] [] K M (some (.int v)) K M' := by
  unfold f_X12_part_200 at h
  refine oe_iload_n (pc := 200) d_X12_part_200 rfl ?_
  refine oe_iconst (pc := 201) (v := 1) d_X12_part_201 rfl ?_
  refine oe_icmp_ne (pc := 202) (tgt := 241) d_X12_part_202 (by decide) (fun c24 => ?_) (fun c24 => ?_)
  · replace h := (if_neg c24).symm.trans h
    refine oEv.fg [true, true, false, false, false, false, false] ?_
    exact v_X12_part_241 hd hK   h
  · replace h := (if_pos c24).symm.trans h
    refine oe_aload_n (pc := 205) d_X12_part_205 rfl ?_
    refine oe_getr (pc := 206) d_X12_part_206 fl_X12_55 ock12 (k := 23) (b := 75) (Nat.le_of_ble_eq_true rfl) (by decide) (oLt hK (a := 59) (Nat.le_of_ble_eq_true rfl)) (oSho hK (a := 59) (Nat.le_of_ble_eq_true rfl) rfl) (oRfK hK rfl) ?_
    refine oe_iload_n (pc := 209) d_X12_part_209 rfl ?_
    refine oe_aload_n (pc := 210) d_X12_part_210 rfl ?_
    refine oe_getr (pc := 211) d_X12_part_211 fl_X12_22 ock12 (k := 8) (b := 64) (Nat.le_of_ble_eq_true rfl) (by decide) (oLt hK (a := 59) (Nat.le_of_ble_eq_true rfl)) (oSho hK (a := 59) (Nat.le_of_ble_eq_true rfl) rfl) (oRfK hK rfl) ?_
    refine oe_iload_n (pc := 214) d_X12_part_214 rfl ?_
    obtain ⟨i26, h⟩ := oIx_some h
    refine oe_iald (pc := 215) d_X12_part_215 (oLt hK (a := 64) (Nat.le_of_ble_eq_true rfl)) (oSha hK (a := 64) (Nat.le_of_ble_eq_true rfl) rfl) i26 ?_
    refine oe_aload_n (pc := 216) d_X12_part_216 rfl ?_
    refine oe_getr (pc := 217) d_X12_part_217 fl_X12_55 ock12 (k := 23) (b := 75) (Nat.le_of_ble_eq_true rfl) (by decide) (oLt hK (a := 59) (Nat.le_of_ble_eq_true rfl)) (oSho hK (a := 59) (Nat.le_of_ble_eq_true rfl) rfl) (oRfK hK rfl) ?_
    refine oe_iload_n (pc := 220) d_X12_part_220 rfl ?_
    obtain ⟨i27, h⟩ := oIx_some h
    refine oe_iald (pc := 221) d_X12_part_221 (oLt hK (a := 75) (Nat.le_of_ble_eq_true rfl)) (oSha hK (a := 75) (Nat.le_of_ble_eq_true rfl) rfl) i27 ?_
    refine oe_icmp_ne (pc := 222) (tgt := 234) d_X12_part_222 (by decide) (fun c28 => ?_) (fun c28 => ?_)
    · replace h := (if_neg c28).symm.trans h
      refine oe_aload_n (pc := 234) d_X12_part_234 rfl ?_
      refine oe_getr (pc := 235) d_X12_part_235 fl_X12_22 ock12 (k := 8) (b := 64) (Nat.le_of_ble_eq_true rfl) (by decide) (oLt hK (a := 59) (Nat.le_of_ble_eq_true rfl)) (oSho hK (a := 59) (Nat.le_of_ble_eq_true rfl) rfl) (oRfK hK rfl) ?_
      refine oe_iload_n (pc := 238) d_X12_part_238 rfl ?_
      obtain ⟨i29, h⟩ := oIx_some h
      refine oe_iald (pc := 239) d_X12_part_239 (oLt hK (a := 64) (Nat.le_of_ble_eq_true rfl)) (oSha hK (a := 64) (Nat.le_of_ble_eq_true rfl) rfl) i29 ?_
      refine oEv.fg [true, true, false, false, false, false, false] ?_
      exact v_X12_part_240 hd hK   h
    · replace h := (if_pos c28).symm.trans h
      refine oe_aload_n (pc := 225) d_X12_part_225 rfl ?_
      refine oe_getr (pc := 226) d_X12_part_226 fl_X12_25 ock12 (k := 9) (b := 65) (Nat.le_of_ble_eq_true rfl) (by decide) (oLt hK (a := 59) (Nat.le_of_ble_eq_true rfl)) (oSho hK (a := 59) (Nat.le_of_ble_eq_true rfl) rfl) (oRfK hK rfl) ?_
      refine oe_iload_n (pc := 229) d_X12_part_229 rfl ?_
      obtain ⟨i31, h⟩ := oIx_some h
      refine oe_iald (pc := 230) d_X12_part_230 (oLt hK (a := 65) (Nat.le_of_ble_eq_true rfl)) (oSha hK (a := 65) (Nat.le_of_ble_eq_true rfl) rfl) i31 ?_
      refine oe_goto (pc := 231) (tgt := 240) d_X12_part_231 (by decide) ?_
      refine oEv.fg [true, true, false, false, false, false, false] ?_
      exact v_X12_part_240 hd hK   h
def f_X12_part_178 (N : Nat) (K : oK)  (p1 : Int32) (p2 : Int32) (p3 : Int32) (s0 : Int32) (s1 : Int32) (M : oM) : Option (Int32 × oM) :=
  oIx (s1) 480 (oIx (p1) 20 (oIx (p1) 20 ((if p2 = 0 then oIx (p3) 6 ((f_X12_part_200 N K  p1 p2 p3 (oUp (oUp (oUp M 79 (s1 : Int32).toNatClampNeg s0) 76 (p1 : Int32).toNatClampNeg (((oUp M 79 (s1 : Int32).toNatClampNeg s0).1 76 (p1 : Int32).toNatClampNeg) + 1)) 80 (p3 : Int32).toNatClampNeg (vp_nar .boolean (1 : Int32))))) else (f_X12_part_200 N K  p1 p2 p3 (oUp (oUp M 79 (s1 : Int32).toNatClampNeg s0) 76 (p1 : Int32).toNatClampNeg (((oUp M 79 (s1 : Int32).toNatClampNeg s0).1 76 (p1 : Int32).toNatClampNeg) + 1)))))))
set_option maxRecDepth 20000 in
theorem v_X12_part_178 {X : oX} {d N : Nat} {K : oK}  {p1 : Int32} {p2 : Int32} {p3 : Int32} {s0 : Int32} {s1 : Int32} {M : oM} {v : Int32} {M' : oM}  (hd : 4 ≤ d) (hK : oSR K)   (h : f_X12_part_178 N K  p1 p2 p3 s0 s1 M = some (v, M')) : oEv X d J_X12_part 178 [some (.ref 59), some (.int p1), some (.int p2), some (.int p3), none, none, none] [(.int s0), (.int s1), (.ref 79)] K M (some (.int v)) K M' := by
  unfold f_X12_part_178 at h
  obtain ⟨i20, h⟩ := oIx_some h
  refine oe_iast (pc := 178) d_X12_part_178 (oLt hK (a := 79) (Nat.le_of_ble_eq_true rfl)) (oSha hK (a := 79) (Nat.le_of_ble_eq_true rfl) rfl) i20 ?_
  refine oe_aload_n (pc := 179) d_X12_part_179 rfl ?_
  refine oe_getr (pc := 180) d_X12_part_180 fl_X12_58 ock12 (k := 24) (b := 76) (Nat.le_of_ble_eq_true rfl) (by decide) (oLt hK (a := 59) (Nat.le_of_ble_eq_true rfl)) (oSho hK (a := 59) (Nat.le_of_ble_eq_true rfl) rfl) (oRfK hK rfl) ?_
  refine oe_iload_n (pc := 183) d_X12_part_183 rfl ?_
  refine oe_dup2 (pc := 184) d_X12_part_184 rfl rfl ?_
  obtain ⟨i21, h⟩ := oIx_some h
  refine oe_iald (pc := 185) d_X12_part_185 (oLt hK (a := 76) (Nat.le_of_ble_eq_true rfl)) (oSha hK (a := 76) (Nat.le_of_ble_eq_true rfl) rfl) i21 ?_
  refine oe_iconst (pc := 186) (v := 1) d_X12_part_186 rfl ?_
  refine oe_iadd (pc := 187) d_X12_part_187 ?_
  obtain ⟨i22, h⟩ := oIx_some h
  refine oe_iast (pc := 188) d_X12_part_188 (oLt hK (a := 76) (Nat.le_of_ble_eq_true rfl)) (oSha hK (a := 76) (Nat.le_of_ble_eq_true rfl) rfl) i22 ?_
  refine oe_iload_n (pc := 189) d_X12_part_189 rfl ?_
  refine oe_if_ne (pc := 190) (tgt := 200) d_X12_part_190 (by decide) (fun c23 => ?_) (fun c23 => ?_)
  · replace h := (if_neg c23).symm.trans h
    exact v_X12_part_200 hd hK   h
  · replace h := (if_pos c23).symm.trans h
    refine oe_aload_n (pc := 193) d_X12_part_193 rfl ?_
    refine oe_getr (pc := 194) d_X12_part_194 fl_X12_70 ock12 (k := 28) (b := 80) (Nat.le_of_ble_eq_true rfl) (by decide) (oLt hK (a := 59) (Nat.le_of_ble_eq_true rfl)) (oSho hK (a := 59) (Nat.le_of_ble_eq_true rfl) rfl) (oRfK hK rfl) ?_
    refine oe_iload_n (pc := 197) d_X12_part_197 rfl ?_
    refine oe_iconst (pc := 198) (v := 1) d_X12_part_198 rfl ?_
    obtain ⟨i32, h⟩ := oIx_some h
    refine oe_zast (pc := 199) d_X12_part_199 (oLt hK (a := 80) (Nat.le_of_ble_eq_true rfl)) (oSha hK (a := 80) (Nat.le_of_ble_eq_true rfl) rfl) i32 ?_
    exact v_X12_part_200 hd hK   h
def f_X12_part_160 (N : Nat) (K : oK)  (p1 : Int32) (p2 : Int32) (p3 : Int32) (p4 : Int32) (p6 : Int32) (s0 : Int32) (s1 : Int32) (M : oM) : Option (Int32 × oM) :=
  oIx (s1) 480 ((if p2 = 1 then (f_X12_part_178 N K  p1 p2 p3 p4 p6 (oUp M 78 (s1 : Int32).toNatClampNeg s0)) else (f_X12_part_178 N K  p1 p2 p3 (-1) p6 (oUp M 78 (s1 : Int32).toNatClampNeg s0))))
set_option maxRecDepth 20000 in
theorem v_X12_part_160 {X : oX} {d N : Nat} {K : oK}  {p1 : Int32} {p2 : Int32} {p3 : Int32} {p4 : Int32} {p6 : Int32} {s0 : Int32} {s1 : Int32} {M : oM} {v : Int32} {M' : oM}  (hd : 4 ≤ d) (hK : oSR K)   (h : f_X12_part_160 N K  p1 p2 p3 p4 p6 s0 s1 M = some (v, M')) : oEv X d J_X12_part 160 [some (.ref 59), some (.int p1), some (.int p2), some (.int p3), some (.int p4), none, some (.int p6)] [(.int s0), (.int s1), (.ref 78)] K M (some (.int v)) K M' := by
  unfold f_X12_part_160 at h
  obtain ⟨i18, h⟩ := oIx_some h
  refine oe_iast (pc := 160) d_X12_part_160 (oLt hK (a := 78) (Nat.le_of_ble_eq_true rfl)) (oSha hK (a := 78) (Nat.le_of_ble_eq_true rfl) rfl) i18 ?_
  refine oe_aload_n (pc := 161) d_X12_part_161 rfl ?_
  refine oe_getr (pc := 162) d_X12_part_162 fl_X12_67 ock12 (k := 27) (b := 79) (Nat.le_of_ble_eq_true rfl) (by decide) (oLt hK (a := 59) (Nat.le_of_ble_eq_true rfl)) (oSho hK (a := 59) (Nat.le_of_ble_eq_true rfl) rfl) (oRfK hK rfl) ?_
  refine oe_iload (pc := 165) d_X12_part_165 rfl ?_
  refine oe_iload_n (pc := 167) d_X12_part_167 rfl ?_
  refine oe_iconst (pc := 168) (v := 1) d_X12_part_168 rfl ?_
  refine oe_icmp_ne (pc := 169) (tgt := 177) d_X12_part_169 (by decide) (fun c19 => ?_) (fun c19 => ?_)
  · replace h := (if_neg c19).symm.trans h
    refine oe_iconst (pc := 177) (v := (-1)) d_X12_part_177 rfl ?_
    refine oEv.fg [true, true, true, true, false, false, false] ?_
    exact v_X12_part_178 hd hK   h
  · replace h := (if_pos c19).symm.trans h
    refine oe_iload (pc := 172) d_X12_part_172 rfl ?_
    refine oe_goto (pc := 174) (tgt := 178) d_X12_part_174 (by decide) ?_
    refine oEv.fg [true, true, true, true, false, false, false] ?_
    exact v_X12_part_178 hd hK   h
def f_X12_part_109 (N : Nat) (K : oK)  (p1 : Int32) (p2 : Int32) (p3 : Int32) (p4 : Int32) (M : oM) : Option (Int32 × oM) :=
  oIx (p1) 20 ((if (M.1 76 (p1 : Int32).toNatClampNeg) = 24 then some ((-3), M) else oIx (p1) 20 (oIx ((((24 : Int32) * p1) + (M.1 76 (p1 : Int32).toNatClampNeg))) 480 ((if p2 = 2 then (f_X12_part_160 N K  p1 p2 p3 p4 (((24 : Int32) * p1) + (M.1 76 (p1 : Int32).toNatClampNeg)) (-1) (((24 : Int32) * p1) + (M.1 76 (p1 : Int32).toNatClampNeg)) (oUp M 77 ((((24 : Int32) * p1) + (M.1 76 (p1 : Int32).toNatClampNeg)) : Int32).toNatClampNeg p2)) else (f_X12_part_160 N K  p1 p2 p3 p4 (((24 : Int32) * p1) + (M.1 76 (p1 : Int32).toNatClampNeg)) p3 (((24 : Int32) * p1) + (M.1 76 (p1 : Int32).toNatClampNeg)) (oUp M 77 ((((24 : Int32) * p1) + (M.1 76 (p1 : Int32).toNatClampNeg)) : Int32).toNatClampNeg p2)))))))
set_option maxRecDepth 20000 in
theorem v_X12_part_109 {X : oX} {d N : Nat} {K : oK}  {p1 : Int32} {p2 : Int32} {p3 : Int32} {p4 : Int32} {M : oM} {v : Int32} {M' : oM}  (hd : 4 ≤ d) (hK : oSR K)   (h : f_X12_part_109 N K  p1 p2 p3 p4 M = some (v, M')) : oEv X d J_X12_part 109 [some (.ref 59), some (.int p1), some (.int p2), some (.int p3), some (.int p4), none, none] [] K M (some (.int v)) K M' := by
  unfold f_X12_part_109 at h
  refine oe_aload_n (pc := 109) d_X12_part_109 rfl ?_
  refine oe_getr (pc := 110) d_X12_part_110 fl_X12_58 ock12 (k := 24) (b := 76) (Nat.le_of_ble_eq_true rfl) (by decide) (oLt hK (a := 59) (Nat.le_of_ble_eq_true rfl)) (oSho hK (a := 59) (Nat.le_of_ble_eq_true rfl) rfl) (oRfK hK rfl) ?_
  refine oe_iload_n (pc := 113) d_X12_part_113 rfl ?_
  obtain ⟨i13, h⟩ := oIx_some h
  refine oe_iald (pc := 114) d_X12_part_114 (oLt hK (a := 76) (Nat.le_of_ble_eq_true rfl)) (oSha hK (a := 76) (Nat.le_of_ble_eq_true rfl) rfl) i13 ?_
  refine oe_bipush (pc := 115) (v := 24) d_X12_part_115 rfl ?_
  refine oe_icmp_ne (pc := 117) (tgt := 123) d_X12_part_117 (by decide) (fun c14 => ?_) (fun c14 => ?_)
  · replace h := (if_neg c14).symm.trans h
    refine oe_bipush (pc := 123) (v := 24) d_X12_part_123 rfl ?_
    refine oe_iload_n (pc := 125) d_X12_part_125 rfl ?_
    refine oe_imul (pc := 126) d_X12_part_126 ?_
    refine oe_aload_n (pc := 127) d_X12_part_127 rfl ?_
    refine oe_getr (pc := 128) d_X12_part_128 fl_X12_58 ock12 (k := 24) (b := 76) (Nat.le_of_ble_eq_true rfl) (by decide) (oLt hK (a := 59) (Nat.le_of_ble_eq_true rfl)) (oSho hK (a := 59) (Nat.le_of_ble_eq_true rfl) rfl) (oRfK hK rfl) ?_
    refine oe_iload_n (pc := 131) d_X12_part_131 rfl ?_
    obtain ⟨i15, h⟩ := oIx_some h
    refine oe_iald (pc := 132) d_X12_part_132 (oLt hK (a := 76) (Nat.le_of_ble_eq_true rfl)) (oSha hK (a := 76) (Nat.le_of_ble_eq_true rfl) rfl) i15 ?_
    refine oe_iadd (pc := 133) d_X12_part_133 ?_
    refine oe_istore (pc := 134) (L2 := [_, _, _, _, _, _, _]) d_X12_part_134 rfl (Nat.le_of_ble_eq_true rfl) rfl ?_
    refine oe_aload_n (pc := 136) d_X12_part_136 rfl ?_
    refine oe_getr (pc := 137) d_X12_part_137 fl_X12_61 ock12 (k := 25) (b := 77) (Nat.le_of_ble_eq_true rfl) (by decide) (oLt hK (a := 59) (Nat.le_of_ble_eq_true rfl)) (oSho hK (a := 59) (Nat.le_of_ble_eq_true rfl) rfl) (oRfK hK rfl) ?_
    refine oe_iload (pc := 140) d_X12_part_140 rfl ?_
    refine oe_iload_n (pc := 142) d_X12_part_142 rfl ?_
    obtain ⟨i16, h⟩ := oIx_some h
    refine oe_iast (pc := 143) d_X12_part_143 (oLt hK (a := 77) (Nat.le_of_ble_eq_true rfl)) (oSha hK (a := 77) (Nat.le_of_ble_eq_true rfl) rfl) i16 ?_
    refine oe_aload_n (pc := 144) d_X12_part_144 rfl ?_
    refine oe_getr (pc := 145) d_X12_part_145 fl_X12_64 ock12 (k := 26) (b := 78) (Nat.le_of_ble_eq_true rfl) (by decide) (oLt hK (a := 59) (Nat.le_of_ble_eq_true rfl)) (oSho hK (a := 59) (Nat.le_of_ble_eq_true rfl) rfl) (oRfK hK rfl) ?_
    refine oe_iload (pc := 148) d_X12_part_148 rfl ?_
    refine oe_iload_n (pc := 150) d_X12_part_150 rfl ?_
    refine oe_iconst (pc := 151) (v := 2) d_X12_part_151 rfl ?_
    refine oe_icmp_ne (pc := 152) (tgt := 159) d_X12_part_152 (by decide) (fun c17 => ?_) (fun c17 => ?_)
    · replace h := (if_neg c17).symm.trans h
      refine oe_iload_n (pc := 159) d_X12_part_159 rfl ?_
      exact v_X12_part_160 hd hK   h
    · replace h := (if_pos c17).symm.trans h
      refine oe_iconst (pc := 155) (v := (-1)) d_X12_part_155 rfl ?_
      refine oe_goto (pc := 156) (tgt := 160) d_X12_part_156 (by decide) ?_
      exact v_X12_part_160 hd hK   h
  · replace h := (if_pos c14).symm.trans h
    refine oe_bipush (pc := 120) (v := (-3)) d_X12_part_120 rfl ?_
    obtain ⟨rfl, rfl⟩ := oRes h
    exact oe_iret (pc := 122) d_X12_part_122 ⟨_, rfl, rfl⟩
def f_X12_part_84 (N : Nat) (K : oK)  (p1 : Int32) (p2 : Int32) (p3 : Int32) (p4 : Int32) (s0 : Int32) (M : oM) : Option (Int32 × oM) :=
  (if s0 = 0 then some ((-1), M) else (if p2 = 0 then oIx (p3) 6 ((if (M.1 80 (p3 : Int32).toNatClampNeg) = 0 then (f_X12_part_109 N K  p1 p2 p3 p4 M) else some ((-5), M))) else (f_X12_part_109 N K  p1 p2 p3 p4 M)))
set_option maxRecDepth 20000 in
theorem v_X12_part_84 {X : oX} {d N : Nat} {K : oK}  {p1 : Int32} {p2 : Int32} {p3 : Int32} {p4 : Int32} {s0 : Int32} {M : oM} {v : Int32} {M' : oM}  (hd : 4 ≤ d) (hK : oSR K)   (h : f_X12_part_84 N K  p1 p2 p3 p4 s0 M = some (v, M')) : oEv X d J_X12_part 84 [some (.ref 59), some (.int p1), some (.int p2), some (.int p3), some (.int p4), none, none] [(.int s0)] K M (some (.int v)) K M' := by
  unfold f_X12_part_84 at h
  refine oe_istore (pc := 84) (L2 := [_, _, _, _, _, _, _]) d_X12_part_84 rfl (Nat.le_of_ble_eq_true rfl) rfl ?_
  refine oe_iload (pc := 86) d_X12_part_86 rfl ?_
  refine oe_if_ne (pc := 88) (tgt := 93) d_X12_part_88 (by decide) (fun c11 => ?_) (fun c11 => ?_)
  · replace h := (if_neg c11).symm.trans h
    refine oe_iload_n (pc := 93) d_X12_part_93 rfl ?_
    refine oe_if_ne (pc := 94) (tgt := 109) d_X12_part_94 (by decide) (fun c12 => ?_) (fun c12 => ?_)
    · replace h := (if_neg c12).symm.trans h
      refine oEv.fg [true, true, true, true, true, false, false] ?_
      exact v_X12_part_109 hd hK   h
    · replace h := (if_pos c12).symm.trans h
      refine oe_aload_n (pc := 97) d_X12_part_97 rfl ?_
      refine oe_getr (pc := 98) d_X12_part_98 fl_X12_70 ock12 (k := 28) (b := 80) (Nat.le_of_ble_eq_true rfl) (by decide) (oLt hK (a := 59) (Nat.le_of_ble_eq_true rfl)) (oSho hK (a := 59) (Nat.le_of_ble_eq_true rfl) rfl) (oRfK hK rfl) ?_
      refine oe_iload_n (pc := 101) d_X12_part_101 rfl ?_
      obtain ⟨i33, h⟩ := oIx_some h
      refine oe_zald (pc := 102) d_X12_part_102 (oLt hK (a := 80) (Nat.le_of_ble_eq_true rfl)) (oSha hK (a := 80) (Nat.le_of_ble_eq_true rfl) rfl) i33 ?_
      refine oe_if_eq (pc := 103) (tgt := 109) d_X12_part_103 (by decide) (fun c34 => ?_) (fun c34 => ?_)
      · replace h := (if_pos c34).symm.trans h
        refine oEv.fg [true, true, true, true, true, false, false] ?_
        exact v_X12_part_109 hd hK   h
      · replace h := (if_neg c34).symm.trans h
        refine oe_bipush (pc := 106) (v := (-5)) d_X12_part_106 rfl ?_
        obtain ⟨rfl, rfl⟩ := oRes h
        exact oe_iret (pc := 108) d_X12_part_108 ⟨_, rfl, rfl⟩
  · replace h := (if_pos c11).symm.trans h
    refine oe_iconst (pc := 91) (v := (-1)) d_X12_part_91 rfl ?_
    obtain ⟨rfl, rfl⟩ := oRes h
    exact oe_iret (pc := 92) d_X12_part_92 ⟨_, rfl, rfl⟩
def f_X12_part_65 (N : Nat) (K : oK)  (p1 : Int32) (p2 : Int32) (p3 : Int32) (p4 : Int32) (M : oM) : Option (Int32 × oM) :=
  (f_X12_part_84 N K  p1 p2 p3 p4 0 M)
set_option maxRecDepth 20000 in
theorem v_X12_part_65 {X : oX} {d N : Nat} {K : oK}  {p1 : Int32} {p2 : Int32} {p3 : Int32} {p4 : Int32} {M : oM} {v : Int32} {M' : oM}  (hd : 4 ≤ d) (hK : oSR K)   (h : f_X12_part_65 N K  p1 p2 p3 p4 M = some (v, M')) : oEv X d J_X12_part 65 [some (.ref 59), some (.int p1), some (.int p2), some (.int p3), some (.int p4), none, none] [] K M (some (.int v)) K M' := by
  unfold f_X12_part_65 at h
  refine oe_iconst (pc := 65) (v := 0) d_X12_part_65 rfl ?_
  refine oe_goto (pc := 66) (tgt := 84) d_X12_part_66 (by decide) ?_
  exact v_X12_part_84 hd hK   h
def f_X12_part (N : Nat) (K : oK) (p1 : Int32) (p2 : Int32) (p3 : Int32) (p4 : Int32) (M : oM) : Option (Int32 × oM) :=
  oB2 (f_X12_isLaying N K p1 M) (fun v1 M2 => cond v1 (oB2 (f_X12_within N K ((p2 : Int32).toInt64) 0 2 M2) (fun v4 M5 => cond v4 ((if p2 = 0 then oB2 (f_X12_isEngine N K p3 M5) (fun v42 M43 => cond v42 ((f_X12_part_84 N K  p1 p2 p3 p4 1 M43)) ((f_X12_part_84 N K  p1 p2 p3 p4 0 M43))) else (if p2 = 1 then oIx (p1) 20 (oB2 (f_X12_leadsOn N K p3 (M5.1 75 (p1 : Int32).toNatClampNeg) M5) (fun v36 M37 => cond v36 (oB2 (f_X12_isBore N K p4 M37) (fun v39 M40 => cond v39 ((f_X12_part_84 N K  p1 p2 p3 p4 1 M40)) ((f_X12_part_65 N K  p1 p2 p3 p4 M40)))) ((f_X12_part_65 N K  p1 p2 p3 p4 M37)))) else oIx (p1) 20 ((if (M5.1 73 (p1 : Int32).toNatClampNeg) = 3 then (f_X12_part_84 N K  p1 p2 p3 p4 1 M5) else (f_X12_part_84 N K  p1 p2 p3 p4 0 M5)))))) (some ((-1), M5)))) (some ((-1), M2)))
set_option maxRecDepth 20000 in
theorem v_X12_part {X : oX} {N : Nat} {K : oK} {p1 : Int32} {p2 : Int32} {p3 : Int32} {p4 : Int32} {M : oM} {v : Int32} {M' : oM} (hK : oSR K)  (h : f_X12_part N K p1 p2 p3 p4 M = some (v, M')) : oMet X 4 J_X12_part [(.ref 59), (.int p1), (.int p2), (.int p3), (.int p4)] K M (some (.int v)) K M' := by
  unfold f_X12_part at h
  refine oMet_of (L := [some (.ref 59), some (.int p1), some (.int p2), some (.int p3), some (.int p4), none, none]) jJ_X12_part.1 rfl (Nat.le_of_ble_eq_true rfl) rfl (Nat.le_refl _) (Nat.le_refl _) ?_
  have hd : 4 ≤ 4 := Nat.le_refl _
  refine oe_aload_n (pc := 0) d_X12_part_0 rfl ?_
  refine oe_iload_n (pc := 1) d_X12_part_1 rfl ?_
  obtain ⟨v1, M2, q3, h⟩ := oB2_some h
  cases v1 with
  | true =>
    replace h := oCt h
    refine oe_callV (pc := 2) (ci := 12) d_X12_part_2 (v_X12_isLaying hK  q3) (by omega) ml_X12_230 jJ_X12_isLaying rfl rfl (oLt hK (a := 59) (Nat.le_of_ble_eq_true rfl)) (oSho hK (a := 59) (Nat.le_of_ble_eq_true rfl) rfl) ock12 rfl (Nat.le_of_ble_eq_true rfl) ⟨Nat.le_refl _, Nat.le_refl _⟩ ⟨Nat.le_refl _, Nat.le_refl _⟩ ?_
    refine oe_if_eq (pc := 5) (tgt := 20) d_X12_part_5 (by decide) (fun c => absurd c (by decide)) (fun _ => ?_)
    refine oe_iload_n (pc := 8) d_X12_part_8 rfl ?_
    refine oe_i2l (pc := 9) d_X12_part_9 ?_
    refine oe_lconst (pc := 10) (v := 0) d_X12_part_10 rfl ?_
    refine oe_ldc2 (pc := 11) d_X12_part_11 co_X12_152 ?_
    obtain ⟨v4, M5, q6, h⟩ := oB2_some h
    cases v4 with
    | true =>
      replace h := oCt h
      refine oe_callS (pc := 14) d_X12_part_14 (v_X12_within hK  q6) (by omega) ml_X12_145 jJ_X12_within rfl rfl (Nat.le_of_ble_eq_true rfl) ⟨Nat.le_refl _, Nat.le_refl _⟩ ⟨Nat.le_refl _, Nat.le_refl _⟩ ?_
      refine oe_if_ne (pc := 17) (tgt := 22) d_X12_part_17 (by decide) (fun _ => ?_) (fun c => absurd c (by decide))
      refine oe_iload_n (pc := 22) d_X12_part_22 rfl ?_
      refine oe_if_ne (pc := 23) (tgt := 34) d_X12_part_23 (by decide) (fun c7 => ?_) (fun c7 => ?_)
      · replace h := (if_neg c7).symm.trans h
        refine oe_iload_n (pc := 34) d_X12_part_34 rfl ?_
        refine oe_iconst (pc := 35) (v := 1) d_X12_part_35 rfl ?_
        refine oe_icmp_ne (pc := 36) (tgt := 69) d_X12_part_36 (by decide) (fun c8 => ?_) (fun c8 => ?_)
        · replace h := (if_neg c8).symm.trans h
          refine oe_aload_n (pc := 69) d_X12_part_69 rfl ?_
          refine oe_getr (pc := 70) d_X12_part_70 fl_X12_49 ock12 (k := 21) (b := 73) (Nat.le_of_ble_eq_true rfl) (by decide) (oLt hK (a := 59) (Nat.le_of_ble_eq_true rfl)) (oSho hK (a := 59) (Nat.le_of_ble_eq_true rfl) rfl) (oRfK hK rfl) ?_
          refine oe_iload_n (pc := 73) d_X12_part_73 rfl ?_
          obtain ⟨i9, h⟩ := oIx_some h
          refine oe_iald (pc := 74) d_X12_part_74 (oLt hK (a := 73) (Nat.le_of_ble_eq_true rfl)) (oSha hK (a := 73) (Nat.le_of_ble_eq_true rfl) rfl) i9 ?_
          refine oe_iconst (pc := 75) (v := 3) d_X12_part_75 rfl ?_
          refine oe_icmp_ne (pc := 76) (tgt := 83) d_X12_part_76 (by decide) (fun c10 => ?_) (fun c10 => ?_)
          · replace h := (if_neg c10).symm.trans h
            refine oe_iconst (pc := 83) (v := 0) d_X12_part_83 rfl ?_
            exact v_X12_part_84 hd hK   h
          · replace h := (if_pos c10).symm.trans h
            refine oe_iconst (pc := 79) (v := 1) d_X12_part_79 rfl ?_
            refine oe_goto (pc := 80) (tgt := 84) d_X12_part_80 (by decide) ?_
            exact v_X12_part_84 hd hK   h
        · replace h := (if_pos c8).symm.trans h
          refine oe_aload_n (pc := 39) d_X12_part_39 rfl ?_
          refine oe_iload_n (pc := 40) d_X12_part_40 rfl ?_
          refine oe_aload_n (pc := 41) d_X12_part_41 rfl ?_
          refine oe_getr (pc := 42) d_X12_part_42 fl_X12_55 ock12 (k := 23) (b := 75) (Nat.le_of_ble_eq_true rfl) (by decide) (oLt hK (a := 59) (Nat.le_of_ble_eq_true rfl)) (oSho hK (a := 59) (Nat.le_of_ble_eq_true rfl) rfl) (oRfK hK rfl) ?_
          refine oe_iload_n (pc := 45) d_X12_part_45 rfl ?_
          obtain ⟨i35, h⟩ := oIx_some h
          refine oe_iald (pc := 46) d_X12_part_46 (oLt hK (a := 75) (Nat.le_of_ble_eq_true rfl)) (oSha hK (a := 75) (Nat.le_of_ble_eq_true rfl) rfl) i35 ?_
          obtain ⟨v36, M37, q38, h⟩ := oB2_some h
          cases v36 with
          | true =>
            replace h := oCt h
            refine oe_callV (pc := 47) (ci := 12) d_X12_part_47 (v_X12_leadsOn hK  q38) (by omega) ml_X12_233 jJ_X12_leadsOn rfl rfl (oLt hK (a := 59) (Nat.le_of_ble_eq_true rfl)) (oSho hK (a := 59) (Nat.le_of_ble_eq_true rfl) rfl) ock12 rfl (Nat.le_of_ble_eq_true rfl) ⟨Nat.le_refl _, Nat.le_refl _⟩ ⟨Nat.le_refl _, Nat.le_refl _⟩ ?_
            refine oe_if_eq (pc := 50) (tgt := 65) d_X12_part_50 (by decide) (fun c => absurd c (by decide)) (fun _ => ?_)
            refine oe_iload (pc := 53) d_X12_part_53 rfl ?_
            obtain ⟨v39, M40, q41, h⟩ := oB2_some h
            cases v39 with
            | true =>
              replace h := oCt h
              refine oe_callS (pc := 55) d_X12_part_55 (v_X12_isBore hK  q41) (by omega) ml_X12_169 jJ_X12_isBore rfl rfl (Nat.le_of_ble_eq_true rfl) ⟨Nat.le_refl _, Nat.le_refl _⟩ ⟨Nat.le_refl _, Nat.le_refl _⟩ ?_
              refine oe_if_eq (pc := 58) (tgt := 65) d_X12_part_58 (by decide) (fun c => absurd c (by decide)) (fun _ => ?_)
              refine oe_iconst (pc := 61) (v := 1) d_X12_part_61 rfl ?_
              refine oe_goto (pc := 62) (tgt := 84) d_X12_part_62 (by decide) ?_
              exact v_X12_part_84 hd hK   h
            | false =>
              replace h := oCf h
              refine oe_callS (pc := 55) d_X12_part_55 (v_X12_isBore hK  q41) (by omega) ml_X12_169 jJ_X12_isBore rfl rfl (Nat.le_of_ble_eq_true rfl) ⟨Nat.le_refl _, Nat.le_refl _⟩ ⟨Nat.le_refl _, Nat.le_refl _⟩ ?_
              refine oe_if_eq (pc := 58) (tgt := 65) d_X12_part_58 (by decide) (fun _ => ?_) (fun c => absurd (by decide) c)
              exact v_X12_part_65 hd hK   h
          | false =>
            replace h := oCf h
            refine oe_callV (pc := 47) (ci := 12) d_X12_part_47 (v_X12_leadsOn hK  q38) (by omega) ml_X12_233 jJ_X12_leadsOn rfl rfl (oLt hK (a := 59) (Nat.le_of_ble_eq_true rfl)) (oSho hK (a := 59) (Nat.le_of_ble_eq_true rfl) rfl) ock12 rfl (Nat.le_of_ble_eq_true rfl) ⟨Nat.le_refl _, Nat.le_refl _⟩ ⟨Nat.le_refl _, Nat.le_refl _⟩ ?_
            refine oe_if_eq (pc := 50) (tgt := 65) d_X12_part_50 (by decide) (fun _ => ?_) (fun c => absurd (by decide) c)
            exact v_X12_part_65 hd hK   h
      · replace h := (if_pos c7).symm.trans h
        refine oe_aload_n (pc := 26) d_X12_part_26 rfl ?_
        refine oe_iload_n (pc := 27) d_X12_part_27 rfl ?_
        obtain ⟨v42, M43, q44, h⟩ := oB2_some h
        cases v42 with
        | true =>
          replace h := oCt h
          refine oe_callV (pc := 28) (ci := 12) d_X12_part_28 (v_X12_isEngine hK  q44) (by omega) ml_X12_216 jJ_X12_isEngine rfl rfl (oLt hK (a := 59) (Nat.le_of_ble_eq_true rfl)) (oSho hK (a := 59) (Nat.le_of_ble_eq_true rfl) rfl) ock12 rfl (Nat.le_of_ble_eq_true rfl) ⟨Nat.le_refl _, Nat.le_refl _⟩ ⟨Nat.le_refl _, Nat.le_refl _⟩ ?_
          refine oe_goto (pc := 31) (tgt := 84) d_X12_part_31 (by decide) ?_
          exact v_X12_part_84 hd hK   h
        | false =>
          replace h := oCf h
          refine oe_callV (pc := 28) (ci := 12) d_X12_part_28 (v_X12_isEngine hK  q44) (by omega) ml_X12_216 jJ_X12_isEngine rfl rfl (oLt hK (a := 59) (Nat.le_of_ble_eq_true rfl)) (oSho hK (a := 59) (Nat.le_of_ble_eq_true rfl) rfl) ock12 rfl (Nat.le_of_ble_eq_true rfl) ⟨Nat.le_refl _, Nat.le_refl _⟩ ⟨Nat.le_refl _, Nat.le_refl _⟩ ?_
          refine oe_goto (pc := 31) (tgt := 84) d_X12_part_31 (by decide) ?_
          exact v_X12_part_84 hd hK   h
    | false =>
      replace h := oCf h
      refine oe_callS (pc := 14) d_X12_part_14 (v_X12_within hK  q6) (by omega) ml_X12_145 jJ_X12_within rfl rfl (Nat.le_of_ble_eq_true rfl) ⟨Nat.le_refl _, Nat.le_refl _⟩ ⟨Nat.le_refl _, Nat.le_refl _⟩ ?_
      refine oe_if_ne (pc := 17) (tgt := 22) d_X12_part_17 (by decide) (fun c => absurd (by decide) c) (fun _ => ?_)
      refine oe_iconst (pc := 20) (v := (-1)) d_X12_part_20 rfl ?_
      obtain ⟨rfl, rfl⟩ := oRes h
      exact oe_iret (pc := 21) d_X12_part_21 ⟨_, rfl, rfl⟩
  | false =>
    replace h := oCf h
    refine oe_callV (pc := 2) (ci := 12) d_X12_part_2 (v_X12_isLaying hK  q3) (by omega) ml_X12_230 jJ_X12_isLaying rfl rfl (oLt hK (a := 59) (Nat.le_of_ble_eq_true rfl)) (oSho hK (a := 59) (Nat.le_of_ble_eq_true rfl) rfl) ock12 rfl (Nat.le_of_ble_eq_true rfl) ⟨Nat.le_refl _, Nat.le_refl _⟩ ⟨Nat.le_refl _, Nat.le_refl _⟩ ?_
    refine oe_if_eq (pc := 5) (tgt := 20) d_X12_part_5 (by decide) (fun _ => ?_) (fun c => absurd (by decide) c)
    refine oe_iconst (pc := 20) (v := (-1)) d_X12_part_20 rfl ?_
    obtain ⟨rfl, rfl⟩ := oRes h
    exact oe_iret (pc := 21) d_X12_part_21 ⟨_, rfl, rfl⟩
theorem d_X12_isShelf_0 : decode J_X12_isShelf.2.1 0 = .ok (.iload_n 0, 1) := by decide +kernel
theorem d_X12_isShelf_1 : decode J_X12_isShelf.2.1 1 = .ok (.i2l, 1) := by decide +kernel
theorem d_X12_isShelf_2 : decode J_X12_isShelf.2.1 2 = .ok (.lconst 0, 1) := by decide +kernel
theorem d_X12_isShelf_3 : decode J_X12_isShelf.2.1 3 = .ok (.ldc2_w 225, 3) := by decide +kernel
theorem d_X12_isShelf_6 : decode J_X12_isShelf.2.1 6 = .ok (.invokestatic 145, 3) := by decide +kernel
theorem d_X12_isShelf_9 : decode J_X12_isShelf.2.1 9 = .ok (.ireturn, 1) := by decide +kernel
def f_X12_isShelf (N : Nat) (K : oK) (p0 : Int32) (M : oM) : Option (Bool × oM) :=
  oB2 (f_X12_within N K ((p0 : Int32).toInt64) 0 5 M) (fun v1 M2 => cond v1 (some (true, M2)) (some (false, M2)))
set_option maxRecDepth 20000 in
theorem v_X12_isShelf {X : oX} {N : Nat} {K : oK} {p0 : Int32} {M : oM} {v : Bool} {M' : oM} (hK : oSR K)  (h : f_X12_isShelf N K p0 M = some (v, M')) : oMet X 2 J_X12_isShelf [(.int p0)] K M (some (.int (oBi v))) K M' := by
  unfold f_X12_isShelf at h
  refine oMet_of (L := [some (.int p0)]) jJ_X12_isShelf.1 rfl (Nat.le_of_ble_eq_true rfl) rfl (Nat.le_refl _) (Nat.le_refl _) ?_
  have hd : 2 ≤ 2 := Nat.le_refl _
  refine oe_iload_n (pc := 0) d_X12_isShelf_0 rfl ?_
  refine oe_i2l (pc := 1) d_X12_isShelf_1 ?_
  refine oe_lconst (pc := 2) (v := 0) d_X12_isShelf_2 rfl ?_
  refine oe_ldc2 (pc := 3) d_X12_isShelf_3 co_X12_225 ?_
  obtain ⟨v1, M2, q3, h⟩ := oB2_some h
  cases v1 with
  | true =>
    replace h := oCt h
    refine oe_callS (pc := 6) d_X12_isShelf_6 (v_X12_within hK  q3) (by omega) ml_X12_145 jJ_X12_within rfl rfl (Nat.le_of_ble_eq_true rfl) ⟨Nat.le_refl _, Nat.le_refl _⟩ ⟨Nat.le_refl _, Nat.le_refl _⟩ ?_
    obtain ⟨rfl, rfl⟩ := oRes h
    exact oe_iret (pc := 9) d_X12_isShelf_9 ⟨_, rfl, rfl⟩
  | false =>
    replace h := oCf h
    refine oe_callS (pc := 6) d_X12_isShelf_6 (v_X12_within hK  q3) (by omega) ml_X12_145 jJ_X12_within rfl rfl (Nat.le_of_ble_eq_true rfl) ⟨Nat.le_refl _, Nat.le_refl _⟩ ⟨Nat.le_refl _, Nat.le_refl _⟩ ?_
    obtain ⟨rfl, rfl⟩ := oRes h
    exact oe_iret (pc := 9) d_X12_isShelf_9 ⟨_, rfl, rfl⟩
theorem d_X12_parts_0 : decode J_X12_parts.2.1 0 = .ok (.aload_n 0, 1) := by decide +kernel
theorem d_X12_parts_1 : decode J_X12_parts.2.1 1 = .ok (.iload_n 1, 1) := by decide +kernel
theorem d_X12_parts_2 : decode J_X12_parts.2.1 2 = .ok (.invokevirtual 230, 3) := by decide +kernel
theorem d_X12_parts_5 : decode J_X12_parts.2.1 5 = .ok (.ifCond .eq 23, 3) := by decide +kernel
theorem d_X12_parts_8 : decode J_X12_parts.2.1 8 = .ok (.iload_n 2, 1) := by decide +kernel
theorem d_X12_parts_9 : decode J_X12_parts.2.1 9 = .ok (.invokestatic 237, 3) := by decide +kernel
theorem d_X12_parts_12 : decode J_X12_parts.2.1 12 = .ok (.ifCond .eq 16, 3) := by decide +kernel
theorem d_X12_parts_15 : decode J_X12_parts.2.1 15 = .ok (.iload 4, 2) := by decide +kernel
theorem d_X12_parts_17 : decode J_X12_parts.2.1 17 = .ok (.i2l, 1) := by decide +kernel
theorem d_X12_parts_18 : decode J_X12_parts.2.1 18 = .ok (.lconst 1, 1) := by decide +kernel
theorem d_X12_parts_19 : decode J_X12_parts.2.1 19 = .ok (.ldc2_w 240, 3) := by decide +kernel
theorem d_X12_parts_22 : decode J_X12_parts.2.1 22 = .ok (.invokestatic 145, 3) := by decide +kernel
theorem d_X12_parts_25 : decode J_X12_parts.2.1 25 = .ok (.ifCond .ne 5, 3) := by decide +kernel
theorem d_X12_parts_28 : decode J_X12_parts.2.1 28 = .ok (.iconst (-1), 1) := by decide +kernel
theorem d_X12_parts_29 : decode J_X12_parts.2.1 29 = .ok (.ireturn, 1) := by decide +kernel
theorem d_X12_parts_30 : decode J_X12_parts.2.1 30 = .ok (.aload_n 0, 1) := by decide +kernel
theorem d_X12_parts_31 : decode J_X12_parts.2.1 31 = .ok (.getfield 122, 3) := by decide +kernel
theorem d_X12_parts_34 : decode J_X12_parts.2.1 34 = .ok (.iload_n 2, 1) := by decide +kernel
theorem d_X12_parts_35 : decode J_X12_parts.2.1 35 = .ok (.iaload, 1) := by decide +kernel
theorem d_X12_parts_36 : decode J_X12_parts.2.1 36 = .ok (.ifCond .lt 17, 3) := by decide +kernel
theorem d_X12_parts_39 : decode J_X12_parts.2.1 39 = .ok (.aload_n 0, 1) := by decide +kernel
theorem d_X12_parts_40 : decode J_X12_parts.2.1 40 = .ok (.getfield 122, 3) := by decide +kernel
theorem d_X12_parts_43 : decode J_X12_parts.2.1 43 = .ok (.iload_n 2, 1) := by decide +kernel
theorem d_X12_parts_44 : decode J_X12_parts.2.1 44 = .ok (.iaload, 1) := by decide +kernel
theorem d_X12_parts_45 : decode J_X12_parts.2.1 45 = .ok (.bipush 20, 2) := by decide +kernel
theorem d_X12_parts_47 : decode J_X12_parts.2.1 47 = .ok (.if_icmp .eq 6, 3) := by decide +kernel
theorem d_X12_parts_50 : decode J_X12_parts.2.1 50 = .ok (.bipush (-12), 2) := by decide +kernel
theorem d_X12_parts_52 : decode J_X12_parts.2.1 52 = .ok (.ireturn, 1) := by decide +kernel
theorem d_X12_parts_53 : decode J_X12_parts.2.1 53 = .ok (.iconst 0, 1) := by decide +kernel
theorem d_X12_parts_54 : decode J_X12_parts.2.1 54 = .ok (.istore 5, 2) := by decide +kernel
theorem d_X12_parts_56 : decode J_X12_parts.2.1 56 = .ok (.aload_n 0, 1) := by decide +kernel
theorem d_X12_parts_57 : decode J_X12_parts.2.1 57 = .ok (.getfield 122, 3) := by decide +kernel
theorem d_X12_parts_60 : decode J_X12_parts.2.1 60 = .ok (.iload_n 2, 1) := by decide +kernel
theorem d_X12_parts_61 : decode J_X12_parts.2.1 61 = .ok (.iaload, 1) := by decide +kernel
theorem d_X12_parts_62 : decode J_X12_parts.2.1 62 = .ok (.bipush 20, 2) := by decide +kernel
theorem d_X12_parts_64 : decode J_X12_parts.2.1 64 = .ok (.if_icmp .ne 11, 3) := by decide +kernel
theorem d_X12_parts_67 : decode J_X12_parts.2.1 67 = .ok (.iload_n 3, 1) := by decide +kernel
theorem d_X12_parts_68 : decode J_X12_parts.2.1 68 = .ok (.ifCond .lt 7, 3) := by decide +kernel
theorem d_X12_parts_71 : decode J_X12_parts.2.1 71 = .ok (.iconst 1, 1) := by decide +kernel
theorem d_X12_parts_72 : decode J_X12_parts.2.1 72 = .ok (.goto 4, 3) := by decide +kernel
theorem d_X12_parts_75 : decode J_X12_parts.2.1 75 = .ok (.iconst 0, 1) := by decide +kernel
theorem d_X12_parts_76 : decode J_X12_parts.2.1 76 = .ok (.istore 6, 2) := by decide +kernel
theorem d_X12_parts_78 : decode J_X12_parts.2.1 78 = .ok (.iload 6, 2) := by decide +kernel
theorem d_X12_parts_80 : decode J_X12_parts.2.1 80 = .ok (.ifCond .eq 101, 3) := by decide +kernel
theorem d_X12_parts_83 : decode J_X12_parts.2.1 83 = .ok (.iload 5, 2) := by decide +kernel
theorem d_X12_parts_85 : decode J_X12_parts.2.1 85 = .ok (.iload 4, 2) := by decide +kernel
theorem d_X12_parts_87 : decode J_X12_parts.2.1 87 = .ok (.if_icmp .ge 94, 3) := by decide +kernel
theorem d_X12_parts_90 : decode J_X12_parts.2.1 90 = .ok (.bipush 60, 2) := by decide +kernel
theorem d_X12_parts_92 : decode J_X12_parts.2.1 92 = .ok (.iload_n 2, 1) := by decide +kernel
theorem d_X12_parts_93 : decode J_X12_parts.2.1 93 = .ok (.imul, 1) := by decide +kernel
theorem d_X12_parts_94 : decode J_X12_parts.2.1 94 = .ok (.iload_n 3, 1) := by decide +kernel
theorem d_X12_parts_95 : decode J_X12_parts.2.1 95 = .ok (.iadd, 1) := by decide +kernel
theorem d_X12_parts_96 : decode J_X12_parts.2.1 96 = .ok (.iconst 3, 1) := by decide +kernel
theorem d_X12_parts_97 : decode J_X12_parts.2.1 97 = .ok (.iload 5, 2) := by decide +kernel
theorem d_X12_parts_99 : decode J_X12_parts.2.1 99 = .ok (.imul, 1) := by decide +kernel
theorem d_X12_parts_100 : decode J_X12_parts.2.1 100 = .ok (.iadd, 1) := by decide +kernel
theorem d_X12_parts_101 : decode J_X12_parts.2.1 101 = .ok (.istore 7, 2) := by decide +kernel
theorem d_X12_parts_103 : decode J_X12_parts.2.1 103 = .ok (.iload_n 3, 1) := by decide +kernel
theorem d_X12_parts_104 : decode J_X12_parts.2.1 104 = .ok (.aload_n 0, 1) := by decide +kernel
theorem d_X12_parts_105 : decode J_X12_parts.2.1 105 = .ok (.getfield 125, 3) := by decide +kernel
theorem d_X12_parts_108 : decode J_X12_parts.2.1 108 = .ok (.iload_n 2, 1) := by decide +kernel
theorem d_X12_parts_109 : decode J_X12_parts.2.1 109 = .ok (.iaload, 1) := by decide +kernel
theorem d_X12_parts_110 : decode J_X12_parts.2.1 110 = .ok (.iconst 3, 1) := by decide +kernel
theorem d_X12_parts_111 : decode J_X12_parts.2.1 111 = .ok (.isub, 1) := by decide +kernel
theorem d_X12_parts_112 : decode J_X12_parts.2.1 112 = .ok (.iconst 3, 1) := by decide +kernel
theorem d_X12_parts_113 : decode J_X12_parts.2.1 113 = .ok (.iload 5, 2) := by decide +kernel
theorem d_X12_parts_115 : decode J_X12_parts.2.1 115 = .ok (.imul, 1) := by decide +kernel
theorem d_X12_parts_116 : decode J_X12_parts.2.1 116 = .ok (.isub, 1) := by decide +kernel
theorem d_X12_parts_117 : decode J_X12_parts.2.1 117 = .ok (.if_icmp .gt 43, 3) := by decide +kernel
theorem d_X12_parts_120 : decode J_X12_parts.2.1 120 = .ok (.aload_n 0, 1) := by decide +kernel
theorem d_X12_parts_121 : decode J_X12_parts.2.1 121 = .ok (.iload_n 1, 1) := by decide +kernel
theorem d_X12_parts_122 : decode J_X12_parts.2.1 122 = .ok (.aload_n 0, 1) := by decide +kernel
theorem d_X12_parts_123 : decode J_X12_parts.2.1 123 = .ok (.getfield 128, 3) := by decide +kernel
theorem d_X12_parts_126 : decode J_X12_parts.2.1 126 = .ok (.iload 7, 2) := by decide +kernel
theorem d_X12_parts_128 : decode J_X12_parts.2.1 128 = .ok (.laload, 1) := by decide +kernel
theorem d_X12_parts_129 : decode J_X12_parts.2.1 129 = .ok (.l2i, 1) := by decide +kernel
theorem d_X12_parts_130 : decode J_X12_parts.2.1 130 = .ok (.aload_n 0, 1) := by decide +kernel
theorem d_X12_parts_131 : decode J_X12_parts.2.1 131 = .ok (.getfield 128, 3) := by decide +kernel
theorem d_X12_parts_134 : decode J_X12_parts.2.1 134 = .ok (.iload 7, 2) := by decide +kernel
theorem d_X12_parts_136 : decode J_X12_parts.2.1 136 = .ok (.iconst 1, 1) := by decide +kernel
theorem d_X12_parts_137 : decode J_X12_parts.2.1 137 = .ok (.iadd, 1) := by decide +kernel
theorem d_X12_parts_138 : decode J_X12_parts.2.1 138 = .ok (.laload, 1) := by decide +kernel
theorem d_X12_parts_139 : decode J_X12_parts.2.1 139 = .ok (.l2i, 1) := by decide +kernel
theorem d_X12_parts_140 : decode J_X12_parts.2.1 140 = .ok (.aload_n 0, 1) := by decide +kernel
theorem d_X12_parts_141 : decode J_X12_parts.2.1 141 = .ok (.getfield 128, 3) := by decide +kernel
theorem d_X12_parts_144 : decode J_X12_parts.2.1 144 = .ok (.iload 7, 2) := by decide +kernel
theorem d_X12_parts_146 : decode J_X12_parts.2.1 146 = .ok (.iconst 2, 1) := by decide +kernel
theorem d_X12_parts_147 : decode J_X12_parts.2.1 147 = .ok (.iadd, 1) := by decide +kernel
theorem d_X12_parts_148 : decode J_X12_parts.2.1 148 = .ok (.laload, 1) := by decide +kernel
theorem d_X12_parts_149 : decode J_X12_parts.2.1 149 = .ok (.l2i, 1) := by decide +kernel
theorem d_X12_parts_150 : decode J_X12_parts.2.1 150 = .ok (.invokevirtual 242, 3) := by decide +kernel
theorem d_X12_parts_153 : decode J_X12_parts.2.1 153 = .ok (.ifCond .le 7, 3) := by decide +kernel
theorem d_X12_parts_156 : decode J_X12_parts.2.1 156 = .ok (.iconst 1, 1) := by decide +kernel
theorem d_X12_parts_157 : decode J_X12_parts.2.1 157 = .ok (.goto 4, 3) := by decide +kernel
theorem d_X12_parts_160 : decode J_X12_parts.2.1 160 = .ok (.iconst 0, 1) := by decide +kernel
theorem d_X12_parts_161 : decode J_X12_parts.2.1 161 = .ok (.istore 6, 2) := by decide +kernel
theorem d_X12_parts_163 : decode J_X12_parts.2.1 163 = .ok (.iload 5, 2) := by decide +kernel
theorem d_X12_parts_165 : decode J_X12_parts.2.1 165 = .ok (.iload 6, 2) := by decide +kernel
theorem d_X12_parts_167 : decode J_X12_parts.2.1 167 = .ok (.ifCond .eq 7, 3) := by decide +kernel
theorem d_X12_parts_170 : decode J_X12_parts.2.1 170 = .ok (.iconst 1, 1) := by decide +kernel
theorem d_X12_parts_171 : decode J_X12_parts.2.1 171 = .ok (.goto 4, 3) := by decide +kernel
theorem d_X12_parts_174 : decode J_X12_parts.2.1 174 = .ok (.iconst 0, 1) := by decide +kernel
theorem d_X12_parts_175 : decode J_X12_parts.2.1 175 = .ok (.iadd, 1) := by decide +kernel
theorem d_X12_parts_176 : decode J_X12_parts.2.1 176 = .ok (.istore 5, 2) := by decide +kernel
theorem d_X12_parts_178 : decode J_X12_parts.2.1 178 = .ok (.goto (-100), 3) := by decide +kernel
theorem d_X12_parts_181 : decode J_X12_parts.2.1 181 = .ok (.iload 5, 2) := by decide +kernel
theorem d_X12_parts_183 : decode J_X12_parts.2.1 183 = .ok (.ireturn, 1) := by decide +kernel
def f_X12_parts_175 (N : Nat) (K : oK) (r78 : (Int32 → Int32 → Int32 → Int32 → Int32 → Int32 → oM → Option (Int32 × oM))) (p1 : Int32) (p2 : Int32) (p3 : Int32) (p4 : Int32) (p6 : Int32) (s0 : Int32) (s1 : Int32) (M : oM) : Option (Int32 × oM) :=
  (r78 p1 p2 p3 p4 (s1 + s0) p6 M)
set_option maxRecDepth 20000 in
theorem v_X12_parts_175 {X : oX} {d N : Nat} {K : oK} {r78 : (Int32 → Int32 → Int32 → Int32 → Int32 → Int32 → oM → Option (Int32 × oM))} {p1 : Int32} {p2 : Int32} {p3 : Int32} {p4 : Int32} {p6 : Int32} {s0 : Int32} {s1 : Int32} {M : oM} {v : Int32} {M' : oM}  (hd : 5 ≤ d) (hK : oSR K)  (hr78 : ∀ (p1 : Int32) (p2 : Int32) (p3 : Int32) (p4 : Int32) (p5 : Int32) (p6 : Int32) (M : oM) (v : Int32) (M' : oM) , r78 p1 p2 p3 p4 p5 p6 M = some (v, M') → oEv X d J_X12_parts 78 [some (.ref 59), some (.int p1), some (.int p2), some (.int p3), some (.int p4), some (.int p5), some (.int p6), none] [] K M (some (.int v)) K M') (h : f_X12_parts_175 N K r78 p1 p2 p3 p4 p6 s0 s1 M = some (v, M')) : oEv X d J_X12_parts 175 [some (.ref 59), some (.int p1), some (.int p2), some (.int p3), some (.int p4), none, some (.int p6), none] [(.int s0), (.int s1)] K M (some (.int v)) K M' := by
  unfold f_X12_parts_175 at h
  refine oe_iadd (pc := 175) d_X12_parts_175 ?_
  refine oe_istore (pc := 176) (L2 := [_, _, _, _, _, _, _, _]) d_X12_parts_176 rfl (Nat.le_of_ble_eq_true rfl) rfl ?_
  refine oe_goto (pc := 178) (tgt := 78) d_X12_parts_178 (by decide) ?_
  exact hr78 _ _ _ _ _ _ _ _ _ h
def f_X12_parts_161 (N : Nat) (K : oK) (r78 : (Int32 → Int32 → Int32 → Int32 → Int32 → Int32 → oM → Option (Int32 × oM))) (p1 : Int32) (p2 : Int32) (p3 : Int32) (p4 : Int32) (p5 : Int32) (s0 : Int32) (M : oM) : Option (Int32 × oM) :=
  (if s0 = 0 then (f_X12_parts_175 N K r78 p1 p2 p3 p4 s0 0 p5 M) else (f_X12_parts_175 N K r78 p1 p2 p3 p4 s0 1 p5 M))
set_option maxRecDepth 20000 in
theorem v_X12_parts_161 {X : oX} {d N : Nat} {K : oK} {r78 : (Int32 → Int32 → Int32 → Int32 → Int32 → Int32 → oM → Option (Int32 × oM))} {p1 : Int32} {p2 : Int32} {p3 : Int32} {p4 : Int32} {p5 : Int32} {s0 : Int32} {M : oM} {v : Int32} {M' : oM}  (hd : 5 ≤ d) (hK : oSR K)  (hr78 : ∀ (p1 : Int32) (p2 : Int32) (p3 : Int32) (p4 : Int32) (p5 : Int32) (p6 : Int32) (M : oM) (v : Int32) (M' : oM) , r78 p1 p2 p3 p4 p5 p6 M = some (v, M') → oEv X d J_X12_parts 78 [some (.ref 59), some (.int p1), some (.int p2), some (.int p3), some (.int p4), some (.int p5), some (.int p6), none] [] K M (some (.int v)) K M') (h : f_X12_parts_161 N K r78 p1 p2 p3 p4 p5 s0 M = some (v, M')) : oEv X d J_X12_parts 161 [some (.ref 59), some (.int p1), some (.int p2), some (.int p3), some (.int p4), some (.int p5), none, none] [(.int s0)] K M (some (.int v)) K M' := by
  unfold f_X12_parts_161 at h
  refine oe_istore (pc := 161) (L2 := [_, _, _, _, _, _, _, _]) d_X12_parts_161 rfl (Nat.le_of_ble_eq_true rfl) rfl ?_
  refine oe_iload (pc := 163) d_X12_parts_163 rfl ?_
  refine oe_iload (pc := 165) d_X12_parts_165 rfl ?_
  refine oe_if_eq (pc := 167) (tgt := 174) d_X12_parts_167 (by decide) (fun c18 => ?_) (fun c18 => ?_)
  · replace h := (if_pos c18).symm.trans h
    refine oe_iconst (pc := 174) (v := 0) d_X12_parts_174 rfl ?_
    refine oEv.fg [true, true, true, true, true, false, true, false] ?_
    exact v_X12_parts_175 hd hK  hr78 h
  · replace h := (if_neg c18).symm.trans h
    refine oe_iconst (pc := 170) (v := 1) d_X12_parts_170 rfl ?_
    refine oe_goto (pc := 171) (tgt := 175) d_X12_parts_171 (by decide) ?_
    refine oEv.fg [true, true, true, true, true, false, true, false] ?_
    exact v_X12_parts_175 hd hK  hr78 h
def f_X12_parts_160 (N : Nat) (K : oK) (r78 : (Int32 → Int32 → Int32 → Int32 → Int32 → Int32 → oM → Option (Int32 × oM))) (p1 : Int32) (p2 : Int32) (p3 : Int32) (p4 : Int32) (p5 : Int32) (M : oM) : Option (Int32 × oM) :=
  (f_X12_parts_161 N K r78 p1 p2 p3 p4 p5 0 M)
set_option maxRecDepth 20000 in
theorem v_X12_parts_160 {X : oX} {d N : Nat} {K : oK} {r78 : (Int32 → Int32 → Int32 → Int32 → Int32 → Int32 → oM → Option (Int32 × oM))} {p1 : Int32} {p2 : Int32} {p3 : Int32} {p4 : Int32} {p5 : Int32} {M : oM} {v : Int32} {M' : oM}  (hd : 5 ≤ d) (hK : oSR K)  (hr78 : ∀ (p1 : Int32) (p2 : Int32) (p3 : Int32) (p4 : Int32) (p5 : Int32) (p6 : Int32) (M : oM) (v : Int32) (M' : oM) , r78 p1 p2 p3 p4 p5 p6 M = some (v, M') → oEv X d J_X12_parts 78 [some (.ref 59), some (.int p1), some (.int p2), some (.int p3), some (.int p4), some (.int p5), some (.int p6), none] [] K M (some (.int v)) K M') (h : f_X12_parts_160 N K r78 p1 p2 p3 p4 p5 M = some (v, M')) : oEv X d J_X12_parts 160 [some (.ref 59), some (.int p1), some (.int p2), some (.int p3), some (.int p4), some (.int p5), none, none] [] K M (some (.int v)) K M' := by
  unfold f_X12_parts_160 at h
  refine oe_iconst (pc := 160) (v := 0) d_X12_parts_160 rfl ?_
  exact v_X12_parts_161 hd hK  hr78 h
def f_X12_parts_78 (N : Nat) (K : oK)  : Nat → Int32 → Int32 → Int32 → Int32 → Int32 → Int32 → oM → Option (Int32 × oM)
  | 0, _, _, _, _, _, _, _ => none
  | n + 1, p1, p2, p3, p4, p5, p6, M => (fun r78 => (if p6 = 0 then some (p5, M) else (if p4 ≤ p5 then some (p5, M) else oIx (p2) 6 ((if (((M.1 98 (p2 : Int32).toNatClampNeg) - 3) - ((3 : Int32) * p5)) < p3 then (f_X12_parts_160 N K r78 p1 p2 p3 p4 p5 M) else oIx (((((60 : Int32) * p2) + p3) + ((3 : Int32) * p5))) 360 (oIx ((((((60 : Int32) * p2) + p3) + ((3 : Int32) * p5)) + 1)) 360 (oIx ((((((60 : Int32) * p2) + p3) + ((3 : Int32) * p5)) + 2)) 360 (oB2 (f_X12_part N K p1 (((M.2 99 (((((60 : Int32) * p2) + p3) + ((3 : Int32) * p5)) : Int32).toNatClampNeg) : Int64).toInt32) (((M.2 99 ((((((60 : Int32) * p2) + p3) + ((3 : Int32) * p5)) + 1) : Int32).toNatClampNeg) : Int64).toInt32) (((M.2 99 ((((((60 : Int32) * p2) + p3) + ((3 : Int32) * p5)) + 2) : Int32).toNatClampNeg) : Int64).toInt32) M) (fun v22 M23 => (if v22 ≤ 0 then (f_X12_parts_160 N K r78 p1 p2 p3 p4 p5 M23) else (f_X12_parts_161 N K r78 p1 p2 p3 p4 p5 1 M23))))))))))) (f_X12_parts_78 N K  n)
set_option maxRecDepth 20000 in
theorem v_X12_parts_78_L {X : oX} {d N : Nat} {K : oK}  (hd : 5 ≤ d) (hK : oSR K)  : ∀ (n : Nat) (p1 : Int32) (p2 : Int32) (p3 : Int32) (p4 : Int32) (p5 : Int32) (p6 : Int32) (M : oM) (v : Int32) (M' : oM)  , f_X12_parts_78 N K  n p1 p2 p3 p4 p5 p6 M = some (v, M') → oEv X d J_X12_parts 78 [some (.ref 59), some (.int p1), some (.int p2), some (.int p3), some (.int p4), some (.int p5), some (.int p6), none] [] K M (some (.int v)) K M' := by
  intro n
  induction n with
  | zero =>
    intro p1 p2 p3 p4 p5 p6 M v M'   h
    cases h
  | succ n hr78 =>
    intro p1 p2 p3 p4 p5 p6 M v M'   h
    refine oe_iload (pc := 78) d_X12_parts_78 rfl ?_
    refine oe_if_eq (pc := 80) (tgt := 181) d_X12_parts_80 (by decide) (fun c14 => ?_) (fun c14 => ?_)
    · replace h := (if_pos c14).symm.trans h
      refine oe_iload (pc := 181) d_X12_parts_181 rfl ?_
      obtain ⟨rfl, rfl⟩ := oRes h
      exact oe_iret (pc := 183) d_X12_parts_183 ⟨_, rfl, rfl⟩
    · replace h := (if_neg c14).symm.trans h
      refine oe_iload (pc := 83) d_X12_parts_83 rfl ?_
      refine oe_iload (pc := 85) d_X12_parts_85 rfl ?_
      refine oe_icmp_ge (pc := 87) (tgt := 181) d_X12_parts_87 (by decide) (fun c15 => ?_) (fun c15 => ?_)
      · replace h := (if_pos c15).symm.trans h
        refine oe_iload (pc := 181) d_X12_parts_181 rfl ?_
        obtain ⟨rfl, rfl⟩ := oRes h
        exact oe_iret (pc := 183) d_X12_parts_183 ⟨_, rfl, rfl⟩
      · replace h := (if_neg c15).symm.trans h
        refine oe_bipush (pc := 90) (v := 60) d_X12_parts_90 rfl ?_
        refine oe_iload_n (pc := 92) d_X12_parts_92 rfl ?_
        refine oe_imul (pc := 93) d_X12_parts_93 ?_
        refine oe_iload_n (pc := 94) d_X12_parts_94 rfl ?_
        refine oe_iadd (pc := 95) d_X12_parts_95 ?_
        refine oe_iconst (pc := 96) (v := 3) d_X12_parts_96 rfl ?_
        refine oe_iload (pc := 97) d_X12_parts_97 rfl ?_
        refine oe_imul (pc := 99) d_X12_parts_99 ?_
        refine oe_iadd (pc := 100) d_X12_parts_100 ?_
        refine oe_istore (pc := 101) (L2 := [_, _, _, _, _, _, _, _]) d_X12_parts_101 rfl (Nat.le_of_ble_eq_true rfl) rfl ?_
        refine oe_iload_n (pc := 103) d_X12_parts_103 rfl ?_
        refine oe_aload_n (pc := 104) d_X12_parts_104 rfl ?_
        refine oe_getr (pc := 105) d_X12_parts_105 fl_X12_125 ock12 (k := 63) (b := 98) (Nat.le_of_ble_eq_true rfl) (by decide) (oLt hK (a := 59) (Nat.le_of_ble_eq_true rfl)) (oSho hK (a := 59) (Nat.le_of_ble_eq_true rfl) rfl) (oRfK hK rfl) ?_
        refine oe_iload_n (pc := 108) d_X12_parts_108 rfl ?_
        obtain ⟨i16, h⟩ := oIx_some h
        refine oe_iald (pc := 109) d_X12_parts_109 (oLt hK (a := 98) (Nat.le_of_ble_eq_true rfl)) (oSha hK (a := 98) (Nat.le_of_ble_eq_true rfl) rfl) i16 ?_
        refine oe_iconst (pc := 110) (v := 3) d_X12_parts_110 rfl ?_
        refine oe_isub (pc := 111) d_X12_parts_111 ?_
        refine oe_iconst (pc := 112) (v := 3) d_X12_parts_112 rfl ?_
        refine oe_iload (pc := 113) d_X12_parts_113 rfl ?_
        refine oe_imul (pc := 115) d_X12_parts_115 ?_
        refine oe_isub (pc := 116) d_X12_parts_116 ?_
        refine oe_icmp_gt (pc := 117) (tgt := 160) d_X12_parts_117 (by decide) (fun c17 => ?_) (fun c17 => ?_)
        · replace h := (if_pos c17).symm.trans h
          refine oEv.fg [true, true, true, true, true, true, false, false] ?_
          exact v_X12_parts_160 hd hK  hr78 h
        · replace h := (if_neg c17).symm.trans h
          refine oe_aload_n (pc := 120) d_X12_parts_120 rfl ?_
          refine oe_iload_n (pc := 121) d_X12_parts_121 rfl ?_
          refine oe_aload_n (pc := 122) d_X12_parts_122 rfl ?_
          refine oe_getr (pc := 123) d_X12_parts_123 fl_X12_128 ock12 (k := 64) (b := 99) (Nat.le_of_ble_eq_true rfl) (by decide) (oLt hK (a := 59) (Nat.le_of_ble_eq_true rfl)) (oSho hK (a := 59) (Nat.le_of_ble_eq_true rfl) rfl) (oRfK hK rfl) ?_
          refine oe_iload (pc := 126) d_X12_parts_126 rfl ?_
          obtain ⟨i19, h⟩ := oIx_some h
          refine oe_lald (pc := 128) d_X12_parts_128 (oLt hK (a := 99) (Nat.le_of_ble_eq_true rfl)) (oSha hK (a := 99) (Nat.le_of_ble_eq_true rfl) rfl) i19 ?_
          refine oe_l2i (pc := 129) d_X12_parts_129 ?_
          refine oe_aload_n (pc := 130) d_X12_parts_130 rfl ?_
          refine oe_getr (pc := 131) d_X12_parts_131 fl_X12_128 ock12 (k := 64) (b := 99) (Nat.le_of_ble_eq_true rfl) (by decide) (oLt hK (a := 59) (Nat.le_of_ble_eq_true rfl)) (oSho hK (a := 59) (Nat.le_of_ble_eq_true rfl) rfl) (oRfK hK rfl) ?_
          refine oe_iload (pc := 134) d_X12_parts_134 rfl ?_
          refine oe_iconst (pc := 136) (v := 1) d_X12_parts_136 rfl ?_
          refine oe_iadd (pc := 137) d_X12_parts_137 ?_
          obtain ⟨i20, h⟩ := oIx_some h
          refine oe_lald (pc := 138) d_X12_parts_138 (oLt hK (a := 99) (Nat.le_of_ble_eq_true rfl)) (oSha hK (a := 99) (Nat.le_of_ble_eq_true rfl) rfl) i20 ?_
          refine oe_l2i (pc := 139) d_X12_parts_139 ?_
          refine oe_aload_n (pc := 140) d_X12_parts_140 rfl ?_
          refine oe_getr (pc := 141) d_X12_parts_141 fl_X12_128 ock12 (k := 64) (b := 99) (Nat.le_of_ble_eq_true rfl) (by decide) (oLt hK (a := 59) (Nat.le_of_ble_eq_true rfl)) (oSho hK (a := 59) (Nat.le_of_ble_eq_true rfl) rfl) (oRfK hK rfl) ?_
          refine oe_iload (pc := 144) d_X12_parts_144 rfl ?_
          refine oe_iconst (pc := 146) (v := 2) d_X12_parts_146 rfl ?_
          refine oe_iadd (pc := 147) d_X12_parts_147 ?_
          obtain ⟨i21, h⟩ := oIx_some h
          refine oe_lald (pc := 148) d_X12_parts_148 (oLt hK (a := 99) (Nat.le_of_ble_eq_true rfl)) (oSha hK (a := 99) (Nat.le_of_ble_eq_true rfl) rfl) i21 ?_
          refine oe_l2i (pc := 149) d_X12_parts_149 ?_
          obtain ⟨v22, M23, q24, h⟩ := oB2_some h
          refine oe_callV (pc := 150) (ci := 12) d_X12_parts_150 (v_X12_part hK  q24) (by omega) ml_X12_242 jJ_X12_part rfl rfl (oLt hK (a := 59) (Nat.le_of_ble_eq_true rfl)) (oSho hK (a := 59) (Nat.le_of_ble_eq_true rfl) rfl) ock12 rfl (Nat.le_of_ble_eq_true rfl) ⟨Nat.le_refl _, Nat.le_refl _⟩ ⟨Nat.le_refl _, Nat.le_refl _⟩ ?_
          refine oe_if_le (pc := 153) (tgt := 160) d_X12_parts_153 (by decide) (fun c25 => ?_) (fun c25 => ?_)
          · replace h := (if_pos c25).symm.trans h
            refine oEv.fg [true, true, true, true, true, true, false, false] ?_
            exact v_X12_parts_160 hd hK  hr78 h
          · replace h := (if_neg c25).symm.trans h
            refine oe_iconst (pc := 156) (v := 1) d_X12_parts_156 rfl ?_
            refine oe_goto (pc := 157) (tgt := 161) d_X12_parts_157 (by decide) ?_
            refine oEv.fg [true, true, true, true, true, true, false, false] ?_
            exact v_X12_parts_161 hd hK  hr78 h
theorem v_X12_parts_78 {X : oX} {d N : Nat} {K : oK}  {p1 : Int32} {p2 : Int32} {p3 : Int32} {p4 : Int32} {p5 : Int32} {p6 : Int32} {M : oM} {v : Int32} {M' : oM}  (hd : 5 ≤ d) (hK : oSR K)   (h : f_X12_parts_78 N K  N p1 p2 p3 p4 p5 p6 M = some (v, M')) : oEv X d J_X12_parts 78 [some (.ref 59), some (.int p1), some (.int p2), some (.int p3), some (.int p4), some (.int p5), some (.int p6), none] [] K M (some (.int v)) K M' := v_X12_parts_78_L hd hK  N p1 p2 p3 p4 p5 p6 M v M'   h
def f_X12_parts_76 (N : Nat) (K : oK)  (p1 : Int32) (p2 : Int32) (p3 : Int32) (p4 : Int32) (p5 : Int32) (s0 : Int32) (M : oM) : Option (Int32 × oM) :=
  (f_X12_parts_78 N K  N p1 p2 p3 p4 p5 s0 M)
set_option maxRecDepth 20000 in
theorem v_X12_parts_76 {X : oX} {d N : Nat} {K : oK}  {p1 : Int32} {p2 : Int32} {p3 : Int32} {p4 : Int32} {p5 : Int32} {s0 : Int32} {M : oM} {v : Int32} {M' : oM}  (hd : 5 ≤ d) (hK : oSR K)   (h : f_X12_parts_76 N K  p1 p2 p3 p4 p5 s0 M = some (v, M')) : oEv X d J_X12_parts 76 [some (.ref 59), some (.int p1), some (.int p2), some (.int p3), some (.int p4), some (.int p5), none, none] [(.int s0)] K M (some (.int v)) K M' := by
  unfold f_X12_parts_76 at h
  refine oe_istore (pc := 76) (L2 := [_, _, _, _, _, _, _, _]) d_X12_parts_76 rfl (Nat.le_of_ble_eq_true rfl) rfl ?_
  exact v_X12_parts_78 hd hK   h
def f_X12_parts_75 (N : Nat) (K : oK)  (p1 : Int32) (p2 : Int32) (p3 : Int32) (p4 : Int32) (p5 : Int32) (M : oM) : Option (Int32 × oM) :=
  (f_X12_parts_76 N K  p1 p2 p3 p4 p5 0 M)
set_option maxRecDepth 20000 in
theorem v_X12_parts_75 {X : oX} {d N : Nat} {K : oK}  {p1 : Int32} {p2 : Int32} {p3 : Int32} {p4 : Int32} {p5 : Int32} {M : oM} {v : Int32} {M' : oM}  (hd : 5 ≤ d) (hK : oSR K)   (h : f_X12_parts_75 N K  p1 p2 p3 p4 p5 M = some (v, M')) : oEv X d J_X12_parts 75 [some (.ref 59), some (.int p1), some (.int p2), some (.int p3), some (.int p4), some (.int p5), none, none] [] K M (some (.int v)) K M' := by
  unfold f_X12_parts_75 at h
  refine oe_iconst (pc := 75) (v := 0) d_X12_parts_75 rfl ?_
  exact v_X12_parts_76 hd hK   h
def f_X12_parts_53 (N : Nat) (K : oK)  (p1 : Int32) (p2 : Int32) (p3 : Int32) (p4 : Int32) (M : oM) : Option (Int32 × oM) :=
  oIx (p2) 6 ((if (M.1 97 (p2 : Int32).toNatClampNeg) = 20 then (if p3 < 0 then (f_X12_parts_75 N K  p1 p2 p3 p4 0 M) else (f_X12_parts_76 N K  p1 p2 p3 p4 0 1 M)) else (f_X12_parts_75 N K  p1 p2 p3 p4 0 M)))
set_option maxRecDepth 20000 in
theorem v_X12_parts_53 {X : oX} {d N : Nat} {K : oK}  {p1 : Int32} {p2 : Int32} {p3 : Int32} {p4 : Int32} {M : oM} {v : Int32} {M' : oM}  (hd : 5 ≤ d) (hK : oSR K)   (h : f_X12_parts_53 N K  p1 p2 p3 p4 M = some (v, M')) : oEv X d J_X12_parts 53 [some (.ref 59), some (.int p1), some (.int p2), some (.int p3), some (.int p4), none, none, none] [] K M (some (.int v)) K M' := by
  unfold f_X12_parts_53 at h
  refine oe_iconst (pc := 53) (v := 0) d_X12_parts_53 rfl ?_
  refine oe_istore (pc := 54) (L2 := [_, _, _, _, _, _, _, _]) d_X12_parts_54 rfl (Nat.le_of_ble_eq_true rfl) rfl ?_
  refine oe_aload_n (pc := 56) d_X12_parts_56 rfl ?_
  refine oe_getr (pc := 57) d_X12_parts_57 fl_X12_122 ock12 (k := 62) (b := 97) (Nat.le_of_ble_eq_true rfl) (by decide) (oLt hK (a := 59) (Nat.le_of_ble_eq_true rfl)) (oSho hK (a := 59) (Nat.le_of_ble_eq_true rfl) rfl) (oRfK hK rfl) ?_
  refine oe_iload_n (pc := 60) d_X12_parts_60 rfl ?_
  obtain ⟨i12, h⟩ := oIx_some h
  refine oe_iald (pc := 61) d_X12_parts_61 (oLt hK (a := 97) (Nat.le_of_ble_eq_true rfl)) (oSha hK (a := 97) (Nat.le_of_ble_eq_true rfl) rfl) i12 ?_
  refine oe_bipush (pc := 62) (v := 20) d_X12_parts_62 rfl ?_
  refine oe_icmp_ne (pc := 64) (tgt := 75) d_X12_parts_64 (by decide) (fun c13 => ?_) (fun c13 => ?_)
  · replace h := (if_neg c13).symm.trans h
    exact v_X12_parts_75 hd hK   h
  · replace h := (if_pos c13).symm.trans h
    refine oe_iload_n (pc := 67) d_X12_parts_67 rfl ?_
    refine oe_if_lt (pc := 68) (tgt := 75) d_X12_parts_68 (by decide) (fun c26 => ?_) (fun c26 => ?_)
    · replace h := (if_pos c26).symm.trans h
      exact v_X12_parts_75 hd hK   h
    · replace h := (if_neg c26).symm.trans h
      refine oe_iconst (pc := 71) (v := 1) d_X12_parts_71 rfl ?_
      refine oe_goto (pc := 72) (tgt := 76) d_X12_parts_72 (by decide) ?_
      exact v_X12_parts_76 hd hK   h
def f_X12_parts (N : Nat) (K : oK) (p1 : Int32) (p2 : Int32) (p3 : Int32) (p4 : Int32) (M : oM) : Option (Int32 × oM) :=
  oB2 (f_X12_isLaying N K p1 M) (fun v1 M2 => cond v1 (oB2 (f_X12_isShelf N K p2 M2) (fun v4 M5 => cond v4 (oB2 (f_X12_within N K ((p4 : Int32).toInt64) 1 20 M5) (fun v7 M8 => cond v7 (oIx (p2) 6 ((if (M8.1 97 (p2 : Int32).toNatClampNeg) < 0 then (f_X12_parts_53 N K  p1 p2 p3 p4 M8) else oIx (p2) 6 ((if (M8.1 97 (p2 : Int32).toNatClampNeg) = 20 then (f_X12_parts_53 N K  p1 p2 p3 p4 M8) else some ((-12), M8)))))) (some ((-1), M8)))) (some ((-1), M5)))) (some ((-1), M2)))
set_option maxRecDepth 20000 in
theorem v_X12_parts {X : oX} {N : Nat} {K : oK} {p1 : Int32} {p2 : Int32} {p3 : Int32} {p4 : Int32} {M : oM} {v : Int32} {M' : oM} (hK : oSR K)  (h : f_X12_parts N K p1 p2 p3 p4 M = some (v, M')) : oMet X 5 J_X12_parts [(.ref 59), (.int p1), (.int p2), (.int p3), (.int p4)] K M (some (.int v)) K M' := by
  unfold f_X12_parts at h
  refine oMet_of (L := [some (.ref 59), some (.int p1), some (.int p2), some (.int p3), some (.int p4), none, none, none]) jJ_X12_parts.1 rfl (Nat.le_of_ble_eq_true rfl) rfl (Nat.le_refl _) (Nat.le_refl _) ?_
  have hd : 5 ≤ 5 := Nat.le_refl _
  refine oe_aload_n (pc := 0) d_X12_parts_0 rfl ?_
  refine oe_iload_n (pc := 1) d_X12_parts_1 rfl ?_
  obtain ⟨v1, M2, q3, h⟩ := oB2_some h
  cases v1 with
  | true =>
    replace h := oCt h
    refine oe_callV (pc := 2) (ci := 12) d_X12_parts_2 (v_X12_isLaying hK  q3) (by omega) ml_X12_230 jJ_X12_isLaying rfl rfl (oLt hK (a := 59) (Nat.le_of_ble_eq_true rfl)) (oSho hK (a := 59) (Nat.le_of_ble_eq_true rfl) rfl) ock12 rfl (Nat.le_of_ble_eq_true rfl) ⟨Nat.le_refl _, Nat.le_refl _⟩ ⟨Nat.le_refl _, Nat.le_refl _⟩ ?_
    refine oe_if_eq (pc := 5) (tgt := 28) d_X12_parts_5 (by decide) (fun c => absurd c (by decide)) (fun _ => ?_)
    refine oe_iload_n (pc := 8) d_X12_parts_8 rfl ?_
    obtain ⟨v4, M5, q6, h⟩ := oB2_some h
    cases v4 with
    | true =>
      replace h := oCt h
      refine oe_callS (pc := 9) d_X12_parts_9 (v_X12_isShelf hK  q6) (by omega) ml_X12_237 jJ_X12_isShelf rfl rfl (Nat.le_of_ble_eq_true rfl) ⟨Nat.le_refl _, Nat.le_refl _⟩ ⟨Nat.le_refl _, Nat.le_refl _⟩ ?_
      refine oe_if_eq (pc := 12) (tgt := 28) d_X12_parts_12 (by decide) (fun c => absurd c (by decide)) (fun _ => ?_)
      refine oe_iload (pc := 15) d_X12_parts_15 rfl ?_
      refine oe_i2l (pc := 17) d_X12_parts_17 ?_
      refine oe_lconst (pc := 18) (v := 1) d_X12_parts_18 rfl ?_
      refine oe_ldc2 (pc := 19) d_X12_parts_19 co_X12_240 ?_
      obtain ⟨v7, M8, q9, h⟩ := oB2_some h
      cases v7 with
      | true =>
        replace h := oCt h
        refine oe_callS (pc := 22) d_X12_parts_22 (v_X12_within hK  q9) (by omega) ml_X12_145 jJ_X12_within rfl rfl (Nat.le_of_ble_eq_true rfl) ⟨Nat.le_refl _, Nat.le_refl _⟩ ⟨Nat.le_refl _, Nat.le_refl _⟩ ?_
        refine oe_if_ne (pc := 25) (tgt := 30) d_X12_parts_25 (by decide) (fun _ => ?_) (fun c => absurd c (by decide))
        refine oe_aload_n (pc := 30) d_X12_parts_30 rfl ?_
        refine oe_getr (pc := 31) d_X12_parts_31 fl_X12_122 ock12 (k := 62) (b := 97) (Nat.le_of_ble_eq_true rfl) (by decide) (oLt hK (a := 59) (Nat.le_of_ble_eq_true rfl)) (oSho hK (a := 59) (Nat.le_of_ble_eq_true rfl) rfl) (oRfK hK rfl) ?_
        refine oe_iload_n (pc := 34) d_X12_parts_34 rfl ?_
        obtain ⟨i10, h⟩ := oIx_some h
        refine oe_iald (pc := 35) d_X12_parts_35 (oLt hK (a := 97) (Nat.le_of_ble_eq_true rfl)) (oSha hK (a := 97) (Nat.le_of_ble_eq_true rfl) rfl) i10 ?_
        refine oe_if_lt (pc := 36) (tgt := 53) d_X12_parts_36 (by decide) (fun c11 => ?_) (fun c11 => ?_)
        · replace h := (if_pos c11).symm.trans h
          exact v_X12_parts_53 hd hK   h
        · replace h := (if_neg c11).symm.trans h
          refine oe_aload_n (pc := 39) d_X12_parts_39 rfl ?_
          refine oe_getr (pc := 40) d_X12_parts_40 fl_X12_122 ock12 (k := 62) (b := 97) (Nat.le_of_ble_eq_true rfl) (by decide) (oLt hK (a := 59) (Nat.le_of_ble_eq_true rfl)) (oSho hK (a := 59) (Nat.le_of_ble_eq_true rfl) rfl) (oRfK hK rfl) ?_
          refine oe_iload_n (pc := 43) d_X12_parts_43 rfl ?_
          obtain ⟨i27, h⟩ := oIx_some h
          refine oe_iald (pc := 44) d_X12_parts_44 (oLt hK (a := 97) (Nat.le_of_ble_eq_true rfl)) (oSha hK (a := 97) (Nat.le_of_ble_eq_true rfl) rfl) i27 ?_
          refine oe_bipush (pc := 45) (v := 20) d_X12_parts_45 rfl ?_
          refine oe_icmp_eq (pc := 47) (tgt := 53) d_X12_parts_47 (by decide) (fun c28 => ?_) (fun c28 => ?_)
          · replace h := (if_pos c28).symm.trans h
            exact v_X12_parts_53 hd hK   h
          · replace h := (if_neg c28).symm.trans h
            refine oe_bipush (pc := 50) (v := (-12)) d_X12_parts_50 rfl ?_
            obtain ⟨rfl, rfl⟩ := oRes h
            exact oe_iret (pc := 52) d_X12_parts_52 ⟨_, rfl, rfl⟩
      | false =>
        replace h := oCf h
        refine oe_callS (pc := 22) d_X12_parts_22 (v_X12_within hK  q9) (by omega) ml_X12_145 jJ_X12_within rfl rfl (Nat.le_of_ble_eq_true rfl) ⟨Nat.le_refl _, Nat.le_refl _⟩ ⟨Nat.le_refl _, Nat.le_refl _⟩ ?_
        refine oe_if_ne (pc := 25) (tgt := 30) d_X12_parts_25 (by decide) (fun c => absurd (by decide) c) (fun _ => ?_)
        refine oe_iconst (pc := 28) (v := (-1)) d_X12_parts_28 rfl ?_
        obtain ⟨rfl, rfl⟩ := oRes h
        exact oe_iret (pc := 29) d_X12_parts_29 ⟨_, rfl, rfl⟩
    | false =>
      replace h := oCf h
      refine oe_callS (pc := 9) d_X12_parts_9 (v_X12_isShelf hK  q6) (by omega) ml_X12_237 jJ_X12_isShelf rfl rfl (Nat.le_of_ble_eq_true rfl) ⟨Nat.le_refl _, Nat.le_refl _⟩ ⟨Nat.le_refl _, Nat.le_refl _⟩ ?_
      refine oe_if_eq (pc := 12) (tgt := 28) d_X12_parts_12 (by decide) (fun _ => ?_) (fun c => absurd (by decide) c)
      refine oe_iconst (pc := 28) (v := (-1)) d_X12_parts_28 rfl ?_
      obtain ⟨rfl, rfl⟩ := oRes h
      exact oe_iret (pc := 29) d_X12_parts_29 ⟨_, rfl, rfl⟩
  | false =>
    replace h := oCf h
    refine oe_callV (pc := 2) (ci := 12) d_X12_parts_2 (v_X12_isLaying hK  q3) (by omega) ml_X12_230 jJ_X12_isLaying rfl rfl (oLt hK (a := 59) (Nat.le_of_ble_eq_true rfl)) (oSho hK (a := 59) (Nat.le_of_ble_eq_true rfl) rfl) ock12 rfl (Nat.le_of_ble_eq_true rfl) ⟨Nat.le_refl _, Nat.le_refl _⟩ ⟨Nat.le_refl _, Nat.le_refl _⟩ ?_
    refine oe_if_eq (pc := 5) (tgt := 28) d_X12_parts_5 (by decide) (fun _ => ?_) (fun c => absurd (by decide) c)
    refine oe_iconst (pc := 28) (v := (-1)) d_X12_parts_28 rfl ?_
    obtain ⟨rfl, rfl⟩ := oRes h
    exact oe_iret (pc := 29) d_X12_parts_29 ⟨_, rfl, rfl⟩
theorem d_X12_adds_0 : decode J_X12_adds.2.1 0 = .ok (.aload_n 0, 1) := by decide +kernel
theorem d_X12_adds_1 : decode J_X12_adds.2.1 1 = .ok (.getfield 74, 3) := by decide +kernel
theorem d_X12_adds_4 : decode J_X12_adds.2.1 4 = .ok (.aload_n 0, 1) := by decide +kernel
theorem d_X12_adds_5 : decode J_X12_adds.2.1 5 = .ok (.getfield 246, 3) := by decide +kernel
theorem d_X12_adds_8 : decode J_X12_adds.2.1 8 = .ok (.iload_n 1, 1) := by decide +kernel
theorem d_X12_adds_9 : decode J_X12_adds.2.1 9 = .ok (.iastore, 1) := by decide +kernel
theorem d_X12_adds_10 : decode J_X12_adds.2.1 10 = .ok (.aload_n 0, 1) := by decide +kernel
theorem d_X12_adds_11 : decode J_X12_adds.2.1 11 = .ok (.getfield 77, 3) := by decide +kernel
theorem d_X12_adds_14 : decode J_X12_adds.2.1 14 = .ok (.aload_n 0, 1) := by decide +kernel
theorem d_X12_adds_15 : decode J_X12_adds.2.1 15 = .ok (.getfield 246, 3) := by decide +kernel
theorem d_X12_adds_18 : decode J_X12_adds.2.1 18 = .ok (.iload_n 2, 1) := by decide +kernel
theorem d_X12_adds_19 : decode J_X12_adds.2.1 19 = .ok (.iastore, 1) := by decide +kernel
theorem d_X12_adds_20 : decode J_X12_adds.2.1 20 = .ok (.aload_n 0, 1) := by decide +kernel
theorem d_X12_adds_21 : decode J_X12_adds.2.1 21 = .ok (.getfield 80, 3) := by decide +kernel
theorem d_X12_adds_24 : decode J_X12_adds.2.1 24 = .ok (.aload_n 0, 1) := by decide +kernel
theorem d_X12_adds_25 : decode J_X12_adds.2.1 25 = .ok (.getfield 246, 3) := by decide +kernel
theorem d_X12_adds_28 : decode J_X12_adds.2.1 28 = .ok (.iload_n 3, 1) := by decide +kernel
theorem d_X12_adds_29 : decode J_X12_adds.2.1 29 = .ok (.iastore, 1) := by decide +kernel
theorem d_X12_adds_30 : decode J_X12_adds.2.1 30 = .ok (.aload_n 0, 1) := by decide +kernel
theorem d_X12_adds_31 : decode J_X12_adds.2.1 31 = .ok (.dup, 1) := by decide +kernel
theorem d_X12_adds_32 : decode J_X12_adds.2.1 32 = .ok (.getfield 246, 3) := by decide +kernel
theorem d_X12_adds_35 : decode J_X12_adds.2.1 35 = .ok (.iconst 1, 1) := by decide +kernel
theorem d_X12_adds_36 : decode J_X12_adds.2.1 36 = .ok (.iadd, 1) := by decide +kernel
theorem d_X12_adds_37 : decode J_X12_adds.2.1 37 = .ok (.putfield 246, 3) := by decide +kernel
theorem d_X12_adds_40 : decode J_X12_adds.2.1 40 = .ok (.return_, 1) := by decide +kernel
def f_X12_adds (N : Nat) (K : oK) (p1 : Int32) (p2 : Int32) (p3 : Int32) (M : oM) : Option (Unit × oM) :=
  oIx ((M.1 59 31)) 25 (oIx (((oUp M 81 ((M.1 59 31) : Int32).toNatClampNeg p1).1 59 31)) 25 (oIx (((oUp (oUp M 81 ((M.1 59 31) : Int32).toNatClampNeg p1) 82 (((oUp M 81 ((M.1 59 31) : Int32).toNatClampNeg p1).1 59 31) : Int32).toNatClampNeg p2).1 59 31)) 25 (some ((), (oUp (oUp (oUp (oUp M 81 ((M.1 59 31) : Int32).toNatClampNeg p1) 82 (((oUp M 81 ((M.1 59 31) : Int32).toNatClampNeg p1).1 59 31) : Int32).toNatClampNeg p2) 83 (((oUp (oUp M 81 ((M.1 59 31) : Int32).toNatClampNeg p1) 82 (((oUp M 81 ((M.1 59 31) : Int32).toNatClampNeg p1).1 59 31) : Int32).toNatClampNeg p2).1 59 31) : Int32).toNatClampNeg p3) 59 31 (((oUp (oUp (oUp M 81 ((M.1 59 31) : Int32).toNatClampNeg p1) 82 (((oUp M 81 ((M.1 59 31) : Int32).toNatClampNeg p1).1 59 31) : Int32).toNatClampNeg p2) 83 (((oUp (oUp M 81 ((M.1 59 31) : Int32).toNatClampNeg p1) 82 (((oUp M 81 ((M.1 59 31) : Int32).toNatClampNeg p1).1 59 31) : Int32).toNatClampNeg p2).1 59 31) : Int32).toNatClampNeg p3).1 59 31) + 1))))))
set_option maxRecDepth 20000 in
theorem v_X12_adds {X : oX} {N : Nat} {K : oK} {p1 : Int32} {p2 : Int32} {p3 : Int32} {M : oM} {v : Unit} {M' : oM} (hK : oSR K)  (h : f_X12_adds N K p1 p2 p3 M = some (v, M')) : oMet X 1 J_X12_adds [(.ref 59), (.int p1), (.int p2), (.int p3)] K M none K M' := by
  unfold f_X12_adds at h
  refine oMet_of (L := [some (.ref 59), some (.int p1), some (.int p2), some (.int p3)]) jJ_X12_adds.1 rfl (Nat.le_of_ble_eq_true rfl) rfl (Nat.le_refl _) (Nat.le_refl _) ?_
  have hd : 1 ≤ 1 := Nat.le_refl _
  refine oe_aload_n (pc := 0) d_X12_adds_0 rfl ?_
  refine oe_getr (pc := 1) d_X12_adds_1 fl_X12_74 ock12 (k := 32) (b := 81) (Nat.le_of_ble_eq_true rfl) (by decide) (oLt hK (a := 59) (Nat.le_of_ble_eq_true rfl)) (oSho hK (a := 59) (Nat.le_of_ble_eq_true rfl) rfl) (oRfK hK rfl) ?_
  refine oe_aload_n (pc := 4) d_X12_adds_4 rfl ?_
  refine oe_getf (pc := 5) d_X12_adds_5 fl_X12_246 ock12 (k := 31) (Nat.le_of_ble_eq_true rfl) rfl (oLt hK (a := 59) (Nat.le_of_ble_eq_true rfl)) (oSho hK (a := 59) (Nat.le_of_ble_eq_true rfl) rfl) ?_
  refine oe_iload_n (pc := 8) d_X12_adds_8 rfl ?_
  obtain ⟨i1, h⟩ := oIx_some h
  refine oe_iast (pc := 9) d_X12_adds_9 (oLt hK (a := 81) (Nat.le_of_ble_eq_true rfl)) (oSha hK (a := 81) (Nat.le_of_ble_eq_true rfl) rfl) i1 ?_
  refine oe_aload_n (pc := 10) d_X12_adds_10 rfl ?_
  refine oe_getr (pc := 11) d_X12_adds_11 fl_X12_77 ock12 (k := 33) (b := 82) (Nat.le_of_ble_eq_true rfl) (by decide) (oLt hK (a := 59) (Nat.le_of_ble_eq_true rfl)) (oSho hK (a := 59) (Nat.le_of_ble_eq_true rfl) rfl) (oRfK hK rfl) ?_
  refine oe_aload_n (pc := 14) d_X12_adds_14 rfl ?_
  refine oe_getf (pc := 15) d_X12_adds_15 fl_X12_246 ock12 (k := 31) (Nat.le_of_ble_eq_true rfl) rfl (oLt hK (a := 59) (Nat.le_of_ble_eq_true rfl)) (oSho hK (a := 59) (Nat.le_of_ble_eq_true rfl) rfl) ?_
  refine oe_iload_n (pc := 18) d_X12_adds_18 rfl ?_
  obtain ⟨i2, h⟩ := oIx_some h
  refine oe_iast (pc := 19) d_X12_adds_19 (oLt hK (a := 82) (Nat.le_of_ble_eq_true rfl)) (oSha hK (a := 82) (Nat.le_of_ble_eq_true rfl) rfl) i2 ?_
  refine oe_aload_n (pc := 20) d_X12_adds_20 rfl ?_
  refine oe_getr (pc := 21) d_X12_adds_21 fl_X12_80 ock12 (k := 34) (b := 83) (Nat.le_of_ble_eq_true rfl) (by decide) (oLt hK (a := 59) (Nat.le_of_ble_eq_true rfl)) (oSho hK (a := 59) (Nat.le_of_ble_eq_true rfl) rfl) (oRfK hK rfl) ?_
  refine oe_aload_n (pc := 24) d_X12_adds_24 rfl ?_
  refine oe_getf (pc := 25) d_X12_adds_25 fl_X12_246 ock12 (k := 31) (Nat.le_of_ble_eq_true rfl) rfl (oLt hK (a := 59) (Nat.le_of_ble_eq_true rfl)) (oSho hK (a := 59) (Nat.le_of_ble_eq_true rfl) rfl) ?_
  refine oe_iload_n (pc := 28) d_X12_adds_28 rfl ?_
  obtain ⟨i3, h⟩ := oIx_some h
  refine oe_iast (pc := 29) d_X12_adds_29 (oLt hK (a := 83) (Nat.le_of_ble_eq_true rfl)) (oSha hK (a := 83) (Nat.le_of_ble_eq_true rfl) rfl) i3 ?_
  refine oe_aload_n (pc := 30) d_X12_adds_30 rfl ?_
  refine oe_dup (pc := 31) d_X12_adds_31 rfl ?_
  refine oe_getf (pc := 32) d_X12_adds_32 fl_X12_246 ock12 (k := 31) (Nat.le_of_ble_eq_true rfl) rfl (oLt hK (a := 59) (Nat.le_of_ble_eq_true rfl)) (oSho hK (a := 59) (Nat.le_of_ble_eq_true rfl) rfl) ?_
  refine oe_iconst (pc := 35) (v := 1) d_X12_adds_35 rfl ?_
  refine oe_iadd (pc := 36) d_X12_adds_36 ?_
  refine oe_putf (pc := 37) d_X12_adds_37 fl_X12_246 ock12 (k := 31) (Nat.le_of_ble_eq_true rfl) rfl rfl (oLt hK (a := 59) (Nat.le_of_ble_eq_true rfl)) (oSho hK (a := 59) (Nat.le_of_ble_eq_true rfl) rfl) ?_
  obtain ⟨rfl, rfl⟩ := oRes h
  exact oe_vret (pc := 40) d_X12_adds_40 rfl
