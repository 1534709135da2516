/-! walked by program: X12_goThrough, X12_greatest, X12_flowNow, X12_isNeed, X12_hoseOf, X12_of -/
theorem d_X12_goThrough_0 : decode J_X12_goThrough.2.1 0 = .ok (.iconst 0, 1) := by decide +kernel
theorem d_X12_goThrough_1 : decode J_X12_goThrough.2.1 1 = .ok (.istore_n 2, 1) := by decide +kernel
theorem d_X12_goThrough_2 : decode J_X12_goThrough.2.1 2 = .ok (.aload_n 0, 1) := by decide +kernel
theorem d_X12_goThrough_3 : decode J_X12_goThrough.2.1 3 = .ok (.iconst (-1), 1) := by decide +kernel
theorem d_X12_goThrough_4 : decode J_X12_goThrough.2.1 4 = .ok (.putfield 262, 3) := by decide +kernel
theorem d_X12_goThrough_7 : decode J_X12_goThrough.2.1 7 = .ok (.aload_n 0, 1) := by decide +kernel
theorem d_X12_goThrough_8 : decode J_X12_goThrough.2.1 8 = .ok (.iconst (-1), 1) := by decide +kernel
theorem d_X12_goThrough_9 : decode J_X12_goThrough.2.1 9 = .ok (.putfield 265, 3) := by decide +kernel
theorem d_X12_goThrough_12 : decode J_X12_goThrough.2.1 12 = .ok (.iconst 0, 1) := by decide +kernel
theorem d_X12_goThrough_13 : decode J_X12_goThrough.2.1 13 = .ok (.istore_n 3, 1) := by decide +kernel
theorem d_X12_goThrough_14 : decode J_X12_goThrough.2.1 14 = .ok (.iload_n 3, 1) := by decide +kernel
theorem d_X12_goThrough_15 : decode J_X12_goThrough.2.1 15 = .ok (.aload_n 0, 1) := by decide +kernel
theorem d_X12_goThrough_16 : decode J_X12_goThrough.2.1 16 = .ok (.getfield 246, 3) := by decide +kernel
theorem d_X12_goThrough_19 : decode J_X12_goThrough.2.1 19 = .ok (.if_icmp .ge 229, 3) := by decide +kernel
theorem d_X12_goThrough_22 : decode J_X12_goThrough.2.1 22 = .ok (.aload_n 0, 1) := by decide +kernel
theorem d_X12_goThrough_23 : decode J_X12_goThrough.2.1 23 = .ok (.getfield 74, 3) := by decide +kernel
theorem d_X12_goThrough_26 : decode J_X12_goThrough.2.1 26 = .ok (.iload_n 3, 1) := by decide +kernel
theorem d_X12_goThrough_27 : decode J_X12_goThrough.2.1 27 = .ok (.iaload, 1) := by decide +kernel
theorem d_X12_goThrough_28 : decode J_X12_goThrough.2.1 28 = .ok (.iconst 1, 1) := by decide +kernel
theorem d_X12_goThrough_29 : decode J_X12_goThrough.2.1 29 = .ok (.if_icmp .eq 11, 3) := by decide +kernel
theorem d_X12_goThrough_32 : decode J_X12_goThrough.2.1 32 = .ok (.iload_n 2, 1) := by decide +kernel
theorem d_X12_goThrough_33 : decode J_X12_goThrough.2.1 33 = .ok (.ifCond .ge 7, 3) := by decide +kernel
theorem d_X12_goThrough_36 : decode J_X12_goThrough.2.1 36 = .ok (.iconst 1, 1) := by decide +kernel
theorem d_X12_goThrough_37 : decode J_X12_goThrough.2.1 37 = .ok (.goto 4, 3) := by decide +kernel
theorem d_X12_goThrough_40 : decode J_X12_goThrough.2.1 40 = .ok (.iconst 0, 1) := by decide +kernel
theorem d_X12_goThrough_41 : decode J_X12_goThrough.2.1 41 = .ok (.istore 4, 2) := by decide +kernel
theorem d_X12_goThrough_43 : decode J_X12_goThrough.2.1 43 = .ok (.iconst 0, 1) := by decide +kernel
theorem d_X12_goThrough_44 : decode J_X12_goThrough.2.1 44 = .ok (.istore 5, 2) := by decide +kernel
theorem d_X12_goThrough_46 : decode J_X12_goThrough.2.1 46 = .ok (.aload_n 0, 1) := by decide +kernel
theorem d_X12_goThrough_47 : decode J_X12_goThrough.2.1 47 = .ok (.getfield 74, 3) := by decide +kernel
theorem d_X12_goThrough_50 : decode J_X12_goThrough.2.1 50 = .ok (.iload_n 3, 1) := by decide +kernel
theorem d_X12_goThrough_51 : decode J_X12_goThrough.2.1 51 = .ok (.iaload, 1) := by decide +kernel
theorem d_X12_goThrough_52 : decode J_X12_goThrough.2.1 52 = .ok (.ifCond .ne 20, 3) := by decide +kernel
theorem d_X12_goThrough_55 : decode J_X12_goThrough.2.1 55 = .ok (.iload_n 2, 1) := by decide +kernel
theorem d_X12_goThrough_56 : decode J_X12_goThrough.2.1 56 = .ok (.aload_n 0, 1) := by decide +kernel
theorem d_X12_goThrough_57 : decode J_X12_goThrough.2.1 57 = .ok (.aload_n 0, 1) := by decide +kernel
theorem d_X12_goThrough_58 : decode J_X12_goThrough.2.1 58 = .ok (.getfield 77, 3) := by decide +kernel
theorem d_X12_goThrough_61 : decode J_X12_goThrough.2.1 61 = .ok (.iload_n 3, 1) := by decide +kernel
theorem d_X12_goThrough_62 : decode J_X12_goThrough.2.1 62 = .ok (.iaload, 1) := by decide +kernel
theorem d_X12_goThrough_63 : decode J_X12_goThrough.2.1 63 = .ok (.iload_n 1, 1) := by decide +kernel
theorem d_X12_goThrough_64 : decode J_X12_goThrough.2.1 64 = .ok (.invokevirtual 219, 3) := by decide +kernel
theorem d_X12_goThrough_67 : decode J_X12_goThrough.2.1 67 = .ok (.iadd, 1) := by decide +kernel
theorem d_X12_goThrough_68 : decode J_X12_goThrough.2.1 68 = .ok (.istore_n 2, 1) := by decide +kernel
theorem d_X12_goThrough_69 : decode J_X12_goThrough.2.1 69 = .ok (.goto 113, 3) := by decide +kernel
theorem d_X12_goThrough_72 : decode J_X12_goThrough.2.1 72 = .ok (.aload_n 0, 1) := by decide +kernel
theorem d_X12_goThrough_73 : decode J_X12_goThrough.2.1 73 = .ok (.getfield 74, 3) := by decide +kernel
theorem d_X12_goThrough_76 : decode J_X12_goThrough.2.1 76 = .ok (.iload_n 3, 1) := by decide +kernel
theorem d_X12_goThrough_77 : decode J_X12_goThrough.2.1 77 = .ok (.iaload, 1) := by decide +kernel
theorem d_X12_goThrough_78 : decode J_X12_goThrough.2.1 78 = .ok (.iconst 2, 1) := by decide +kernel
theorem d_X12_goThrough_79 : decode J_X12_goThrough.2.1 79 = .ok (.if_icmp .ne 8, 3) := by decide +kernel
theorem d_X12_goThrough_82 : decode J_X12_goThrough.2.1 82 = .ok (.iconst 0, 1) := by decide +kernel
theorem d_X12_goThrough_83 : decode J_X12_goThrough.2.1 83 = .ok (.istore_n 2, 1) := by decide +kernel
theorem d_X12_goThrough_84 : decode J_X12_goThrough.2.1 84 = .ok (.goto 98, 3) := by decide +kernel
theorem d_X12_goThrough_87 : decode J_X12_goThrough.2.1 87 = .ok (.iload_n 2, 1) := by decide +kernel
theorem d_X12_goThrough_88 : decode J_X12_goThrough.2.1 88 = .ok (.istore 6, 2) := by decide +kernel
theorem d_X12_goThrough_90 : decode J_X12_goThrough.2.1 90 = .ok (.aload_n 0, 1) := by decide +kernel
theorem d_X12_goThrough_91 : decode J_X12_goThrough.2.1 91 = .ok (.getfield 7, 3) := by decide +kernel
theorem d_X12_goThrough_94 : decode J_X12_goThrough.2.1 94 = .ok (.bipush 12, 2) := by decide +kernel
theorem d_X12_goThrough_96 : decode J_X12_goThrough.2.1 96 = .ok (.aload_n 0, 1) := by decide +kernel
theorem d_X12_goThrough_97 : decode J_X12_goThrough.2.1 97 = .ok (.getfield 80, 3) := by decide +kernel
theorem d_X12_goThrough_100 : decode J_X12_goThrough.2.1 100 = .ok (.iload_n 3, 1) := by decide +kernel
theorem d_X12_goThrough_101 : decode J_X12_goThrough.2.1 101 = .ok (.iaload, 1) := by decide +kernel
theorem d_X12_goThrough_102 : decode J_X12_goThrough.2.1 102 = .ok (.iadd, 1) := by decide +kernel
theorem d_X12_goThrough_103 : decode J_X12_goThrough.2.1 103 = .ok (.iaload, 1) := by decide +kernel
theorem d_X12_goThrough_104 : decode J_X12_goThrough.2.1 104 = .ok (.istore 7, 2) := by decide +kernel
theorem d_X12_goThrough_106 : decode J_X12_goThrough.2.1 106 = .ok (.iload_n 2, 1) := by decide +kernel
theorem d_X12_goThrough_107 : decode J_X12_goThrough.2.1 107 = .ok (.aload_n 0, 1) := by decide +kernel
theorem d_X12_goThrough_108 : decode J_X12_goThrough.2.1 108 = .ok (.getfield 28, 3) := by decide +kernel
theorem d_X12_goThrough_111 : decode J_X12_goThrough.2.1 111 = .ok (.aload_n 0, 1) := by decide +kernel
theorem d_X12_goThrough_112 : decode J_X12_goThrough.2.1 112 = .ok (.getfield 77, 3) := by decide +kernel
theorem d_X12_goThrough_115 : decode J_X12_goThrough.2.1 115 = .ok (.iload_n 3, 1) := by decide +kernel
theorem d_X12_goThrough_116 : decode J_X12_goThrough.2.1 116 = .ok (.iaload, 1) := by decide +kernel
theorem d_X12_goThrough_117 : decode J_X12_goThrough.2.1 117 = .ok (.iaload, 1) := by decide +kernel
theorem d_X12_goThrough_118 : decode J_X12_goThrough.2.1 118 = .ok (.aload_n 0, 1) := by decide +kernel
theorem d_X12_goThrough_119 : decode J_X12_goThrough.2.1 119 = .ok (.aload_n 0, 1) := by decide +kernel
theorem d_X12_goThrough_120 : decode J_X12_goThrough.2.1 120 = .ok (.getfield 80, 3) := by decide +kernel
theorem d_X12_goThrough_123 : decode J_X12_goThrough.2.1 123 = .ok (.iload_n 3, 1) := by decide +kernel
theorem d_X12_goThrough_124 : decode J_X12_goThrough.2.1 124 = .ok (.iaload, 1) := by decide +kernel
theorem d_X12_goThrough_125 : decode J_X12_goThrough.2.1 125 = .ok (.aload_n 0, 1) := by decide +kernel
theorem d_X12_goThrough_126 : decode J_X12_goThrough.2.1 126 = .ok (.getfield 83, 3) := by decide +kernel
theorem d_X12_goThrough_129 : decode J_X12_goThrough.2.1 129 = .ok (.iload_n 3, 1) := by decide +kernel
theorem d_X12_goThrough_130 : decode J_X12_goThrough.2.1 130 = .ok (.iaload, 1) := by decide +kernel
theorem d_X12_goThrough_131 : decode J_X12_goThrough.2.1 131 = .ok (.iconst 2, 1) := by decide +kernel
theorem d_X12_goThrough_132 : decode J_X12_goThrough.2.1 132 = .ok (.if_icmp .ne 11, 3) := by decide +kernel
theorem d_X12_goThrough_135 : decode J_X12_goThrough.2.1 135 = .ok (.iload_n 1, 1) := by decide +kernel
theorem d_X12_goThrough_136 : decode J_X12_goThrough.2.1 136 = .ok (.iconst 1, 1) := by decide +kernel
theorem d_X12_goThrough_137 : decode J_X12_goThrough.2.1 137 = .ok (.iadd, 1) := by decide +kernel
theorem d_X12_goThrough_138 : decode J_X12_goThrough.2.1 138 = .ok (.iconst 2, 1) := by decide +kernel
theorem d_X12_goThrough_139 : decode J_X12_goThrough.2.1 139 = .ok (.idiv, 1) := by decide +kernel
theorem d_X12_goThrough_140 : decode J_X12_goThrough.2.1 140 = .ok (.goto 4, 3) := by decide +kernel
theorem d_X12_goThrough_143 : decode J_X12_goThrough.2.1 143 = .ok (.iload_n 1, 1) := by decide +kernel
theorem d_X12_goThrough_144 : decode J_X12_goThrough.2.1 144 = .ok (.invokevirtual 213, 3) := by decide +kernel
theorem d_X12_goThrough_147 : decode J_X12_goThrough.2.1 147 = .ok (.imul, 1) := by decide +kernel
theorem d_X12_goThrough_148 : decode J_X12_goThrough.2.1 148 = .ok (.isub, 1) := by decide +kernel
theorem d_X12_goThrough_149 : decode J_X12_goThrough.2.1 149 = .ok (.istore_n 2, 1) := by decide +kernel
theorem d_X12_goThrough_150 : decode J_X12_goThrough.2.1 150 = .ok (.iload_n 2, 1) := by decide +kernel
theorem d_X12_goThrough_151 : decode J_X12_goThrough.2.1 151 = .ok (.bipush 43, 2) := by decide +kernel
theorem d_X12_goThrough_153 : decode J_X12_goThrough.2.1 153 = .ok (.aload_n 0, 1) := by decide +kernel
theorem d_X12_goThrough_154 : decode J_X12_goThrough.2.1 154 = .ok (.getfield 86, 3) := by decide +kernel
theorem d_X12_goThrough_157 : decode J_X12_goThrough.2.1 157 = .ok (.iload_n 3, 1) := by decide +kernel
theorem d_X12_goThrough_158 : decode J_X12_goThrough.2.1 158 = .ok (.iaload, 1) := by decide +kernel
theorem d_X12_goThrough_159 : decode J_X12_goThrough.2.1 159 = .ok (.imul, 1) := by decide +kernel
theorem d_X12_goThrough_160 : decode J_X12_goThrough.2.1 160 = .ok (.isub, 1) := by decide +kernel
theorem d_X12_goThrough_161 : decode J_X12_goThrough.2.1 161 = .ok (.istore_n 2, 1) := by decide +kernel
theorem d_X12_goThrough_162 : decode J_X12_goThrough.2.1 162 = .ok (.iload 6, 2) := by decide +kernel
theorem d_X12_goThrough_164 : decode J_X12_goThrough.2.1 164 = .ok (.iload 7, 2) := by decide +kernel
theorem d_X12_goThrough_166 : decode J_X12_goThrough.2.1 166 = .ok (.if_icmp .gt 9, 3) := by decide +kernel
theorem d_X12_goThrough_169 : decode J_X12_goThrough.2.1 169 = .ok (.iload_n 2, 1) := by decide +kernel
theorem d_X12_goThrough_170 : decode J_X12_goThrough.2.1 170 = .ok (.iload 7, 2) := by decide +kernel
theorem d_X12_goThrough_172 : decode J_X12_goThrough.2.1 172 = .ok (.if_icmp .le 7, 3) := by decide +kernel
theorem d_X12_goThrough_175 : decode J_X12_goThrough.2.1 175 = .ok (.iconst 1, 1) := by decide +kernel
theorem d_X12_goThrough_176 : decode J_X12_goThrough.2.1 176 = .ok (.goto 4, 3) := by decide +kernel
theorem d_X12_goThrough_179 : decode J_X12_goThrough.2.1 179 = .ok (.iconst 0, 1) := by decide +kernel
theorem d_X12_goThrough_180 : decode J_X12_goThrough.2.1 180 = .ok (.istore 5, 2) := by decide +kernel
theorem d_X12_goThrough_182 : decode J_X12_goThrough.2.1 182 = .ok (.aload_n 0, 1) := by decide +kernel
theorem d_X12_goThrough_183 : decode J_X12_goThrough.2.1 183 = .ok (.getfield 89, 3) := by decide +kernel
theorem d_X12_goThrough_186 : decode J_X12_goThrough.2.1 186 = .ok (.iload_n 3, 1) := by decide +kernel
theorem d_X12_goThrough_187 : decode J_X12_goThrough.2.1 187 = .ok (.iload_n 2, 1) := by decide +kernel
theorem d_X12_goThrough_188 : decode J_X12_goThrough.2.1 188 = .ok (.iastore, 1) := by decide +kernel
theorem d_X12_goThrough_189 : decode J_X12_goThrough.2.1 189 = .ok (.aload_n 0, 1) := by decide +kernel
theorem d_X12_goThrough_190 : decode J_X12_goThrough.2.1 190 = .ok (.iload 4, 2) := by decide +kernel
theorem d_X12_goThrough_192 : decode J_X12_goThrough.2.1 192 = .ok (.ifCond .eq 14, 3) := by decide +kernel
theorem d_X12_goThrough_195 : decode J_X12_goThrough.2.1 195 = .ok (.aload_n 0, 1) := by decide +kernel
theorem d_X12_goThrough_196 : decode J_X12_goThrough.2.1 196 = .ok (.getfield 262, 3) := by decide +kernel
theorem d_X12_goThrough_199 : decode J_X12_goThrough.2.1 199 = .ok (.ifCond .ge 7, 3) := by decide +kernel
theorem d_X12_goThrough_202 : decode J_X12_goThrough.2.1 202 = .ok (.iload_n 3, 1) := by decide +kernel
theorem d_X12_goThrough_203 : decode J_X12_goThrough.2.1 203 = .ok (.goto 7, 3) := by decide +kernel
theorem d_X12_goThrough_206 : decode J_X12_goThrough.2.1 206 = .ok (.aload_n 0, 1) := by decide +kernel
theorem d_X12_goThrough_207 : decode J_X12_goThrough.2.1 207 = .ok (.getfield 262, 3) := by decide +kernel
theorem d_X12_goThrough_210 : decode J_X12_goThrough.2.1 210 = .ok (.putfield 262, 3) := by decide +kernel
theorem d_X12_goThrough_213 : decode J_X12_goThrough.2.1 213 = .ok (.aload_n 0, 1) := by decide +kernel
theorem d_X12_goThrough_214 : decode J_X12_goThrough.2.1 214 = .ok (.iload 4, 2) := by decide +kernel
theorem d_X12_goThrough_216 : decode J_X12_goThrough.2.1 216 = .ok (.ifCond .ne 8, 3) := by decide +kernel
theorem d_X12_goThrough_219 : decode J_X12_goThrough.2.1 219 = .ok (.iload 5, 2) := by decide +kernel
theorem d_X12_goThrough_221 : decode J_X12_goThrough.2.1 221 = .ok (.ifCond .eq 14, 3) := by decide +kernel
theorem d_X12_goThrough_224 : decode J_X12_goThrough.2.1 224 = .ok (.aload_n 0, 1) := by decide +kernel
theorem d_X12_goThrough_225 : decode J_X12_goThrough.2.1 225 = .ok (.getfield 265, 3) := by decide +kernel
theorem d_X12_goThrough_228 : decode J_X12_goThrough.2.1 228 = .ok (.ifCond .ge 7, 3) := by decide +kernel
theorem d_X12_goThrough_231 : decode J_X12_goThrough.2.1 231 = .ok (.iload_n 3, 1) := by decide +kernel
theorem d_X12_goThrough_232 : decode J_X12_goThrough.2.1 232 = .ok (.goto 7, 3) := by decide +kernel
theorem d_X12_goThrough_235 : decode J_X12_goThrough.2.1 235 = .ok (.aload_n 0, 1) := by decide +kernel
theorem d_X12_goThrough_236 : decode J_X12_goThrough.2.1 236 = .ok (.getfield 265, 3) := by decide +kernel
theorem d_X12_goThrough_239 : decode J_X12_goThrough.2.1 239 = .ok (.putfield 265, 3) := by decide +kernel
theorem d_X12_goThrough_242 : decode J_X12_goThrough.2.1 242 = .ok (.iinc 3 1, 3) := by decide +kernel
theorem d_X12_goThrough_245 : decode J_X12_goThrough.2.1 245 = .ok (.goto (-231), 3) := by decide +kernel
theorem d_X12_goThrough_248 : decode J_X12_goThrough.2.1 248 = .ok (.iload_n 2, 1) := by decide +kernel
theorem d_X12_goThrough_249 : decode J_X12_goThrough.2.1 249 = .ok (.ireturn, 1) := by decide +kernel
def f_X12_goThrough_239 (N : Nat) (K : oK) (r14 : (Int32 → Int32 → Int32 → oM → Option (Int32 × oM))) (p1 : Int32) (p2 : Int32) (p3 : Int32) (s0 : Int32) (M : oM) : Option (Int32 × oM) :=
  (r14 p1 p2 (p3 + 1) (oUp M 59 39 s0))
set_option maxRecDepth 20000 in
theorem v_X12_goThrough_239 {X : oX} {d N : Nat} {K : oK} {r14 : (Int32 → Int32 → Int32 → oM → Option (Int32 × oM))} {p1 : Int32} {p2 : Int32} {p3 : Int32} {s0 : Int32} {M : oM} {v : Int32} {M' : oM}  (hd : 3 ≤ d) (hK : oSR K)  (hr14 : ∀ (p1 : Int32) (p2 : Int32) (p3 : Int32) (M : oM) (v : Int32) (M' : oM) , r14 p1 p2 p3 M = some (v, M') → oEv X d J_X12_goThrough 14 [some (.ref 59), some (.int p1), some (.int p2), some (.int p3), none, none, none, none] [] K M (some (.int v)) K M') (h : f_X12_goThrough_239 N K r14 p1 p2 p3 s0 M = some (v, M')) : oEv X d J_X12_goThrough 239 [some (.ref 59), some (.int p1), some (.int p2), some (.int p3), none, none, none, none] [(.int s0), (.ref 59)] K M (some (.int v)) K M' := by
  unfold f_X12_goThrough_239 at h
  refine oe_putf (pc := 239) d_X12_goThrough_239 fl_X12_265 ock12 (k := 39) (Nat.le_of_ble_eq_true rfl) rfl rfl (oLt hK (a := 59) (Nat.le_of_ble_eq_true rfl)) (oSho hK (a := 59) (Nat.le_of_ble_eq_true rfl) rfl) ?_
  refine oe_iinc (pc := 242) (v := (p3 + 1)) (L2 := [_, _, _, _, _, _, _, _]) d_X12_goThrough_242 rfl rfl rfl (Nat.le_of_ble_eq_true rfl) rfl ?_
  refine oe_goto (pc := 245) (tgt := 14) d_X12_goThrough_245 (by decide) ?_
  exact hr14 _ _ _ _ _ _ h
def f_X12_goThrough_235 (N : Nat) (K : oK) (r14 : (Int32 → Int32 → Int32 → oM → Option (Int32 × oM))) (p1 : Int32) (p2 : Int32) (p3 : Int32) (M : oM) : Option (Int32 × oM) :=
  (f_X12_goThrough_239 N K r14 p1 p2 p3 (M.1 59 39) M)
set_option maxRecDepth 20000 in
theorem v_X12_goThrough_235 {X : oX} {d N : Nat} {K : oK} {r14 : (Int32 → Int32 → Int32 → oM → Option (Int32 × oM))} {p1 : Int32} {p2 : Int32} {p3 : Int32} {M : oM} {v : Int32} {M' : oM}  (hd : 3 ≤ d) (hK : oSR K)  (hr14 : ∀ (p1 : Int32) (p2 : Int32) (p3 : Int32) (M : oM) (v : Int32) (M' : oM) , r14 p1 p2 p3 M = some (v, M') → oEv X d J_X12_goThrough 14 [some (.ref 59), some (.int p1), some (.int p2), some (.int p3), none, none, none, none] [] K M (some (.int v)) K M') (h : f_X12_goThrough_235 N K r14 p1 p2 p3 M = some (v, M')) : oEv X d J_X12_goThrough 235 [some (.ref 59), some (.int p1), some (.int p2), some (.int p3), none, none, none, none] [(.ref 59)] K M (some (.int v)) K M' := by
  unfold f_X12_goThrough_235 at h
  refine oe_aload_n (pc := 235) d_X12_goThrough_235 rfl ?_
  refine oe_getf (pc := 236) d_X12_goThrough_236 fl_X12_265 ock12 (k := 39) (Nat.le_of_ble_eq_true rfl) rfl (oLt hK (a := 59) (Nat.le_of_ble_eq_true rfl)) (oSho hK (a := 59) (Nat.le_of_ble_eq_true rfl) rfl) ?_
  exact v_X12_goThrough_239 hd hK  hr14 h
def f_X12_goThrough_224 (N : Nat) (K : oK) (r14 : (Int32 → Int32 → Int32 → oM → Option (Int32 × oM))) (p1 : Int32) (p2 : Int32) (p3 : Int32) (M : oM) : Option (Int32 × oM) :=
  (if 0 ≤ (M.1 59 39) then (f_X12_goThrough_235 N K r14 p1 p2 p3 M) else (f_X12_goThrough_239 N K r14 p1 p2 p3 p3 M))
set_option maxRecDepth 20000 in
theorem v_X12_goThrough_224 {X : oX} {d N : Nat} {K : oK} {r14 : (Int32 → Int32 → Int32 → oM → Option (Int32 × oM))} {p1 : Int32} {p2 : Int32} {p3 : Int32} {M : oM} {v : Int32} {M' : oM}  (hd : 3 ≤ d) (hK : oSR K)  (hr14 : ∀ (p1 : Int32) (p2 : Int32) (p3 : Int32) (M : oM) (v : Int32) (M' : oM) , r14 p1 p2 p3 M = some (v, M') → oEv X d J_X12_goThrough 14 [some (.ref 59), some (.int p1), some (.int p2), some (.int p3), none, none, none, none] [] K M (some (.int v)) K M') (h : f_X12_goThrough_224 N K r14 p1 p2 p3 M = some (v, M')) : oEv X d J_X12_goThrough 224 [some (.ref 59), some (.int p1), some (.int p2), some (.int p3), none, none, none, none] [(.ref 59)] K M (some (.int v)) K M' := by
  unfold f_X12_goThrough_224 at h
  refine oe_aload_n (pc := 224) d_X12_goThrough_224 rfl ?_
  refine oe_getf (pc := 225) d_X12_goThrough_225 fl_X12_265 ock12 (k := 39) (Nat.le_of_ble_eq_true rfl) rfl (oLt hK (a := 59) (Nat.le_of_ble_eq_true rfl)) (oSho hK (a := 59) (Nat.le_of_ble_eq_true rfl) rfl) ?_
  refine oe_if_ge (pc := 228) (tgt := 235) d_X12_goThrough_228 (by decide) (fun c23 => ?_) (fun c23 => ?_)
  · replace h := (if_pos c23).symm.trans h
    exact v_X12_goThrough_235 hd hK  hr14 h
  · replace h := (if_neg c23).symm.trans h
    refine oe_iload_n (pc := 231) d_X12_goThrough_231 rfl ?_
    refine oe_goto (pc := 232) (tgt := 239) d_X12_goThrough_232 (by decide) ?_
    exact v_X12_goThrough_239 hd hK  hr14 h
def f_X12_goThrough_210 (N : Nat) (K : oK) (r14 : (Int32 → Int32 → Int32 → oM → Option (Int32 × oM))) (p1 : Int32) (p2 : Int32) (p3 : Int32) (p4 : Int32) (p5 : Int32) (s0 : Int32) (M : oM) : Option (Int32 × oM) :=
  (if p4 = 0 then (if p5 = 0 then (f_X12_goThrough_235 N K r14 p1 p2 p3 (oUp M 59 38 s0)) else (f_X12_goThrough_224 N K r14 p1 p2 p3 (oUp M 59 38 s0))) else (f_X12_goThrough_224 N K r14 p1 p2 p3 (oUp M 59 38 s0)))
set_option maxRecDepth 20000 in
theorem v_X12_goThrough_210 {X : oX} {d N : Nat} {K : oK} {r14 : (Int32 → Int32 → Int32 → oM → Option (Int32 × oM))} {p1 : Int32} {p2 : Int32} {p3 : Int32} {p4 : Int32} {p5 : Int32} {s0 : Int32} {M : oM} {v : Int32} {M' : oM}  (hd : 3 ≤ d) (hK : oSR K)  (hr14 : ∀ (p1 : Int32) (p2 : Int32) (p3 : Int32) (M : oM) (v : Int32) (M' : oM) , r14 p1 p2 p3 M = some (v, M') → oEv X d J_X12_goThrough 14 [some (.ref 59), some (.int p1), some (.int p2), some (.int p3), none, none, none, none] [] K M (some (.int v)) K M') (h : f_X12_goThrough_210 N K r14 p1 p2 p3 p4 p5 s0 M = some (v, M')) : oEv X d J_X12_goThrough 210 [some (.ref 59), some (.int p1), some (.int p2), some (.int p3), some (.int p4), some (.int p5), none, none] [(.int s0), (.ref 59)] K M (some (.int v)) K M' := by
  unfold f_X12_goThrough_210 at h
  refine oe_putf (pc := 210) d_X12_goThrough_210 fl_X12_262 ock12 (k := 38) (Nat.le_of_ble_eq_true rfl) rfl rfl (oLt hK (a := 59) (Nat.le_of_ble_eq_true rfl)) (oSho hK (a := 59) (Nat.le_of_ble_eq_true rfl) rfl) ?_
  refine oe_aload_n (pc := 213) d_X12_goThrough_213 rfl ?_
  refine oe_iload (pc := 214) d_X12_goThrough_214 rfl ?_
  refine oe_if_ne (pc := 216) (tgt := 224) d_X12_goThrough_216 (by decide) (fun c22 => ?_) (fun c22 => ?_)
  · replace h := (if_neg c22).symm.trans h
    refine oEv.fg [true, true, true, true, false, false, false, false] ?_
    exact v_X12_goThrough_224 hd hK  hr14 h
  · replace h := (if_pos c22).symm.trans h
    refine oe_iload (pc := 219) d_X12_goThrough_219 rfl ?_
    refine oe_if_eq (pc := 221) (tgt := 235) d_X12_goThrough_221 (by decide) (fun c24 => ?_) (fun c24 => ?_)
    · replace h := (if_pos c24).symm.trans h
      refine oEv.fg [true, true, true, true, false, false, false, false] ?_
      exact v_X12_goThrough_235 hd hK  hr14 h
    · replace h := (if_neg c24).symm.trans h
      refine oEv.fg [true, true, true, true, false, false, false, false] ?_
      exact v_X12_goThrough_224 hd hK  hr14 h
def f_X12_goThrough_206 (N : Nat) (K : oK) (r14 : (Int32 → Int32 → Int32 → oM → Option (Int32 × oM))) (p1 : Int32) (p2 : Int32) (p3 : Int32) (p4 : Int32) (p5 : Int32) (M : oM) : Option (Int32 × oM) :=
  (f_X12_goThrough_210 N K r14 p1 p2 p3 p4 p5 (M.1 59 38) M)
set_option maxRecDepth 20000 in
theorem v_X12_goThrough_206 {X : oX} {d N : Nat} {K : oK} {r14 : (Int32 → Int32 → Int32 → oM → Option (Int32 × oM))} {p1 : Int32} {p2 : Int32} {p3 : Int32} {p4 : Int32} {p5 : Int32} {M : oM} {v : Int32} {M' : oM}  (hd : 3 ≤ d) (hK : oSR K)  (hr14 : ∀ (p1 : Int32) (p2 : Int32) (p3 : Int32) (M : oM) (v : Int32) (M' : oM) , r14 p1 p2 p3 M = some (v, M') → oEv X d J_X12_goThrough 14 [some (.ref 59), some (.int p1), some (.int p2), some (.int p3), none, none, none, none] [] K M (some (.int v)) K M') (h : f_X12_goThrough_206 N K r14 p1 p2 p3 p4 p5 M = some (v, M')) : oEv X d J_X12_goThrough 206 [some (.ref 59), some (.int p1), some (.int p2), some (.int p3), some (.int p4), some (.int p5), none, none] [(.ref 59)] K M (some (.int v)) K M' := by
  unfold f_X12_goThrough_206 at h
  refine oe_aload_n (pc := 206) d_X12_goThrough_206 rfl ?_
  refine oe_getf (pc := 207) d_X12_goThrough_207 fl_X12_262 ock12 (k := 38) (Nat.le_of_ble_eq_true rfl) rfl (oLt hK (a := 59) (Nat.le_of_ble_eq_true rfl)) (oSho hK (a := 59) (Nat.le_of_ble_eq_true rfl) rfl) ?_
  exact v_X12_goThrough_210 hd hK  hr14 h
def f_X12_goThrough_182 (N : Nat) (K : oK) (r14 : (Int32 → Int32 → Int32 → oM → Option (Int32 × oM))) (p1 : Int32) (p2 : Int32) (p3 : Int32) (p4 : Int32) (p5 : Int32) (M : oM) : Option (Int32 × oM) :=
  oIx (p3) 25 ((if p4 = 0 then (f_X12_goThrough_206 N K r14 p1 p2 p3 p4 p5 (oUp M 86 (p3 : Int32).toNatClampNeg p2)) else (if 0 ≤ ((oUp M 86 (p3 : Int32).toNatClampNeg p2).1 59 38) then (f_X12_goThrough_206 N K r14 p1 p2 p3 p4 p5 (oUp M 86 (p3 : Int32).toNatClampNeg p2)) else (f_X12_goThrough_210 N K r14 p1 p2 p3 p4 p5 p3 (oUp M 86 (p3 : Int32).toNatClampNeg p2)))))
set_option maxRecDepth 20000 in
theorem v_X12_goThrough_182 {X : oX} {d N : Nat} {K : oK} {r14 : (Int32 → Int32 → Int32 → oM → Option (Int32 × oM))} {p1 : Int32} {p2 : Int32} {p3 : Int32} {p4 : Int32} {p5 : Int32} {M : oM} {v : Int32} {M' : oM}  (hd : 3 ≤ d) (hK : oSR K)  (hr14 : ∀ (p1 : Int32) (p2 : Int32) (p3 : Int32) (M : oM) (v : Int32) (M' : oM) , r14 p1 p2 p3 M = some (v, M') → oEv X d J_X12_goThrough 14 [some (.ref 59), some (.int p1), some (.int p2), some (.int p3), none, none, none, none] [] K M (some (.int v)) K M') (h : f_X12_goThrough_182 N K r14 p1 p2 p3 p4 p5 M = some (v, M')) : oEv X d J_X12_goThrough 182 [some (.ref 59), some (.int p1), some (.int p2), some (.int p3), some (.int p4), some (.int p5), none, none] [] K M (some (.int v)) K M' := by
  unfold f_X12_goThrough_182 at h
  refine oe_aload_n (pc := 182) d_X12_goThrough_182 rfl ?_
  refine oe_getr (pc := 183) d_X12_goThrough_183 fl_X12_89 ock12 (k := 37) (b := 86) (Nat.le_of_ble_eq_true rfl) (by decide) (oLt hK (a := 59) (Nat.le_of_ble_eq_true rfl)) (oSho hK (a := 59) (Nat.le_of_ble_eq_true rfl) rfl) (oRfK hK rfl) ?_
  refine oe_iload_n (pc := 186) d_X12_goThrough_186 rfl ?_
  refine oe_iload_n (pc := 187) d_X12_goThrough_187 rfl ?_
  obtain ⟨i20, h⟩ := oIx_some h
  refine oe_iast (pc := 188) d_X12_goThrough_188 (oLt hK (a := 86) (Nat.le_of_ble_eq_true rfl)) (oSha hK (a := 86) (Nat.le_of_ble_eq_true rfl) rfl) i20 ?_
  refine oe_aload_n (pc := 189) d_X12_goThrough_189 rfl ?_
  refine oe_iload (pc := 190) d_X12_goThrough_190 rfl ?_
  refine oe_if_eq (pc := 192) (tgt := 206) d_X12_goThrough_192 (by decide) (fun c21 => ?_) (fun c21 => ?_)
  · replace h := (if_pos c21).symm.trans h
    exact v_X12_goThrough_206 hd hK  hr14 h
  · replace h := (if_neg c21).symm.trans h
    refine oe_aload_n (pc := 195) d_X12_goThrough_195 rfl ?_
    refine oe_getf (pc := 196) d_X12_goThrough_196 fl_X12_262 ock12 (k := 38) (Nat.le_of_ble_eq_true rfl) rfl (oLt hK (a := 59) (Nat.le_of_ble_eq_true rfl)) (oSho hK (a := 59) (Nat.le_of_ble_eq_true rfl) rfl) ?_
    refine oe_if_ge (pc := 199) (tgt := 206) d_X12_goThrough_199 (by decide) (fun c25 => ?_) (fun c25 => ?_)
    · replace h := (if_pos c25).symm.trans h
      exact v_X12_goThrough_206 hd hK  hr14 h
    · replace h := (if_neg c25).symm.trans h
      refine oe_iload_n (pc := 202) d_X12_goThrough_202 rfl ?_
      refine oe_goto (pc := 203) (tgt := 210) d_X12_goThrough_203 (by decide) ?_
      exact v_X12_goThrough_210 hd hK  hr14 h
def f_X12_goThrough_180 (N : Nat) (K : oK) (r14 : (Int32 → Int32 → Int32 → oM → Option (Int32 × oM))) (p1 : Int32) (p2 : Int32) (p3 : Int32) (p4 : Int32) (s0 : Int32) (M : oM) : Option (Int32 × oM) :=
  (f_X12_goThrough_182 N K r14 p1 p2 p3 p4 s0 M)
set_option maxRecDepth 20000 in
theorem v_X12_goThrough_180 {X : oX} {d N : Nat} {K : oK} {r14 : (Int32 → Int32 → Int32 → oM → Option (Int32 × oM))} {p1 : Int32} {p2 : Int32} {p3 : Int32} {p4 : Int32} {s0 : Int32} {M : oM} {v : Int32} {M' : oM}  (hd : 3 ≤ d) (hK : oSR K)  (hr14 : ∀ (p1 : Int32) (p2 : Int32) (p3 : Int32) (M : oM) (v : Int32) (M' : oM) , r14 p1 p2 p3 M = some (v, M') → oEv X d J_X12_goThrough 14 [some (.ref 59), some (.int p1), some (.int p2), some (.int p3), none, none, none, none] [] K M (some (.int v)) K M') (h : f_X12_goThrough_180 N K r14 p1 p2 p3 p4 s0 M = some (v, M')) : oEv X d J_X12_goThrough 180 [some (.ref 59), some (.int p1), some (.int p2), some (.int p3), some (.int p4), none, none, none] [(.int s0)] K M (some (.int v)) K M' := by
  unfold f_X12_goThrough_180 at h
  refine oe_istore (pc := 180) (L2 := [_, _, _, _, _, _, _, _]) d_X12_goThrough_180 rfl (Nat.le_of_ble_eq_true rfl) rfl ?_
  exact v_X12_goThrough_182 hd hK  hr14 h
def f_X12_goThrough_175 (N : Nat) (K : oK) (r14 : (Int32 → Int32 → Int32 → oM → Option (Int32 × oM))) (p1 : Int32) (p2 : Int32) (p3 : Int32) (p4 : Int32) (M : oM) : Option (Int32 × oM) :=
  (f_X12_goThrough_180 N K r14 p1 p2 p3 p4 1 M)
set_option maxRecDepth 20000 in
theorem v_X12_goThrough_175 {X : oX} {d N : Nat} {K : oK} {r14 : (Int32 → Int32 → Int32 → oM → Option (Int32 × oM))} {p1 : Int32} {p2 : Int32} {p3 : Int32} {p4 : Int32} {M : oM} {v : Int32} {M' : oM}  (hd : 3 ≤ d) (hK : oSR K)  (hr14 : ∀ (p1 : Int32) (p2 : Int32) (p3 : Int32) (M : oM) (v : Int32) (M' : oM) , r14 p1 p2 p3 M = some (v, M') → oEv X d J_X12_goThrough 14 [some (.ref 59), some (.int p1), some (.int p2), some (.int p3), none, none, none, none] [] K M (some (.int v)) K M') (h : f_X12_goThrough_175 N K r14 p1 p2 p3 p4 M = some (v, M')) : oEv X d J_X12_goThrough 175 [some (.ref 59), some (.int p1), some (.int p2), some (.int p3), some (.int p4), none, none, none] [] K M (some (.int v)) K M' := by
  unfold f_X12_goThrough_175 at h
  refine oe_iconst (pc := 175) (v := 1) d_X12_goThrough_175 rfl ?_
  refine oe_goto (pc := 176) (tgt := 180) d_X12_goThrough_176 (by decide) ?_
  exact v_X12_goThrough_180 hd hK  hr14 h
def f_X12_goThrough_144 (N : Nat) (K : oK) (r14 : (Int32 → Int32 → Int32 → oM → Option (Int32 × oM))) (p1 : Int32) (p3 : Int32) (p4 : Int32) (p6 : Int32) (p7 : Int32) (s0 : Int32) (s1 : Int32) (s3 : Int32) (s4 : Int32) (M : oM) : Option (Int32 × oM) :=
  oB2 (f_X12_losesAt N K s1 s0 M) (fun v15 M16 => oIx (p3) 25 ((if p7 < p6 then (f_X12_goThrough_175 N K r14 p1 ((s4 - (s3 * v15)) - ((43 : Int32) * (M16.1 85 (p3 : Int32).toNatClampNeg))) p3 p4 M16) else (if ((s4 - (s3 * v15)) - ((43 : Int32) * (M16.1 85 (p3 : Int32).toNatClampNeg))) ≤ p7 then (f_X12_goThrough_180 N K r14 p1 ((s4 - (s3 * v15)) - ((43 : Int32) * (M16.1 85 (p3 : Int32).toNatClampNeg))) p3 p4 0 M16) else (f_X12_goThrough_175 N K r14 p1 ((s4 - (s3 * v15)) - ((43 : Int32) * (M16.1 85 (p3 : Int32).toNatClampNeg))) p3 p4 M16)))))
set_option maxRecDepth 20000 in
theorem v_X12_goThrough_144 {X : oX} {d N : Nat} {K : oK} {r14 : (Int32 → Int32 → Int32 → oM → Option (Int32 × oM))} {p1 : Int32} {p3 : Int32} {p4 : Int32} {p6 : Int32} {p7 : Int32} {s0 : Int32} {s1 : Int32} {s3 : Int32} {s4 : Int32} {M : oM} {v : Int32} {M' : oM}  (hd : 3 ≤ d) (hK : oSR K)  (hr14 : ∀ (p1 : Int32) (p2 : Int32) (p3 : Int32) (M : oM) (v : Int32) (M' : oM) , r14 p1 p2 p3 M = some (v, M') → oEv X d J_X12_goThrough 14 [some (.ref 59), some (.int p1), some (.int p2), some (.int p3), none, none, none, none] [] K M (some (.int v)) K M') (h : f_X12_goThrough_144 N K r14 p1 p3 p4 p6 p7 s0 s1 s3 s4 M = some (v, M')) : oEv X d J_X12_goThrough 144 [some (.ref 59), some (.int p1), none, some (.int p3), some (.int p4), none, some (.int p6), some (.int p7)] [(.int s0), (.int s1), (.ref 59), (.int s3), (.int s4)] K M (some (.int v)) K M' := by
  unfold f_X12_goThrough_144 at h
  obtain ⟨v15, M16, q17, h⟩ := oB2_some h
  refine oe_callV (pc := 144) (ci := 12) d_X12_goThrough_144 (v_X12_losesAt hK  q17) (by omega) ml_X12_213 jJ_X12_losesAt rfl rfl (oLt hK (a := 59) (Nat.le_of_ble_eq_true rfl)) (oSho hK (a := 59) (Nat.le_of_ble_eq_true rfl) rfl) ock12 rfl (Nat.le_of_ble_eq_true rfl) ⟨Nat.le_refl _, Nat.le_refl _⟩ ⟨Nat.le_refl _, Nat.le_refl _⟩ ?_
  refine oe_imul (pc := 147) d_X12_goThrough_147 ?_
  refine oe_isub (pc := 148) d_X12_goThrough_148 ?_
  refine oe_istore_n (pc := 149) (L2 := [_, _, _, _, _, _, _, _]) d_X12_goThrough_149 rfl rfl (Nat.le_of_ble_eq_true rfl) rfl ?_
  refine oe_iload_n (pc := 150) d_X12_goThrough_150 rfl ?_
  refine oe_bipush (pc := 151) (v := 43) d_X12_goThrough_151 rfl ?_
  refine oe_aload_n (pc := 153) d_X12_goThrough_153 rfl ?_
  refine oe_getr (pc := 154) d_X12_goThrough_154 fl_X12_86 ock12 (k := 36) (b := 85) (Nat.le_of_ble_eq_true rfl) (by decide) (oLt hK (a := 59) (Nat.le_of_ble_eq_true rfl)) (oSho hK (a := 59) (Nat.le_of_ble_eq_true rfl) rfl) (oRfK hK rfl) ?_
  refine oe_iload_n (pc := 157) d_X12_goThrough_157 rfl ?_
  obtain ⟨i18, h⟩ := oIx_some h
  refine oe_iald (pc := 158) d_X12_goThrough_158 (oLt hK (a := 85) (Nat.le_of_ble_eq_true rfl)) (oSha hK (a := 85) (Nat.le_of_ble_eq_true rfl) rfl) i18 ?_
  refine oe_imul (pc := 159) d_X12_goThrough_159 ?_
  refine oe_isub (pc := 160) d_X12_goThrough_160 ?_
  refine oe_istore_n (pc := 161) (L2 := [_, _, _, _, _, _, _, _]) d_X12_goThrough_161 rfl rfl (Nat.le_of_ble_eq_true rfl) rfl ?_
  refine oe_iload (pc := 162) d_X12_goThrough_162 rfl ?_
  refine oe_iload (pc := 164) d_X12_goThrough_164 rfl ?_
  refine oe_icmp_gt (pc := 166) (tgt := 175) d_X12_goThrough_166 (by decide) (fun c19 => ?_) (fun c19 => ?_)
  · replace h := (if_pos c19).symm.trans h
    refine oEv.fg [true, true, true, true, true, false, false, false] ?_
    exact v_X12_goThrough_175 hd hK  hr14 h
  · replace h := (if_neg c19).symm.trans h
    refine oe_iload_n (pc := 169) d_X12_goThrough_169 rfl ?_
    refine oe_iload (pc := 170) d_X12_goThrough_170 rfl ?_
    refine oe_icmp_le (pc := 172) (tgt := 179) d_X12_goThrough_172 (by decide) (fun c26 => ?_) (fun c26 => ?_)
    · replace h := (if_pos c26).symm.trans h
      refine oe_iconst (pc := 179) (v := 0) d_X12_goThrough_179 rfl ?_
      refine oEv.fg [true, true, true, true, true, false, false, false] ?_
      exact v_X12_goThrough_180 hd hK  hr14 h
    · replace h := (if_neg c26).symm.trans h
      refine oEv.fg [true, true, true, true, true, false, false, false] ?_
      exact v_X12_goThrough_175 hd hK  hr14 h
def f_X12_goThrough_41 (N : Nat) (K : oK) (r14 : (Int32 → Int32 → Int32 → oM → Option (Int32 × oM))) (p1 : Int32) (p2 : Int32) (p3 : Int32) (s0 : Int32) (M : oM) : Option (Int32 × oM) :=
  oIx (p3) 25 ((if (M.1 81 (p3 : Int32).toNatClampNeg) = 0 then oIx (p3) 25 (oB2 (f_X12_liftsAt N K (M.1 82 (p3 : Int32).toNatClampNeg) p1 M) (fun v28 M29 => (f_X12_goThrough_182 N K r14 p1 (p2 + v28) p3 s0 0 M29))) else oIx (p3) 25 ((if (M.1 81 (p3 : Int32).toNatClampNeg) = 2 then (f_X12_goThrough_182 N K r14 p1 0 p3 s0 0 M) else oIx (p3) 25 (oIx (((12 : Int32) + (M.1 83 (p3 : Int32).toNatClampNeg))) 21 (oIx (p3) 25 (oIx ((M.1 82 (p3 : Int32).toNatClampNeg)) 20 (oIx (p3) 25 (oIx (p3) 25 ((if (M.1 84 (p3 : Int32).toNatClampNeg) = 2 then (f_X12_goThrough_144 N K r14 p1 p3 s0 p2 (M.1 60 (((12 : Int32) + (M.1 83 (p3 : Int32).toNatClampNeg)) : Int32).toNatClampNeg) ((p1 + 1) / 2) (M.1 83 (p3 : Int32).toNatClampNeg) (M.1 66 ((M.1 82 (p3 : Int32).toNatClampNeg) : Int32).toNatClampNeg) p2 M) else (f_X12_goThrough_144 N K r14 p1 p3 s0 p2 (M.1 60 (((12 : Int32) + (M.1 83 (p3 : Int32).toNatClampNeg)) : Int32).toNatClampNeg) p1 (M.1 83 (p3 : Int32).toNatClampNeg) (M.1 66 ((M.1 82 (p3 : Int32).toNatClampNeg) : Int32).toNatClampNeg) p2 M))))))))))))
set_option maxRecDepth 20000 in
theorem v_X12_goThrough_41 {X : oX} {d N : Nat} {K : oK} {r14 : (Int32 → Int32 → Int32 → oM → Option (Int32 × oM))} {p1 : Int32} {p2 : Int32} {p3 : Int32} {s0 : Int32} {M : oM} {v : Int32} {M' : oM}  (hd : 3 ≤ d) (hK : oSR K)  (hr14 : ∀ (p1 : Int32) (p2 : Int32) (p3 : Int32) (M : oM) (v : Int32) (M' : oM) , r14 p1 p2 p3 M = some (v, M') → oEv X d J_X12_goThrough 14 [some (.ref 59), some (.int p1), some (.int p2), some (.int p3), none, none, none, none] [] K M (some (.int v)) K M') (h : f_X12_goThrough_41 N K r14 p1 p2 p3 s0 M = some (v, M')) : oEv X d J_X12_goThrough 41 [some (.ref 59), some (.int p1), some (.int p2), some (.int p3), none, none, none, none] [(.int s0)] K M (some (.int v)) K M' := by
  unfold f_X12_goThrough_41 at h
  refine oe_istore (pc := 41) (L2 := [_, _, _, _, _, _, _, _]) d_X12_goThrough_41 rfl (Nat.le_of_ble_eq_true rfl) rfl ?_
  refine oe_iconst (pc := 43) (v := 0) d_X12_goThrough_43 rfl ?_
  refine oe_istore (pc := 44) (L2 := [_, _, _, _, _, _, _, _]) d_X12_goThrough_44 rfl (Nat.le_of_ble_eq_true rfl) rfl ?_
  refine oe_aload_n (pc := 46) d_X12_goThrough_46 rfl ?_
  refine oe_getr (pc := 47) d_X12_goThrough_47 fl_X12_74 ock12 (k := 32) (b := 81) (Nat.le_of_ble_eq_true rfl) (by decide) (oLt hK (a := 59) (Nat.le_of_ble_eq_true rfl)) (oSho hK (a := 59) (Nat.le_of_ble_eq_true rfl) rfl) (oRfK hK rfl) ?_
  refine oe_iload_n (pc := 50) d_X12_goThrough_50 rfl ?_
  obtain ⟨i4, h⟩ := oIx_some h
  refine oe_iald (pc := 51) d_X12_goThrough_51 (oLt hK (a := 81) (Nat.le_of_ble_eq_true rfl)) (oSha hK (a := 81) (Nat.le_of_ble_eq_true rfl) rfl) i4 ?_
  refine oe_if_ne (pc := 52) (tgt := 72) d_X12_goThrough_52 (by decide) (fun c5 => ?_) (fun c5 => ?_)
  · replace h := (if_neg c5).symm.trans h
    refine oe_aload_n (pc := 72) d_X12_goThrough_72 rfl ?_
    refine oe_getr (pc := 73) d_X12_goThrough_73 fl_X12_74 ock12 (k := 32) (b := 81) (Nat.le_of_ble_eq_true rfl) (by decide) (oLt hK (a := 59) (Nat.le_of_ble_eq_true rfl)) (oSho hK (a := 59) (Nat.le_of_ble_eq_true rfl) rfl) (oRfK hK rfl) ?_
    refine oe_iload_n (pc := 76) d_X12_goThrough_76 rfl ?_
    obtain ⟨i6, h⟩ := oIx_some h
    refine oe_iald (pc := 77) d_X12_goThrough_77 (oLt hK (a := 81) (Nat.le_of_ble_eq_true rfl)) (oSha hK (a := 81) (Nat.le_of_ble_eq_true rfl) rfl) i6 ?_
    refine oe_iconst (pc := 78) (v := 2) d_X12_goThrough_78 rfl ?_
    refine oe_icmp_ne (pc := 79) (tgt := 87) d_X12_goThrough_79 (by decide) (fun c7 => ?_) (fun c7 => ?_)
    · replace h := (if_neg c7).symm.trans h
      refine oe_iload_n (pc := 87) d_X12_goThrough_87 rfl ?_
      refine oe_istore (pc := 88) (L2 := [_, _, _, _, _, _, _, _]) d_X12_goThrough_88 rfl (Nat.le_of_ble_eq_true rfl) rfl ?_
      refine oe_aload_n (pc := 90) d_X12_goThrough_90 rfl ?_
      refine oe_getr (pc := 91) d_X12_goThrough_91 fl_X12_7 ock12 (k := 0) (b := 60) (Nat.le_of_ble_eq_true rfl) (by decide) (oLt hK (a := 59) (Nat.le_of_ble_eq_true rfl)) (oSho hK (a := 59) (Nat.le_of_ble_eq_true rfl) rfl) (oRfK hK rfl) ?_
      refine oe_bipush (pc := 94) (v := 12) d_X12_goThrough_94 rfl ?_
      refine oe_aload_n (pc := 96) d_X12_goThrough_96 rfl ?_
      refine oe_getr (pc := 97) d_X12_goThrough_97 fl_X12_80 ock12 (k := 34) (b := 83) (Nat.le_of_ble_eq_true rfl) (by decide) (oLt hK (a := 59) (Nat.le_of_ble_eq_true rfl)) (oSho hK (a := 59) (Nat.le_of_ble_eq_true rfl) rfl) (oRfK hK rfl) ?_
      refine oe_iload_n (pc := 100) d_X12_goThrough_100 rfl ?_
      obtain ⟨i8, h⟩ := oIx_some h
      refine oe_iald (pc := 101) d_X12_goThrough_101 (oLt hK (a := 83) (Nat.le_of_ble_eq_true rfl)) (oSha hK (a := 83) (Nat.le_of_ble_eq_true rfl) rfl) i8 ?_
      refine oe_iadd (pc := 102) d_X12_goThrough_102 ?_
      obtain ⟨i9, h⟩ := oIx_some h
      refine oe_iald (pc := 103) d_X12_goThrough_103 (oLt hK (a := 60) (Nat.le_of_ble_eq_true rfl)) (oSha hK (a := 60) (Nat.le_of_ble_eq_true rfl) rfl) i9 ?_
      refine oe_istore (pc := 104) (L2 := [_, _, _, _, _, _, _, _]) d_X12_goThrough_104 rfl (Nat.le_of_ble_eq_true rfl) rfl ?_
      refine oe_iload_n (pc := 106) d_X12_goThrough_106 rfl ?_
      refine oe_aload_n (pc := 107) d_X12_goThrough_107 rfl ?_
      refine oe_getr (pc := 108) d_X12_goThrough_108 fl_X12_28 ock12 (k := 10) (b := 66) (Nat.le_of_ble_eq_true rfl) (by decide) (oLt hK (a := 59) (Nat.le_of_ble_eq_true rfl)) (oSho hK (a := 59) (Nat.le_of_ble_eq_true rfl) rfl) (oRfK hK rfl) ?_
      refine oe_aload_n (pc := 111) d_X12_goThrough_111 rfl ?_
      refine oe_getr (pc := 112) d_X12_goThrough_112 fl_X12_77 ock12 (k := 33) (b := 82) (Nat.le_of_ble_eq_true rfl) (by decide) (oLt hK (a := 59) (Nat.le_of_ble_eq_true rfl)) (oSho hK (a := 59) (Nat.le_of_ble_eq_true rfl) rfl) (oRfK hK rfl) ?_
      refine oe_iload_n (pc := 115) d_X12_goThrough_115 rfl ?_
      obtain ⟨i10, h⟩ := oIx_some h
      refine oe_iald (pc := 116) d_X12_goThrough_116 (oLt hK (a := 82) (Nat.le_of_ble_eq_true rfl)) (oSha hK (a := 82) (Nat.le_of_ble_eq_true rfl) rfl) i10 ?_
      obtain ⟨i11, h⟩ := oIx_some h
      refine oe_iald (pc := 117) d_X12_goThrough_117 (oLt hK (a := 66) (Nat.le_of_ble_eq_true rfl)) (oSha hK (a := 66) (Nat.le_of_ble_eq_true rfl) rfl) i11 ?_
      refine oe_aload_n (pc := 118) d_X12_goThrough_118 rfl ?_
      refine oe_aload_n (pc := 119) d_X12_goThrough_119 rfl ?_
      refine oe_getr (pc := 120) d_X12_goThrough_120 fl_X12_80 ock12 (k := 34) (b := 83) (Nat.le_of_ble_eq_true rfl) (by decide) (oLt hK (a := 59) (Nat.le_of_ble_eq_true rfl)) (oSho hK (a := 59) (Nat.le_of_ble_eq_true rfl) rfl) (oRfK hK rfl) ?_
      refine oe_iload_n (pc := 123) d_X12_goThrough_123 rfl ?_
      obtain ⟨i12, h⟩ := oIx_some h
      refine oe_iald (pc := 124) d_X12_goThrough_124 (oLt hK (a := 83) (Nat.le_of_ble_eq_true rfl)) (oSha hK (a := 83) (Nat.le_of_ble_eq_true rfl) rfl) i12 ?_
      refine oe_aload_n (pc := 125) d_X12_goThrough_125 rfl ?_
      refine oe_getr (pc := 126) d_X12_goThrough_126 fl_X12_83 ock12 (k := 35) (b := 84) (Nat.le_of_ble_eq_true rfl) (by decide) (oLt hK (a := 59) (Nat.le_of_ble_eq_true rfl)) (oSho hK (a := 59) (Nat.le_of_ble_eq_true rfl) rfl) (oRfK hK rfl) ?_
      refine oe_iload_n (pc := 129) d_X12_goThrough_129 rfl ?_
      obtain ⟨i13, h⟩ := oIx_some h
      refine oe_iald (pc := 130) d_X12_goThrough_130 (oLt hK (a := 84) (Nat.le_of_ble_eq_true rfl)) (oSha hK (a := 84) (Nat.le_of_ble_eq_true rfl) rfl) i13 ?_
      refine oe_iconst (pc := 131) (v := 2) d_X12_goThrough_131 rfl ?_
      refine oe_icmp_ne (pc := 132) (tgt := 143) d_X12_goThrough_132 (by decide) (fun c14 => ?_) (fun c14 => ?_)
      · replace h := (if_neg c14).symm.trans h
        refine oe_iload_n (pc := 143) d_X12_goThrough_143 rfl ?_
        refine oEv.fg [true, true, false, true, true, false, true, true] ?_
        exact v_X12_goThrough_144 hd hK  hr14 h
      · replace h := (if_pos c14).symm.trans h
        refine oe_iload_n (pc := 135) d_X12_goThrough_135 rfl ?_
        refine oe_iconst (pc := 136) (v := 1) d_X12_goThrough_136 rfl ?_
        refine oe_iadd (pc := 137) d_X12_goThrough_137 ?_
        refine oe_iconst (pc := 138) (v := 2) d_X12_goThrough_138 rfl ?_
        refine oe_idiv (pc := 139) d_X12_goThrough_139 (by decide) ?_
        refine oe_goto (pc := 140) (tgt := 144) d_X12_goThrough_140 (by decide) ?_
        refine oEv.fg [true, true, false, true, true, false, true, true] ?_
        exact v_X12_goThrough_144 hd hK  hr14 h
    · replace h := (if_pos c7).symm.trans h
      refine oe_iconst (pc := 82) (v := 0) d_X12_goThrough_82 rfl ?_
      refine oe_istore_n (pc := 83) (L2 := [_, _, _, _, _, _, _, _]) d_X12_goThrough_83 rfl rfl (Nat.le_of_ble_eq_true rfl) rfl ?_
      refine oe_goto (pc := 84) (tgt := 182) d_X12_goThrough_84 (by decide) ?_
      exact v_X12_goThrough_182 hd hK  hr14 h
  · replace h := (if_pos c5).symm.trans h
    refine oe_iload_n (pc := 55) d_X12_goThrough_55 rfl ?_
    refine oe_aload_n (pc := 56) d_X12_goThrough_56 rfl ?_
    refine oe_aload_n (pc := 57) d_X12_goThrough_57 rfl ?_
    refine oe_getr (pc := 58) d_X12_goThrough_58 fl_X12_77 ock12 (k := 33) (b := 82) (Nat.le_of_ble_eq_true rfl) (by decide) (oLt hK (a := 59) (Nat.le_of_ble_eq_true rfl)) (oSho hK (a := 59) (Nat.le_of_ble_eq_true rfl) rfl) (oRfK hK rfl) ?_
    refine oe_iload_n (pc := 61) d_X12_goThrough_61 rfl ?_
    obtain ⟨i27, h⟩ := oIx_some h
    refine oe_iald (pc := 62) d_X12_goThrough_62 (oLt hK (a := 82) (Nat.le_of_ble_eq_true rfl)) (oSha hK (a := 82) (Nat.le_of_ble_eq_true rfl) rfl) i27 ?_
    refine oe_iload_n (pc := 63) d_X12_goThrough_63 rfl ?_
    obtain ⟨v28, M29, q30, h⟩ := oB2_some h
    refine oe_callV (pc := 64) (ci := 12) d_X12_goThrough_64 (v_X12_liftsAt hK  q30) (by omega) ml_X12_219 jJ_X12_liftsAt rfl rfl (oLt hK (a := 59) (Nat.le_of_ble_eq_true rfl)) (oSho hK (a := 59) (Nat.le_of_ble_eq_true rfl) rfl) ock12 rfl (Nat.le_of_ble_eq_true rfl) ⟨Nat.le_refl _, Nat.le_refl _⟩ ⟨Nat.le_refl _, Nat.le_refl _⟩ ?_
    refine oe_iadd (pc := 67) d_X12_goThrough_67 ?_
    refine oe_istore_n (pc := 68) (L2 := [_, _, _, _, _, _, _, _]) d_X12_goThrough_68 rfl rfl (Nat.le_of_ble_eq_true rfl) rfl ?_
    refine oe_goto (pc := 69) (tgt := 182) d_X12_goThrough_69 (by decide) ?_
    exact v_X12_goThrough_182 hd hK  hr14 h
def f_X12_goThrough_40 (N : Nat) (K : oK) (r14 : (Int32 → Int32 → Int32 → oM → Option (Int32 × oM))) (p1 : Int32) (p2 : Int32) (p3 : Int32) (M : oM) : Option (Int32 × oM) :=
  (f_X12_goThrough_41 N K r14 p1 p2 p3 0 M)
set_option maxRecDepth 20000 in
theorem v_X12_goThrough_40 {X : oX} {d N : Nat} {K : oK} {r14 : (Int32 → Int32 → Int32 → oM → Option (Int32 × oM))} {p1 : Int32} {p2 : Int32} {p3 : Int32} {M : oM} {v : Int32} {M' : oM}  (hd : 3 ≤ d) (hK : oSR K)  (hr14 : ∀ (p1 : Int32) (p2 : Int32) (p3 : Int32) (M : oM) (v : Int32) (M' : oM) , r14 p1 p2 p3 M = some (v, M') → oEv X d J_X12_goThrough 14 [some (.ref 59), some (.int p1), some (.int p2), some (.int p3), none, none, none, none] [] K M (some (.int v)) K M') (h : f_X12_goThrough_40 N K r14 p1 p2 p3 M = some (v, M')) : oEv X d J_X12_goThrough 40 [some (.ref 59), some (.int p1), some (.int p2), some (.int p3), none, none, none, none] [] K M (some (.int v)) K M' := by
  unfold f_X12_goThrough_40 at h
  refine oe_iconst (pc := 40) (v := 0) d_X12_goThrough_40 rfl ?_
  exact v_X12_goThrough_41 hd hK  hr14 h
def f_X12_goThrough_14 (N : Nat) (K : oK)  : Nat → Int32 → Int32 → Int32 → oM → Option (Int32 × oM)
  | 0, _, _, _, _ => none
  | n + 1, p1, p2, p3, M => (fun r14 => (if (M.1 59 31) ≤ p3 then some (p2, M) else oIx (p3) 25 ((if (M.1 81 (p3 : Int32).toNatClampNeg) = 1 then (f_X12_goThrough_40 N K r14 p1 p2 p3 M) else (if 0 ≤ p2 then (f_X12_goThrough_40 N K r14 p1 p2 p3 M) else (f_X12_goThrough_41 N K r14 p1 p2 p3 1 M)))))) (f_X12_goThrough_14 N K  n)
set_option maxRecDepth 20000 in
theorem v_X12_goThrough_14_L {X : oX} {d N : Nat} {K : oK}  (hd : 3 ≤ d) (hK : oSR K)  : ∀ (n : Nat) (p1 : Int32) (p2 : Int32) (p3 : Int32) (M : oM) (v : Int32) (M' : oM)  , f_X12_goThrough_14 N K  n p1 p2 p3 M = some (v, M') → oEv X d J_X12_goThrough 14 [some (.ref 59), some (.int p1), some (.int p2), some (.int p3), none, none, none, none] [] K M (some (.int v)) K M' := by
  intro n
  induction n with
  | zero =>
    intro p1 p2 p3 M v M'   h
    cases h
  | succ n hr14 =>
    intro p1 p2 p3 M v M'   h
    refine oe_iload_n (pc := 14) d_X12_goThrough_14 rfl ?_
    refine oe_aload_n (pc := 15) d_X12_goThrough_15 rfl ?_
    refine oe_getf (pc := 16) d_X12_goThrough_16 fl_X12_246 ock12 (k := 31) (Nat.le_of_ble_eq_true rfl) rfl (oLt hK (a := 59) (Nat.le_of_ble_eq_true rfl)) (oSho hK (a := 59) (Nat.le_of_ble_eq_true rfl) rfl) ?_
    refine oe_icmp_ge (pc := 19) (tgt := 248) d_X12_goThrough_19 (by decide) (fun c1 => ?_) (fun c1 => ?_)
    · replace h := (if_pos c1).symm.trans h
      refine oe_iload_n (pc := 248) d_X12_goThrough_248 rfl ?_
      obtain ⟨rfl, rfl⟩ := oRes h
      exact oe_iret (pc := 249) d_X12_goThrough_249 ⟨_, rfl, rfl⟩
    · replace h := (if_neg c1).symm.trans h
      refine oe_aload_n (pc := 22) d_X12_goThrough_22 rfl ?_
      refine oe_getr (pc := 23) d_X12_goThrough_23 fl_X12_74 ock12 (k := 32) (b := 81) (Nat.le_of_ble_eq_true rfl) (by decide) (oLt hK (a := 59) (Nat.le_of_ble_eq_true rfl)) (oSho hK (a := 59) (Nat.le_of_ble_eq_true rfl) rfl) (oRfK hK rfl) ?_
      refine oe_iload_n (pc := 26) d_X12_goThrough_26 rfl ?_
      obtain ⟨i2, h⟩ := oIx_some h
      refine oe_iald (pc := 27) d_X12_goThrough_27 (oLt hK (a := 81) (Nat.le_of_ble_eq_true rfl)) (oSha hK (a := 81) (Nat.le_of_ble_eq_true rfl) rfl) i2 ?_
      refine oe_iconst (pc := 28) (v := 1) d_X12_goThrough_28 rfl ?_
      refine oe_icmp_eq (pc := 29) (tgt := 40) d_X12_goThrough_29 (by decide) (fun c3 => ?_) (fun c3 => ?_)
      · replace h := (if_pos c3).symm.trans h
        exact v_X12_goThrough_40 hd hK  hr14 h
      · replace h := (if_neg c3).symm.trans h
        refine oe_iload_n (pc := 32) d_X12_goThrough_32 rfl ?_
        refine oe_if_ge (pc := 33) (tgt := 40) d_X12_goThrough_33 (by decide) (fun c31 => ?_) (fun c31 => ?_)
        · replace h := (if_pos c31).symm.trans h
          exact v_X12_goThrough_40 hd hK  hr14 h
        · replace h := (if_neg c31).symm.trans h
          refine oe_iconst (pc := 36) (v := 1) d_X12_goThrough_36 rfl ?_
          refine oe_goto (pc := 37) (tgt := 41) d_X12_goThrough_37 (by decide) ?_
          exact v_X12_goThrough_41 hd hK  hr14 h
theorem v_X12_goThrough_14 {X : oX} {d N : Nat} {K : oK}  {p1 : Int32} {p2 : Int32} {p3 : Int32} {M : oM} {v : Int32} {M' : oM}  (hd : 3 ≤ d) (hK : oSR K)   (h : f_X12_goThrough_14 N K  N p1 p2 p3 M = some (v, M')) : oEv X d J_X12_goThrough 14 [some (.ref 59), some (.int p1), some (.int p2), some (.int p3), none, none, none, none] [] K M (some (.int v)) K M' := v_X12_goThrough_14_L hd hK  N p1 p2 p3 M v M'   h
def f_X12_goThrough (N : Nat) (K : oK) (p1 : Int32) (M : oM) : Option (Int32 × oM) :=
  (f_X12_goThrough_14 N K  N p1 0 0 (oUp (oUp M 59 38 ((-1) : Int32)) 59 39 ((-1) : Int32)))
set_option maxRecDepth 20000 in
theorem v_X12_goThrough {X : oX} {N : Nat} {K : oK} {p1 : Int32} {M : oM} {v : Int32} {M' : oM} (hK : oSR K)  (h : f_X12_goThrough N K p1 M = some (v, M')) : oMet X 3 J_X12_goThrough [(.ref 59), (.int p1)] K M (some (.int v)) K M' := by
  unfold f_X12_goThrough at h
  refine oMet_of (L := [some (.ref 59), some (.int p1), none, none, none, none, none, none]) jJ_X12_goThrough.1 rfl (Nat.le_of_ble_eq_true rfl) rfl (Nat.le_refl _) (Nat.le_refl _) ?_
  have hd : 3 ≤ 3 := Nat.le_refl _
  refine oe_iconst (pc := 0) (v := 0) d_X12_goThrough_0 rfl ?_
  refine oe_istore_n (pc := 1) (L2 := [_, _, _, _, _, _, _, _]) d_X12_goThrough_1 rfl rfl (Nat.le_of_ble_eq_true rfl) rfl ?_
  refine oe_aload_n (pc := 2) d_X12_goThrough_2 rfl ?_
  refine oe_iconst (pc := 3) (v := (-1)) d_X12_goThrough_3 rfl ?_
  refine oe_putf (pc := 4) d_X12_goThrough_4 fl_X12_262 ock12 (k := 38) (Nat.le_of_ble_eq_true rfl) rfl rfl (oLt hK (a := 59) (Nat.le_of_ble_eq_true rfl)) (oSho hK (a := 59) (Nat.le_of_ble_eq_true rfl) rfl) ?_
  refine oe_aload_n (pc := 7) d_X12_goThrough_7 rfl ?_
  refine oe_iconst (pc := 8) (v := (-1)) d_X12_goThrough_8 rfl ?_
  refine oe_putf (pc := 9) d_X12_goThrough_9 fl_X12_265 ock12 (k := 39) (Nat.le_of_ble_eq_true rfl) rfl rfl (oLt hK (a := 59) (Nat.le_of_ble_eq_true rfl)) (oSho hK (a := 59) (Nat.le_of_ble_eq_true rfl) rfl) ?_
  refine oe_iconst (pc := 12) (v := 0) d_X12_goThrough_12 rfl ?_
  refine oe_istore_n (pc := 13) (L2 := [_, _, _, _, _, _, _, _]) d_X12_goThrough_13 rfl rfl (Nat.le_of_ble_eq_true rfl) rfl ?_
  exact v_X12_goThrough_14 hd hK   h
theorem d_X12_greatest_0 : decode J_X12_greatest.2.1 0 = .ok (.sipush 600, 3) := by decide +kernel
theorem d_X12_greatest_3 : decode J_X12_greatest.2.1 3 = .ok (.istore 4, 2) := by decide +kernel
theorem d_X12_greatest_5 : decode J_X12_greatest.2.1 5 = .ok (.iload 4, 2) := by decide +kernel
theorem d_X12_greatest_7 : decode J_X12_greatest.2.1 7 = .ok (.iload_n 3, 1) := by decide +kernel
theorem d_X12_greatest_8 : decode J_X12_greatest.2.1 8 = .ok (.if_icmp .le 44, 3) := by decide +kernel
theorem d_X12_greatest_11 : decode J_X12_greatest.2.1 11 = .ok (.aload_n 0, 1) := by decide +kernel
theorem d_X12_greatest_12 : decode J_X12_greatest.2.1 12 = .ok (.iload 4, 2) := by decide +kernel
theorem d_X12_greatest_14 : decode J_X12_greatest.2.1 14 = .ok (.invokevirtual 268, 3) := by decide +kernel
theorem d_X12_greatest_17 : decode J_X12_greatest.2.1 17 = .ok (.istore 5, 2) := by decide +kernel
theorem d_X12_greatest_19 : decode J_X12_greatest.2.1 19 = .ok (.iload 5, 2) := by decide +kernel
theorem d_X12_greatest_21 : decode J_X12_greatest.2.1 21 = .ok (.iload_n 1, 1) := by decide +kernel
theorem d_X12_greatest_22 : decode J_X12_greatest.2.1 22 = .ok (.if_icmp .lt 24, 3) := by decide +kernel
theorem d_X12_greatest_25 : decode J_X12_greatest.2.1 25 = .ok (.iload_n 2, 1) := by decide +kernel
theorem d_X12_greatest_26 : decode J_X12_greatest.2.1 26 = .ok (.ifCond .eq 10, 3) := by decide +kernel
theorem d_X12_greatest_29 : decode J_X12_greatest.2.1 29 = .ok (.aload_n 0, 1) := by decide +kernel
theorem d_X12_greatest_30 : decode J_X12_greatest.2.1 30 = .ok (.getfield 265, 3) := by decide +kernel
theorem d_X12_greatest_33 : decode J_X12_greatest.2.1 33 = .ok (.goto 7, 3) := by decide +kernel
theorem d_X12_greatest_36 : decode J_X12_greatest.2.1 36 = .ok (.aload_n 0, 1) := by decide +kernel
theorem d_X12_greatest_37 : decode J_X12_greatest.2.1 37 = .ok (.getfield 262, 3) := by decide +kernel
theorem d_X12_greatest_40 : decode J_X12_greatest.2.1 40 = .ok (.ifCond .ge 6, 3) := by decide +kernel
theorem d_X12_greatest_43 : decode J_X12_greatest.2.1 43 = .ok (.iload 4, 2) := by decide +kernel
theorem d_X12_greatest_45 : decode J_X12_greatest.2.1 45 = .ok (.ireturn, 1) := by decide +kernel
theorem d_X12_greatest_46 : decode J_X12_greatest.2.1 46 = .ok (.iinc 4 (-1), 3) := by decide +kernel
theorem d_X12_greatest_49 : decode J_X12_greatest.2.1 49 = .ok (.goto (-44), 3) := by decide +kernel
theorem d_X12_greatest_52 : decode J_X12_greatest.2.1 52 = .ok (.iload_n 3, 1) := by decide +kernel
theorem d_X12_greatest_53 : decode J_X12_greatest.2.1 53 = .ok (.ireturn, 1) := by decide +kernel
def f_X12_greatest_46 (N : Nat) (K : oK) (r5 : (Int32 → Int32 → Int32 → Int32 → oM → Option (Int32 × oM))) (p1 : Int32) (p2 : Int32) (p3 : Int32) (p4 : Int32) (M : oM) : Option (Int32 × oM) :=
  (r5 p1 p2 p3 (p4 + (-1)) M)
set_option maxRecDepth 20000 in
theorem v_X12_greatest_46 {X : oX} {d N : Nat} {K : oK} {r5 : (Int32 → Int32 → Int32 → Int32 → oM → Option (Int32 × oM))} {p1 : Int32} {p2 : Int32} {p3 : Int32} {p4 : Int32} {M : oM} {v : Int32} {M' : oM}  (hd : 4 ≤ d) (hK : oSR K)  (hr5 : ∀ (p1 : Int32) (p2 : Int32) (p3 : Int32) (p4 : Int32) (M : oM) (v : Int32) (M' : oM) , r5 p1 p2 p3 p4 M = some (v, M') → oEv X d J_X12_greatest 5 [some (.ref 59), some (.int p1), some (.int p2), some (.int p3), some (.int p4), none] [] K M (some (.int v)) K M') (h : f_X12_greatest_46 N K r5 p1 p2 p3 p4 M = some (v, M')) : oEv X d J_X12_greatest 46 [some (.ref 59), some (.int p1), some (.int p2), some (.int p3), some (.int p4), none] [] K M (some (.int v)) K M' := by
  unfold f_X12_greatest_46 at h
  refine oe_iinc (pc := 46) (v := (p4 + (-1))) (L2 := [_, _, _, _, _, _]) d_X12_greatest_46 rfl rfl rfl (Nat.le_of_ble_eq_true rfl) rfl ?_
  refine oe_goto (pc := 49) (tgt := 5) d_X12_greatest_49 (by decide) ?_
  exact hr5 _ _ _ _ _ _ _ h
def f_X12_greatest_40 (N : Nat) (K : oK) (r5 : (Int32 → Int32 → Int32 → Int32 → oM → Option (Int32 × oM))) (p1 : Int32) (p2 : Int32) (p3 : Int32) (p4 : Int32) (s0 : Int32) (M : oM) : Option (Int32 × oM) :=
  (if 0 ≤ s0 then (f_X12_greatest_46 N K r5 p1 p2 p3 p4 M) else some (p4, M))
set_option maxRecDepth 20000 in
theorem v_X12_greatest_40 {X : oX} {d N : Nat} {K : oK} {r5 : (Int32 → Int32 → Int32 → Int32 → oM → Option (Int32 × oM))} {p1 : Int32} {p2 : Int32} {p3 : Int32} {p4 : Int32} {s0 : Int32} {M : oM} {v : Int32} {M' : oM}  (hd : 4 ≤ d) (hK : oSR K)  (hr5 : ∀ (p1 : Int32) (p2 : Int32) (p3 : Int32) (p4 : Int32) (M : oM) (v : Int32) (M' : oM) , r5 p1 p2 p3 p4 M = some (v, M') → oEv X d J_X12_greatest 5 [some (.ref 59), some (.int p1), some (.int p2), some (.int p3), some (.int p4), none] [] K M (some (.int v)) K M') (h : f_X12_greatest_40 N K r5 p1 p2 p3 p4 s0 M = some (v, M')) : oEv X d J_X12_greatest 40 [some (.ref 59), some (.int p1), some (.int p2), some (.int p3), some (.int p4), none] [(.int s0)] K M (some (.int v)) K M' := by
  unfold f_X12_greatest_40 at h
  refine oe_if_ge (pc := 40) (tgt := 46) d_X12_greatest_40 (by decide) (fun c7 => ?_) (fun c7 => ?_)
  · replace h := (if_pos c7).symm.trans h
    exact v_X12_greatest_46 hd hK  hr5 h
  · replace h := (if_neg c7).symm.trans h
    refine oe_iload (pc := 43) d_X12_greatest_43 rfl ?_
    obtain ⟨rfl, rfl⟩ := oRes h
    exact oe_iret (pc := 45) d_X12_greatest_45 ⟨_, rfl, rfl⟩
def f_X12_greatest_5 (N : Nat) (K : oK)  : Nat → Int32 → Int32 → Int32 → Int32 → oM → Option (Int32 × oM)
  | 0, _, _, _, _, _ => none
  | n + 1, p1, p2, p3, p4, M => (fun r5 => (if p4 ≤ p3 then some (p3, M) else oB2 (f_X12_goThrough N K p4 M) (fun v2 M3 => (if v2 < p1 then (f_X12_greatest_46 N K r5 p1 p2 p3 p4 M3) else (if p2 = 0 then (f_X12_greatest_40 N K r5 p1 p2 p3 p4 (M3.1 59 38) M3) else (f_X12_greatest_40 N K r5 p1 p2 p3 p4 (M3.1 59 39) M3)))))) (f_X12_greatest_5 N K  n)
set_option maxRecDepth 20000 in
theorem v_X12_greatest_5_L {X : oX} {d N : Nat} {K : oK}  (hd : 4 ≤ d) (hK : oSR K)  : ∀ (n : Nat) (p1 : Int32) (p2 : Int32) (p3 : Int32) (p4 : Int32) (M : oM) (v : Int32) (M' : oM)  , f_X12_greatest_5 N K  n p1 p2 p3 p4 M = some (v, M') → oEv X d J_X12_greatest 5 [some (.ref 59), some (.int p1), some (.int p2), some (.int p3), some (.int p4), none] [] K M (some (.int v)) K M' := by
  intro n
  induction n with
  | zero =>
    intro p1 p2 p3 p4 M v M'   h
    cases h
  | succ n hr5 =>
    intro p1 p2 p3 p4 M v M'   h
    refine oe_iload (pc := 5) d_X12_greatest_5 rfl ?_
    refine oe_iload_n (pc := 7) d_X12_greatest_7 rfl ?_
    refine oe_icmp_le (pc := 8) (tgt := 52) d_X12_greatest_8 (by decide) (fun c1 => ?_) (fun c1 => ?_)
    · replace h := (if_pos c1).symm.trans h
      refine oe_iload_n (pc := 52) d_X12_greatest_52 rfl ?_
      obtain ⟨rfl, rfl⟩ := oRes h
      exact oe_iret (pc := 53) d_X12_greatest_53 ⟨_, rfl, rfl⟩
    · replace h := (if_neg c1).symm.trans h
      refine oe_aload_n (pc := 11) d_X12_greatest_11 rfl ?_
      refine oe_iload (pc := 12) d_X12_greatest_12 rfl ?_
      obtain ⟨v2, M3, q4, h⟩ := oB2_some h
      refine oe_callV (pc := 14) (ci := 12) d_X12_greatest_14 (v_X12_goThrough hK  q4) (by omega) ml_X12_268 jJ_X12_goThrough rfl rfl (oLt hK (a := 59) (Nat.le_of_ble_eq_true rfl)) (oSho hK (a := 59) (Nat.le_of_ble_eq_true rfl) rfl) ock12 rfl (Nat.le_of_ble_eq_true rfl) ⟨Nat.le_refl _, Nat.le_refl _⟩ ⟨Nat.le_refl _, Nat.le_refl _⟩ ?_
      refine oe_istore (pc := 17) (L2 := [_, _, _, _, _, _]) d_X12_greatest_17 rfl (Nat.le_of_ble_eq_true rfl) rfl ?_
      refine oe_iload (pc := 19) d_X12_greatest_19 rfl ?_
      refine oe_iload_n (pc := 21) d_X12_greatest_21 rfl ?_
      refine oe_icmp_lt (pc := 22) (tgt := 46) d_X12_greatest_22 (by decide) (fun c5 => ?_) (fun c5 => ?_)
      · replace h := (if_pos c5).symm.trans h
        refine oEv.fg [true, true, true, true, true, false] ?_
        exact v_X12_greatest_46 hd hK  hr5 h
      · replace h := (if_neg c5).symm.trans h
        refine oe_iload_n (pc := 25) d_X12_greatest_25 rfl ?_
        refine oe_if_eq (pc := 26) (tgt := 36) d_X12_greatest_26 (by decide) (fun c6 => ?_) (fun c6 => ?_)
        · replace h := (if_pos c6).symm.trans h
          refine oe_aload_n (pc := 36) d_X12_greatest_36 rfl ?_
          refine oe_getf (pc := 37) d_X12_greatest_37 fl_X12_262 ock12 (k := 38) (Nat.le_of_ble_eq_true rfl) rfl (oLt hK (a := 59) (Nat.le_of_ble_eq_true rfl)) (oSho hK (a := 59) (Nat.le_of_ble_eq_true rfl) rfl) ?_
          refine oEv.fg [true, true, true, true, true, false] ?_
          exact v_X12_greatest_40 hd hK  hr5 h
        · replace h := (if_neg c6).symm.trans h
          refine oe_aload_n (pc := 29) d_X12_greatest_29 rfl ?_
          refine oe_getf (pc := 30) d_X12_greatest_30 fl_X12_265 ock12 (k := 39) (Nat.le_of_ble_eq_true rfl) rfl (oLt hK (a := 59) (Nat.le_of_ble_eq_true rfl)) (oSho hK (a := 59) (Nat.le_of_ble_eq_true rfl) rfl) ?_
          refine oe_goto (pc := 33) (tgt := 40) d_X12_greatest_33 (by decide) ?_
          refine oEv.fg [true, true, true, true, true, false] ?_
          exact v_X12_greatest_40 hd hK  hr5 h
theorem v_X12_greatest_5 {X : oX} {d N : Nat} {K : oK}  {p1 : Int32} {p2 : Int32} {p3 : Int32} {p4 : Int32} {M : oM} {v : Int32} {M' : oM}  (hd : 4 ≤ d) (hK : oSR K)   (h : f_X12_greatest_5 N K  N p1 p2 p3 p4 M = some (v, M')) : oEv X d J_X12_greatest 5 [some (.ref 59), some (.int p1), some (.int p2), some (.int p3), some (.int p4), none] [] K M (some (.int v)) K M' := v_X12_greatest_5_L hd hK  N p1 p2 p3 p4 M v M'   h
def f_X12_greatest (N : Nat) (K : oK) (p1 : Int32) (p2 : Int32) (p3 : Int32) (M : oM) : Option (Int32 × oM) :=
  (f_X12_greatest_5 N K  N p1 p2 p3 600 M)
set_option maxRecDepth 20000 in
theorem v_X12_greatest {X : oX} {N : Nat} {K : oK} {p1 : Int32} {p2 : Int32} {p3 : Int32} {M : oM} {v : Int32} {M' : oM} (hK : oSR K)  (h : f_X12_greatest N K p1 p2 p3 M = some (v, M')) : oMet X 4 J_X12_greatest [(.ref 59), (.int p1), (.int p2), (.int p3)] K M (some (.int v)) K M' := by
  unfold f_X12_greatest at h
  refine oMet_of (L := [some (.ref 59), some (.int p1), some (.int p2), some (.int p3), none, none]) jJ_X12_greatest.1 rfl (Nat.le_of_ble_eq_true rfl) rfl (Nat.le_refl _) (Nat.le_refl _) ?_
  have hd : 4 ≤ 4 := Nat.le_refl _
  refine oe_sipush (pc := 0) (v := 600) d_X12_greatest_0 rfl ?_
  refine oe_istore (pc := 3) (L2 := [_, _, _, _, _, _]) d_X12_greatest_3 rfl (Nat.le_of_ble_eq_true rfl) rfl ?_
  exact v_X12_greatest_5 hd hK   h
theorem d_X12_flowNow_0 : decode J_X12_flowNow.2.1 0 = .ok (.aload_n 0, 1) := by decide +kernel
theorem d_X12_flowNow_1 : decode J_X12_flowNow.2.1 1 = .ok (.iload_n 1, 1) := by decide +kernel
theorem d_X12_flowNow_2 : decode J_X12_flowNow.2.1 2 = .ok (.iconst 0, 1) := by decide +kernel
theorem d_X12_flowNow_3 : decode J_X12_flowNow.2.1 3 = .ok (.iconst (-1), 1) := by decide +kernel
theorem d_X12_flowNow_4 : decode J_X12_flowNow.2.1 4 = .ok (.invokevirtual 271, 3) := by decide +kernel
theorem d_X12_flowNow_7 : decode J_X12_flowNow.2.1 7 = .ok (.istore_n 2, 1) := by decide +kernel
theorem d_X12_flowNow_8 : decode J_X12_flowNow.2.1 8 = .ok (.iload_n 2, 1) := by decide +kernel
theorem d_X12_flowNow_9 : decode J_X12_flowNow.2.1 9 = .ok (.ifCond .ge 8, 3) := by decide +kernel
theorem d_X12_flowNow_12 : decode J_X12_flowNow.2.1 12 = .ok (.bipush (-2), 2) := by decide +kernel
theorem d_X12_flowNow_14 : decode J_X12_flowNow.2.1 14 = .ok (.goto 4, 3) := by decide +kernel
theorem d_X12_flowNow_17 : decode J_X12_flowNow.2.1 17 = .ok (.iload_n 2, 1) := by decide +kernel
theorem d_X12_flowNow_18 : decode J_X12_flowNow.2.1 18 = .ok (.ireturn, 1) := by decide +kernel
def f_X12_flowNow (N : Nat) (K : oK) (p1 : Int32) (M : oM) : Option (Int32 × oM) :=
  oB2 (f_X12_greatest N K p1 (0 : Int32) ((-1) : Int32) M) (fun v1 M2 => (if 0 ≤ v1 then some (v1, M2) else some ((-2), M2)))
set_option maxRecDepth 20000 in
theorem v_X12_flowNow {X : oX} {N : Nat} {K : oK} {p1 : Int32} {M : oM} {v : Int32} {M' : oM} (hK : oSR K)  (h : f_X12_flowNow N K p1 M = some (v, M')) : oMet X 5 J_X12_flowNow [(.ref 59), (.int p1)] K M (some (.int v)) K M' := by
  unfold f_X12_flowNow at h
  refine oMet_of (L := [some (.ref 59), some (.int p1), none]) jJ_X12_flowNow.1 rfl (Nat.le_of_ble_eq_true rfl) rfl (Nat.le_refl _) (Nat.le_refl _) ?_
  have hd : 5 ≤ 5 := Nat.le_refl _
  refine oe_aload_n (pc := 0) d_X12_flowNow_0 rfl ?_
  refine oe_iload_n (pc := 1) d_X12_flowNow_1 rfl ?_
  refine oe_iconst (pc := 2) (v := 0) d_X12_flowNow_2 rfl ?_
  refine oe_iconst (pc := 3) (v := (-1)) d_X12_flowNow_3 rfl ?_
  obtain ⟨v1, M2, q3, h⟩ := oB2_some h
  refine oe_callV (pc := 4) (ci := 12) d_X12_flowNow_4 (v_X12_greatest hK  q3) (by omega) ml_X12_271 jJ_X12_greatest rfl rfl (oLt hK (a := 59) (Nat.le_of_ble_eq_true rfl)) (oSho hK (a := 59) (Nat.le_of_ble_eq_true rfl) rfl) ock12 rfl (Nat.le_of_ble_eq_true rfl) ⟨Nat.le_refl _, Nat.le_refl _⟩ ⟨Nat.le_refl _, Nat.le_refl _⟩ ?_
  refine oe_istore_n (pc := 7) (L2 := [_, _, _]) d_X12_flowNow_7 rfl rfl (Nat.le_of_ble_eq_true rfl) rfl ?_
  refine oe_iload_n (pc := 8) d_X12_flowNow_8 rfl ?_
  refine oe_if_ge (pc := 9) (tgt := 17) d_X12_flowNow_9 (by decide) (fun c4 => ?_) (fun c4 => ?_)
  · replace h := (if_pos c4).symm.trans h
    refine oe_iload_n (pc := 17) d_X12_flowNow_17 rfl ?_
    obtain ⟨rfl, rfl⟩ := oRes h
    exact oe_iret (pc := 18) d_X12_flowNow_18 ⟨_, rfl, rfl⟩
  · replace h := (if_neg c4).symm.trans h
    refine oe_bipush (pc := 12) (v := (-2)) d_X12_flowNow_12 rfl ?_
    refine oe_goto (pc := 14) (tgt := 18) d_X12_flowNow_14 (by decide) ?_
    obtain ⟨rfl, rfl⟩ := oRes h
    exact oe_iret (pc := 18) d_X12_flowNow_18 ⟨_, rfl, rfl⟩
theorem d_X12_isNeed_0 : decode J_X12_isNeed.2.1 0 = .ok (.iload_n 0, 1) := by decide +kernel
theorem d_X12_isNeed_1 : decode J_X12_isNeed.2.1 1 = .ok (.i2l, 1) := by decide +kernel
theorem d_X12_isNeed_2 : decode J_X12_isNeed.2.1 2 = .ok (.lconst 0, 1) := by decide +kernel
theorem d_X12_isNeed_3 : decode J_X12_isNeed.2.1 3 = .ok (.ldc2_w 172, 3) := by decide +kernel
theorem d_X12_isNeed_6 : decode J_X12_isNeed.2.1 6 = .ok (.invokestatic 145, 3) := by decide +kernel
theorem d_X12_isNeed_9 : decode J_X12_isNeed.2.1 9 = .ok (.ireturn, 1) := by decide +kernel
def f_X12_isNeed (N : Nat) (K : oK) (p0 : Int32) (M : oM) : Option (Bool × oM) :=
  oB2 (f_X12_within N K ((p0 : Int32).toInt64) 0 99999 M) (fun v1 M2 => cond v1 (some (true, M2)) (some (false, M2)))
set_option maxRecDepth 20000 in
theorem v_X12_isNeed {X : oX} {N : Nat} {K : oK} {p0 : Int32} {M : oM} {v : Bool} {M' : oM} (hK : oSR K)  (h : f_X12_isNeed N K p0 M = some (v, M')) : oMet X 2 J_X12_isNeed [(.int p0)] K M (some (.int (oBi v))) K M' := by
  unfold f_X12_isNeed at h
  refine oMet_of (L := [some (.int p0)]) jJ_X12_isNeed.1 rfl (Nat.le_of_ble_eq_true rfl) rfl (Nat.le_refl _) (Nat.le_refl _) ?_
  have hd : 2 ≤ 2 := Nat.le_refl _
  refine oe_iload_n (pc := 0) d_X12_isNeed_0 rfl ?_
  refine oe_i2l (pc := 1) d_X12_isNeed_1 ?_
  refine oe_lconst (pc := 2) (v := 0) d_X12_isNeed_2 rfl ?_
  refine oe_ldc2 (pc := 3) d_X12_isNeed_3 co_X12_172 ?_
  obtain ⟨v1, M2, q3, h⟩ := oB2_some h
  cases v1 with
  | true =>
    replace h := oCt h
    refine oe_callS (pc := 6) d_X12_isNeed_6 (v_X12_within hK  q3) (by omega) ml_X12_145 jJ_X12_within rfl rfl (Nat.le_of_ble_eq_true rfl) ⟨Nat.le_refl _, Nat.le_refl _⟩ ⟨Nat.le_refl _, Nat.le_refl _⟩ ?_
    obtain ⟨rfl, rfl⟩ := oRes h
    exact oe_iret (pc := 9) d_X12_isNeed_9 ⟨_, rfl, rfl⟩
  | false =>
    replace h := oCf h
    refine oe_callS (pc := 6) d_X12_isNeed_6 (v_X12_within hK  q3) (by omega) ml_X12_145 jJ_X12_within rfl rfl (Nat.le_of_ble_eq_true rfl) ⟨Nat.le_refl _, Nat.le_refl _⟩ ⟨Nat.le_refl _, Nat.le_refl _⟩ ?_
    obtain ⟨rfl, rfl⟩ := oRes h
    exact oe_iret (pc := 9) d_X12_isNeed_9 ⟨_, rfl, rfl⟩
theorem d_X12_hoseOf_0 : decode J_X12_hoseOf.2.1 0 = .ok (.aload_n 0, 1) := by decide +kernel
theorem d_X12_hoseOf_1 : decode J_X12_hoseOf.2.1 1 = .ok (.iload_n 1, 1) := by decide +kernel
theorem d_X12_hoseOf_2 : decode J_X12_hoseOf.2.1 2 = .ok (.invokevirtual 275, 3) := by decide +kernel
theorem d_X12_hoseOf_5 : decode J_X12_hoseOf.2.1 5 = .ok (.iconst 0, 1) := by decide +kernel
theorem d_X12_hoseOf_6 : decode J_X12_hoseOf.2.1 6 = .ok (.istore_n 3, 1) := by decide +kernel
theorem d_X12_hoseOf_7 : decode J_X12_hoseOf.2.1 7 = .ok (.iconst 0, 1) := by decide +kernel
theorem d_X12_hoseOf_8 : decode J_X12_hoseOf.2.1 8 = .ok (.istore 4, 2) := by decide +kernel
theorem d_X12_hoseOf_10 : decode J_X12_hoseOf.2.1 10 = .ok (.iload 4, 2) := by decide +kernel
theorem d_X12_hoseOf_12 : decode J_X12_hoseOf.2.1 12 = .ok (.aload_n 0, 1) := by decide +kernel
theorem d_X12_hoseOf_13 : decode J_X12_hoseOf.2.1 13 = .ok (.getfield 246, 3) := by decide +kernel
theorem d_X12_hoseOf_16 : decode J_X12_hoseOf.2.1 16 = .ok (.if_icmp .ge 58, 3) := by decide +kernel
theorem d_X12_hoseOf_19 : decode J_X12_hoseOf.2.1 19 = .ok (.iload_n 3, 1) := by decide +kernel
theorem d_X12_hoseOf_20 : decode J_X12_hoseOf.2.1 20 = .ok (.aload_n 0, 1) := by decide +kernel
theorem d_X12_hoseOf_21 : decode J_X12_hoseOf.2.1 21 = .ok (.getfield 74, 3) := by decide +kernel
theorem d_X12_hoseOf_24 : decode J_X12_hoseOf.2.1 24 = .ok (.iload 4, 2) := by decide +kernel
theorem d_X12_hoseOf_26 : decode J_X12_hoseOf.2.1 26 = .ok (.iaload, 1) := by decide +kernel
theorem d_X12_hoseOf_27 : decode J_X12_hoseOf.2.1 27 = .ok (.iconst 1, 1) := by decide +kernel
theorem d_X12_hoseOf_28 : decode J_X12_hoseOf.2.1 28 = .ok (.if_icmp .ne 37, 3) := by decide +kernel
theorem d_X12_hoseOf_31 : decode J_X12_hoseOf.2.1 31 = .ok (.aload_n 0, 1) := by decide +kernel
theorem d_X12_hoseOf_32 : decode J_X12_hoseOf.2.1 32 = .ok (.getfield 80, 3) := by decide +kernel
theorem d_X12_hoseOf_35 : decode J_X12_hoseOf.2.1 35 = .ok (.iload 4, 2) := by decide +kernel
theorem d_X12_hoseOf_37 : decode J_X12_hoseOf.2.1 37 = .ok (.iaload, 1) := by decide +kernel
theorem d_X12_hoseOf_38 : decode J_X12_hoseOf.2.1 38 = .ok (.iload_n 2, 1) := by decide +kernel
theorem d_X12_hoseOf_39 : decode J_X12_hoseOf.2.1 39 = .ok (.if_icmp .ne 26, 3) := by decide +kernel
theorem d_X12_hoseOf_42 : decode J_X12_hoseOf.2.1 42 = .ok (.aload_n 0, 1) := by decide +kernel
theorem d_X12_hoseOf_43 : decode J_X12_hoseOf.2.1 43 = .ok (.getfield 28, 3) := by decide +kernel
theorem d_X12_hoseOf_46 : decode J_X12_hoseOf.2.1 46 = .ok (.aload_n 0, 1) := by decide +kernel
theorem d_X12_hoseOf_47 : decode J_X12_hoseOf.2.1 47 = .ok (.getfield 77, 3) := by decide +kernel
theorem d_X12_hoseOf_50 : decode J_X12_hoseOf.2.1 50 = .ok (.iload 4, 2) := by decide +kernel
theorem d_X12_hoseOf_52 : decode J_X12_hoseOf.2.1 52 = .ok (.iaload, 1) := by decide +kernel
theorem d_X12_hoseOf_53 : decode J_X12_hoseOf.2.1 53 = .ok (.iaload, 1) := by decide +kernel
theorem d_X12_hoseOf_54 : decode J_X12_hoseOf.2.1 54 = .ok (.aload_n 0, 1) := by decide +kernel
theorem d_X12_hoseOf_55 : decode J_X12_hoseOf.2.1 55 = .ok (.getfield 83, 3) := by decide +kernel
theorem d_X12_hoseOf_58 : decode J_X12_hoseOf.2.1 58 = .ok (.iload 4, 2) := by decide +kernel
theorem d_X12_hoseOf_60 : decode J_X12_hoseOf.2.1 60 = .ok (.iaload, 1) := by decide +kernel
theorem d_X12_hoseOf_61 : decode J_X12_hoseOf.2.1 61 = .ok (.imul, 1) := by decide +kernel
theorem d_X12_hoseOf_62 : decode J_X12_hoseOf.2.1 62 = .ok (.goto 4, 3) := by decide +kernel
theorem d_X12_hoseOf_65 : decode J_X12_hoseOf.2.1 65 = .ok (.iconst 0, 1) := by decide +kernel
theorem d_X12_hoseOf_66 : decode J_X12_hoseOf.2.1 66 = .ok (.iadd, 1) := by decide +kernel
theorem d_X12_hoseOf_67 : decode J_X12_hoseOf.2.1 67 = .ok (.istore_n 3, 1) := by decide +kernel
theorem d_X12_hoseOf_68 : decode J_X12_hoseOf.2.1 68 = .ok (.iinc 4 1, 3) := by decide +kernel
theorem d_X12_hoseOf_71 : decode J_X12_hoseOf.2.1 71 = .ok (.goto (-61), 3) := by decide +kernel
theorem d_X12_hoseOf_74 : decode J_X12_hoseOf.2.1 74 = .ok (.iload_n 3, 1) := by decide +kernel
theorem d_X12_hoseOf_75 : decode J_X12_hoseOf.2.1 75 = .ok (.ireturn, 1) := by decide +kernel
def f_X12_hoseOf_66 (N : Nat) (K : oK) (r10 : (Int32 → Int32 → Int32 → oM → Option (Int32 × oM))) (p2 : Int32) (p4 : Int32) (s0 : Int32) (s1 : Int32) (M : oM) : Option (Int32 × oM) :=
  (r10 p2 (s1 + s0) (p4 + 1) M)
set_option maxRecDepth 20000 in
theorem v_X12_hoseOf_66 {X : oX} {d N : Nat} {K : oK} {r10 : (Int32 → Int32 → Int32 → oM → Option (Int32 × oM))} {p2 : Int32} {p4 : Int32} {s0 : Int32} {s1 : Int32} {M : oM} {v : Int32} {M' : oM}  (hd : 3 ≤ d) (hK : oSR K)  (hr10 : ∀ (p2 : Int32) (p3 : Int32) (p4 : Int32) (M : oM) (v : Int32) (M' : oM) , r10 p2 p3 p4 M = some (v, M') → oEv X d J_X12_hoseOf 10 [some (.ref 59), none, some (.int p2), some (.int p3), some (.int p4)] [] K M (some (.int v)) K M') (h : f_X12_hoseOf_66 N K r10 p2 p4 s0 s1 M = some (v, M')) : oEv X d J_X12_hoseOf 66 [some (.ref 59), none, some (.int p2), none, some (.int p4)] [(.int s0), (.int s1)] K M (some (.int v)) K M' := by
  unfold f_X12_hoseOf_66 at h
  refine oe_iadd (pc := 66) d_X12_hoseOf_66 ?_
  refine oe_istore_n (pc := 67) (L2 := [_, _, _, _, _]) d_X12_hoseOf_67 rfl rfl (Nat.le_of_ble_eq_true rfl) rfl ?_
  refine oe_iinc (pc := 68) (v := (p4 + 1)) (L2 := [_, _, _, _, _]) d_X12_hoseOf_68 rfl rfl rfl (Nat.le_of_ble_eq_true rfl) rfl ?_
  refine oe_goto (pc := 71) (tgt := 10) d_X12_hoseOf_71 (by decide) ?_
  exact hr10 _ _ _ _ _ _ h
def f_X12_hoseOf_65 (N : Nat) (K : oK) (r10 : (Int32 → Int32 → Int32 → oM → Option (Int32 × oM))) (p2 : Int32) (p4 : Int32) (s0 : Int32) (M : oM) : Option (Int32 × oM) :=
  (f_X12_hoseOf_66 N K r10 p2 p4 0 s0 M)
set_option maxRecDepth 20000 in
theorem v_X12_hoseOf_65 {X : oX} {d N : Nat} {K : oK} {r10 : (Int32 → Int32 → Int32 → oM → Option (Int32 × oM))} {p2 : Int32} {p4 : Int32} {s0 : Int32} {M : oM} {v : Int32} {M' : oM}  (hd : 3 ≤ d) (hK : oSR K)  (hr10 : ∀ (p2 : Int32) (p3 : Int32) (p4 : Int32) (M : oM) (v : Int32) (M' : oM) , r10 p2 p3 p4 M = some (v, M') → oEv X d J_X12_hoseOf 10 [some (.ref 59), none, some (.int p2), some (.int p3), some (.int p4)] [] K M (some (.int v)) K M') (h : f_X12_hoseOf_65 N K r10 p2 p4 s0 M = some (v, M')) : oEv X d J_X12_hoseOf 65 [some (.ref 59), none, some (.int p2), none, some (.int p4)] [(.int s0)] K M (some (.int v)) K M' := by
  unfold f_X12_hoseOf_65 at h
  refine oe_iconst (pc := 65) (v := 0) d_X12_hoseOf_65 rfl ?_
  exact v_X12_hoseOf_66 hd hK  hr10 h
def f_X12_hoseOf_10 (N : Nat) (K : oK)  : Nat → Int32 → Int32 → Int32 → oM → Option (Int32 × oM)
  | 0, _, _, _, _ => none
  | n + 1, p2, p3, p4, M => (fun r10 => (if (M.1 59 31) ≤ p4 then some (p3, M) else oIx (p4) 25 ((if (M.1 81 (p4 : Int32).toNatClampNeg) = 1 then oIx (p4) 25 ((if (M.1 83 (p4 : Int32).toNatClampNeg) = p2 then oIx (p4) 25 (oIx ((M.1 82 (p4 : Int32).toNatClampNeg)) 20 (oIx (p4) 25 ((f_X12_hoseOf_66 N K r10 p2 p4 ((M.1 66 ((M.1 82 (p4 : Int32).toNatClampNeg) : Int32).toNatClampNeg) * (M.1 84 (p4 : Int32).toNatClampNeg)) p3 M)))) else (f_X12_hoseOf_65 N K r10 p2 p4 p3 M))) else (f_X12_hoseOf_65 N K r10 p2 p4 p3 M))))) (f_X12_hoseOf_10 N K  n)
set_option maxRecDepth 20000 in
theorem v_X12_hoseOf_10_L {X : oX} {d N : Nat} {K : oK}  (hd : 3 ≤ d) (hK : oSR K)  : ∀ (n : Nat) (p2 : Int32) (p3 : Int32) (p4 : Int32) (M : oM) (v : Int32) (M' : oM)  , f_X12_hoseOf_10 N K  n p2 p3 p4 M = some (v, M') → oEv X d J_X12_hoseOf 10 [some (.ref 59), none, some (.int p2), some (.int p3), some (.int p4)] [] K M (some (.int v)) K M' := by
  intro n
  induction n with
  | zero =>
    intro p2 p3 p4 M v M'   h
    cases h
  | succ n hr10 =>
    intro p2 p3 p4 M v M'   h
    refine oe_iload (pc := 10) d_X12_hoseOf_10 rfl ?_
    refine oe_aload_n (pc := 12) d_X12_hoseOf_12 rfl ?_
    refine oe_getf (pc := 13) d_X12_hoseOf_13 fl_X12_246 ock12 (k := 31) (Nat.le_of_ble_eq_true rfl) rfl (oLt hK (a := 59) (Nat.le_of_ble_eq_true rfl)) (oSho hK (a := 59) (Nat.le_of_ble_eq_true rfl) rfl) ?_
    refine oe_icmp_ge (pc := 16) (tgt := 74) d_X12_hoseOf_16 (by decide) (fun c4 => ?_) (fun c4 => ?_)
    · replace h := (if_pos c4).symm.trans h
      refine oe_iload_n (pc := 74) d_X12_hoseOf_74 rfl ?_
      obtain ⟨rfl, rfl⟩ := oRes h
      exact oe_iret (pc := 75) d_X12_hoseOf_75 ⟨_, rfl, rfl⟩
    · replace h := (if_neg c4).symm.trans h
      refine oe_iload_n (pc := 19) d_X12_hoseOf_19 rfl ?_
      refine oe_aload_n (pc := 20) d_X12_hoseOf_20 rfl ?_
      refine oe_getr (pc := 21) d_X12_hoseOf_21 fl_X12_74 ock12 (k := 32) (b := 81) (Nat.le_of_ble_eq_true rfl) (by decide) (oLt hK (a := 59) (Nat.le_of_ble_eq_true rfl)) (oSho hK (a := 59) (Nat.le_of_ble_eq_true rfl) rfl) (oRfK hK rfl) ?_
      refine oe_iload (pc := 24) d_X12_hoseOf_24 rfl ?_
      obtain ⟨i5, h⟩ := oIx_some h
      refine oe_iald (pc := 26) d_X12_hoseOf_26 (oLt hK (a := 81) (Nat.le_of_ble_eq_true rfl)) (oSha hK (a := 81) (Nat.le_of_ble_eq_true rfl) rfl) i5 ?_
      refine oe_iconst (pc := 27) (v := 1) d_X12_hoseOf_27 rfl ?_
      refine oe_icmp_ne (pc := 28) (tgt := 65) d_X12_hoseOf_28 (by decide) (fun c6 => ?_) (fun c6 => ?_)
      · replace h := (if_neg c6).symm.trans h
        refine oEv.fg [true, false, true, false, true] ?_
        exact v_X12_hoseOf_65 hd hK  hr10 h
      · replace h := (if_pos c6).symm.trans h
        refine oe_aload_n (pc := 31) d_X12_hoseOf_31 rfl ?_
        refine oe_getr (pc := 32) d_X12_hoseOf_32 fl_X12_80 ock12 (k := 34) (b := 83) (Nat.le_of_ble_eq_true rfl) (by decide) (oLt hK (a := 59) (Nat.le_of_ble_eq_true rfl)) (oSho hK (a := 59) (Nat.le_of_ble_eq_true rfl) rfl) (oRfK hK rfl) ?_
        refine oe_iload (pc := 35) d_X12_hoseOf_35 rfl ?_
        obtain ⟨i7, h⟩ := oIx_some h
        refine oe_iald (pc := 37) d_X12_hoseOf_37 (oLt hK (a := 83) (Nat.le_of_ble_eq_true rfl)) (oSha hK (a := 83) (Nat.le_of_ble_eq_true rfl) rfl) i7 ?_
        refine oe_iload_n (pc := 38) d_X12_hoseOf_38 rfl ?_
        refine oe_icmp_ne (pc := 39) (tgt := 65) d_X12_hoseOf_39 (by decide) (fun c8 => ?_) (fun c8 => ?_)
        · replace h := (if_neg c8).symm.trans h
          refine oEv.fg [true, false, true, false, true] ?_
          exact v_X12_hoseOf_65 hd hK  hr10 h
        · replace h := (if_pos c8).symm.trans h
          refine oe_aload_n (pc := 42) d_X12_hoseOf_42 rfl ?_
          refine oe_getr (pc := 43) d_X12_hoseOf_43 fl_X12_28 ock12 (k := 10) (b := 66) (Nat.le_of_ble_eq_true rfl) (by decide) (oLt hK (a := 59) (Nat.le_of_ble_eq_true rfl)) (oSho hK (a := 59) (Nat.le_of_ble_eq_true rfl) rfl) (oRfK hK rfl) ?_
          refine oe_aload_n (pc := 46) d_X12_hoseOf_46 rfl ?_
          refine oe_getr (pc := 47) d_X12_hoseOf_47 fl_X12_77 ock12 (k := 33) (b := 82) (Nat.le_of_ble_eq_true rfl) (by decide) (oLt hK (a := 59) (Nat.le_of_ble_eq_true rfl)) (oSho hK (a := 59) (Nat.le_of_ble_eq_true rfl) rfl) (oRfK hK rfl) ?_
          refine oe_iload (pc := 50) d_X12_hoseOf_50 rfl ?_
          obtain ⟨i9, h⟩ := oIx_some h
          refine oe_iald (pc := 52) d_X12_hoseOf_52 (oLt hK (a := 82) (Nat.le_of_ble_eq_true rfl)) (oSha hK (a := 82) (Nat.le_of_ble_eq_true rfl) rfl) i9 ?_
          obtain ⟨i10, h⟩ := oIx_some h
          refine oe_iald (pc := 53) d_X12_hoseOf_53 (oLt hK (a := 66) (Nat.le_of_ble_eq_true rfl)) (oSha hK (a := 66) (Nat.le_of_ble_eq_true rfl) rfl) i10 ?_
          refine oe_aload_n (pc := 54) d_X12_hoseOf_54 rfl ?_
          refine oe_getr (pc := 55) d_X12_hoseOf_55 fl_X12_83 ock12 (k := 35) (b := 84) (Nat.le_of_ble_eq_true rfl) (by decide) (oLt hK (a := 59) (Nat.le_of_ble_eq_true rfl)) (oSho hK (a := 59) (Nat.le_of_ble_eq_true rfl) rfl) (oRfK hK rfl) ?_
          refine oe_iload (pc := 58) d_X12_hoseOf_58 rfl ?_
          obtain ⟨i11, h⟩ := oIx_some h
          refine oe_iald (pc := 60) d_X12_hoseOf_60 (oLt hK (a := 84) (Nat.le_of_ble_eq_true rfl)) (oSha hK (a := 84) (Nat.le_of_ble_eq_true rfl) rfl) i11 ?_
          refine oe_imul (pc := 61) d_X12_hoseOf_61 ?_
          refine oe_goto (pc := 62) (tgt := 66) d_X12_hoseOf_62 (by decide) ?_
          refine oEv.fg [true, false, true, false, true] ?_
          exact v_X12_hoseOf_66 hd hK  hr10 h
theorem v_X12_hoseOf_10 {X : oX} {d N : Nat} {K : oK}  {p2 : Int32} {p3 : Int32} {p4 : Int32} {M : oM} {v : Int32} {M' : oM}  (hd : 3 ≤ d) (hK : oSR K)   (h : f_X12_hoseOf_10 N K  N p2 p3 p4 M = some (v, M')) : oEv X d J_X12_hoseOf 10 [some (.ref 59), none, some (.int p2), some (.int p3), some (.int p4)] [] K M (some (.int v)) K M' := v_X12_hoseOf_10_L hd hK  N p2 p3 p4 M v M'   h
def f_X12_hoseOf (N : Nat) (K : oK) (p1 : Int32) (p2 : Int32) (M : oM) : Option (Int32 × oM) :=
  oB2 (f_X12_think N K p1 M) (fun v1 M2 => (f_X12_hoseOf_10 N K  N p2 0 0 M2))
set_option maxRecDepth 20000 in
theorem v_X12_hoseOf {X : oX} {N : Nat} {K : oK} {p1 : Int32} {p2 : Int32} {M : oM} {v : Int32} {M' : oM} (hK : oSR K)  (h : f_X12_hoseOf N K p1 p2 M = some (v, M')) : oMet X 3 J_X12_hoseOf [(.ref 59), (.int p1), (.int p2)] K M (some (.int v)) K M' := by
  unfold f_X12_hoseOf at h
  refine oMet_of (L := [some (.ref 59), some (.int p1), some (.int p2), none, none]) jJ_X12_hoseOf.1 rfl (Nat.le_of_ble_eq_true rfl) rfl (Nat.le_refl _) (Nat.le_refl _) ?_
  have hd : 3 ≤ 3 := Nat.le_refl _
  refine oe_aload_n (pc := 0) d_X12_hoseOf_0 rfl ?_
  refine oe_iload_n (pc := 1) d_X12_hoseOf_1 rfl ?_
  obtain ⟨v1, M2, q3, h⟩ := oB2_some h
  refine oe_callV (pc := 2) (ci := 12) d_X12_hoseOf_2 (v_X12_think hK  q3) (by omega) ml_X12_275 jJ_X12_think rfl rfl (oLt hK (a := 59) (Nat.le_of_ble_eq_true rfl)) (oSho hK (a := 59) (Nat.le_of_ble_eq_true rfl) rfl) ock12 rfl (Nat.le_of_ble_eq_true rfl) ⟨Nat.le_refl _, Nat.le_refl _⟩ ⟨Nat.le_refl _, Nat.le_refl _⟩ ?_
  refine oe_iconst (pc := 5) (v := 0) d_X12_hoseOf_5 rfl ?_
  refine oe_istore_n (pc := 6) (L2 := [_, _, _, _, _]) d_X12_hoseOf_6 rfl rfl (Nat.le_of_ble_eq_true rfl) rfl ?_
  refine oe_iconst (pc := 7) (v := 0) d_X12_hoseOf_7 rfl ?_
  refine oe_istore (pc := 8) (L2 := [_, _, _, _, _]) d_X12_hoseOf_8 rfl (Nat.le_of_ble_eq_true rfl) rfl ?_
  refine oEv.fg [true, false, true, true, true] ?_
  exact v_X12_hoseOf_10 hd hK   h
theorem d_X12_of_0 : decode J_X12_of.2.1 0 = .ok (.aload_n 0, 1) := by decide +kernel
theorem d_X12_of_1 : decode J_X12_of.2.1 1 = .ok (.iload_n 1, 1) := by decide +kernel
theorem d_X12_of_2 : decode J_X12_of.2.1 2 = .ok (.invokevirtual 230, 3) := by decide +kernel
theorem d_X12_of_5 : decode J_X12_of.2.1 5 = .ok (.ifCond .ne 5, 3) := by decide +kernel
theorem d_X12_of_8 : decode J_X12_of.2.1 8 = .ok (.iconst (-1), 1) := by decide +kernel
theorem d_X12_of_9 : decode J_X12_of.2.1 9 = .ok (.ireturn, 1) := by decide +kernel
theorem d_X12_of_10 : decode J_X12_of.2.1 10 = .ok (.iload_n 2, 1) := by decide +kernel
theorem d_X12_of_11 : decode J_X12_of.2.1 11 = .ok (.bipush 100, 2) := by decide +kernel
theorem d_X12_of_13 : decode J_X12_of.2.1 13 = .ok (.irem, 1) := by decide +kernel
theorem d_X12_of_14 : decode J_X12_of.2.1 14 = .ok (.istore_n 3, 1) := by decide +kernel
theorem d_X12_of_15 : decode J_X12_of.2.1 15 = .ok (.iload_n 2, 1) := by decide +kernel
theorem d_X12_of_16 : decode J_X12_of.2.1 16 = .ok (.bipush 100, 2) := by decide +kernel
theorem d_X12_of_18 : decode J_X12_of.2.1 18 = .ok (.if_icmp .lt 74, 3) := by decide +kernel
theorem d_X12_of_21 : decode J_X12_of.2.1 21 = .ok (.iload_n 2, 1) := by decide +kernel
theorem d_X12_of_22 : decode J_X12_of.2.1 22 = .ok (.sipush 400, 3) := by decide +kernel
theorem d_X12_of_25 : decode J_X12_of.2.1 25 = .ok (.if_icmp .ge 67, 3) := by decide +kernel
theorem d_X12_of_28 : decode J_X12_of.2.1 28 = .ok (.bipush 24, 2) := by decide +kernel
theorem d_X12_of_30 : decode J_X12_of.2.1 30 = .ok (.iload_n 1, 1) := by decide +kernel
theorem d_X12_of_31 : decode J_X12_of.2.1 31 = .ok (.imul, 1) := by decide +kernel
theorem d_X12_of_32 : decode J_X12_of.2.1 32 = .ok (.iload_n 3, 1) := by decide +kernel
theorem d_X12_of_33 : decode J_X12_of.2.1 33 = .ok (.iadd, 1) := by decide +kernel
theorem d_X12_of_34 : decode J_X12_of.2.1 34 = .ok (.istore 4, 2) := by decide +kernel
theorem d_X12_of_36 : decode J_X12_of.2.1 36 = .ok (.iload_n 3, 1) := by decide +kernel
theorem d_X12_of_37 : decode J_X12_of.2.1 37 = .ok (.aload_n 0, 1) := by decide +kernel
theorem d_X12_of_38 : decode J_X12_of.2.1 38 = .ok (.getfield 58, 3) := by decide +kernel
theorem d_X12_of_41 : decode J_X12_of.2.1 41 = .ok (.iload_n 1, 1) := by decide +kernel
theorem d_X12_of_42 : decode J_X12_of.2.1 42 = .ok (.iaload, 1) := by decide +kernel
theorem d_X12_of_43 : decode J_X12_of.2.1 43 = .ok (.if_icmp .lt 7, 3) := by decide +kernel
theorem d_X12_of_46 : decode J_X12_of.2.1 46 = .ok (.iconst (-1), 1) := by decide +kernel
theorem d_X12_of_47 : decode J_X12_of.2.1 47 = .ok (.goto 44, 3) := by decide +kernel
theorem d_X12_of_50 : decode J_X12_of.2.1 50 = .ok (.iload_n 2, 1) := by decide +kernel
theorem d_X12_of_51 : decode J_X12_of.2.1 51 = .ok (.sipush 200, 3) := by decide +kernel
theorem d_X12_of_54 : decode J_X12_of.2.1 54 = .ok (.if_icmp .ge 13, 3) := by decide +kernel
theorem d_X12_of_57 : decode J_X12_of.2.1 57 = .ok (.aload_n 0, 1) := by decide +kernel
theorem d_X12_of_58 : decode J_X12_of.2.1 58 = .ok (.getfield 61, 3) := by decide +kernel
theorem d_X12_of_61 : decode J_X12_of.2.1 61 = .ok (.iload 4, 2) := by decide +kernel
theorem d_X12_of_63 : decode J_X12_of.2.1 63 = .ok (.iaload, 1) := by decide +kernel
theorem d_X12_of_64 : decode J_X12_of.2.1 64 = .ok (.goto 27, 3) := by decide +kernel
theorem d_X12_of_67 : decode J_X12_of.2.1 67 = .ok (.iload_n 2, 1) := by decide +kernel
theorem d_X12_of_68 : decode J_X12_of.2.1 68 = .ok (.sipush 300, 3) := by decide +kernel
theorem d_X12_of_71 : decode J_X12_of.2.1 71 = .ok (.if_icmp .ge 13, 3) := by decide +kernel
theorem d_X12_of_74 : decode J_X12_of.2.1 74 = .ok (.aload_n 0, 1) := by decide +kernel
theorem d_X12_of_75 : decode J_X12_of.2.1 75 = .ok (.getfield 64, 3) := by decide +kernel
theorem d_X12_of_78 : decode J_X12_of.2.1 78 = .ok (.iload 4, 2) := by decide +kernel
theorem d_X12_of_80 : decode J_X12_of.2.1 80 = .ok (.iaload, 1) := by decide +kernel
theorem d_X12_of_81 : decode J_X12_of.2.1 81 = .ok (.goto 10, 3) := by decide +kernel
theorem d_X12_of_84 : decode J_X12_of.2.1 84 = .ok (.aload_n 0, 1) := by decide +kernel
theorem d_X12_of_85 : decode J_X12_of.2.1 85 = .ok (.getfield 67, 3) := by decide +kernel
theorem d_X12_of_88 : decode J_X12_of.2.1 88 = .ok (.iload 4, 2) := by decide +kernel
theorem d_X12_of_90 : decode J_X12_of.2.1 90 = .ok (.iaload, 1) := by decide +kernel
theorem d_X12_of_91 : decode J_X12_of.2.1 91 = .ok (.ireturn, 1) := by decide +kernel
theorem d_X12_of_92 : decode J_X12_of.2.1 92 = .ok (.iload_n 2, 1) := by decide +kernel
theorem d_X12_of_93 : decode J_X12_of.2.1 93 = .ok (.tableswitch 69 0 5 #[39, 46, 53, 60, 60, 60], 39) := by decide +kernel
theorem d_X12_of_132 : decode J_X12_of.2.1 132 = .ok (.aload_n 0, 1) := by decide +kernel
theorem d_X12_of_133 : decode J_X12_of.2.1 133 = .ok (.getfield 49, 3) := by decide +kernel
theorem d_X12_of_136 : decode J_X12_of.2.1 136 = .ok (.iload_n 1, 1) := by decide +kernel
theorem d_X12_of_137 : decode J_X12_of.2.1 137 = .ok (.iaload, 1) := by decide +kernel
theorem d_X12_of_138 : decode J_X12_of.2.1 138 = .ok (.ireturn, 1) := by decide +kernel
theorem d_X12_of_139 : decode J_X12_of.2.1 139 = .ok (.aload_n 0, 1) := by decide +kernel
theorem d_X12_of_140 : decode J_X12_of.2.1 140 = .ok (.getfield 58, 3) := by decide +kernel
theorem d_X12_of_143 : decode J_X12_of.2.1 143 = .ok (.iload_n 1, 1) := by decide +kernel
theorem d_X12_of_144 : decode J_X12_of.2.1 144 = .ok (.iaload, 1) := by decide +kernel
theorem d_X12_of_145 : decode J_X12_of.2.1 145 = .ok (.ireturn, 1) := by decide +kernel
theorem d_X12_of_146 : decode J_X12_of.2.1 146 = .ok (.aload_n 0, 1) := by decide +kernel
theorem d_X12_of_147 : decode J_X12_of.2.1 147 = .ok (.getfield 55, 3) := by decide +kernel
theorem d_X12_of_150 : decode J_X12_of.2.1 150 = .ok (.iload_n 1, 1) := by decide +kernel
theorem d_X12_of_151 : decode J_X12_of.2.1 151 = .ok (.iaload, 1) := by decide +kernel
theorem d_X12_of_152 : decode J_X12_of.2.1 152 = .ok (.ireturn, 1) := by decide +kernel
theorem d_X12_of_153 : decode J_X12_of.2.1 153 = .ok (.aload_n 0, 1) := by decide +kernel
theorem d_X12_of_154 : decode J_X12_of.2.1 154 = .ok (.iload_n 1, 1) := by decide +kernel
theorem d_X12_of_155 : decode J_X12_of.2.1 155 = .ok (.iload_n 2, 1) := by decide +kernel
theorem d_X12_of_156 : decode J_X12_of.2.1 156 = .ok (.iconst 3, 1) := by decide +kernel
theorem d_X12_of_157 : decode J_X12_of.2.1 157 = .ok (.isub, 1) := by decide +kernel
theorem d_X12_of_158 : decode J_X12_of.2.1 158 = .ok (.invokevirtual 279, 3) := by decide +kernel
theorem d_X12_of_161 : decode J_X12_of.2.1 161 = .ok (.ireturn, 1) := by decide +kernel
theorem d_X12_of_162 : decode J_X12_of.2.1 162 = .ok (.iconst (-1), 1) := by decide +kernel
theorem d_X12_of_163 : decode J_X12_of.2.1 163 = .ok (.ireturn, 1) := by decide +kernel
def f_X12_of_92 (N : Nat) (K : oK)  (p1 : Int32) (p2 : Int32) (M : oM) : Option (Int32 × oM) :=
  (if p2 = 0 then oIx (p1) 20 (some ((M.1 73 (p1 : Int32).toNatClampNeg), M)) else (if p2 = 1 then oIx (p1) 20 (some ((M.1 76 (p1 : Int32).toNatClampNeg), M)) else (if p2 = 2 then oIx (p1) 20 (some ((M.1 75 (p1 : Int32).toNatClampNeg), M)) else (if p2 = 3 then oB2 (f_X12_hoseOf N K p1 (p2 - 3) M) (fun v8 M9 => some (v8, M9)) else (if p2 = 4 then oB2 (f_X12_hoseOf N K p1 (p2 - 3) M) (fun v11 M12 => some (v11, M12)) else (if p2 = 5 then oB2 (f_X12_hoseOf N K p1 (p2 - 3) M) (fun v14 M15 => some (v14, M15)) else some ((-1), M)))))))
set_option maxRecDepth 20000 in
theorem v_X12_of_92 {X : oX} {d N : Nat} {K : oK}  {p1 : Int32} {p2 : Int32} {M : oM} {v : Int32} {M' : oM}  (hd : 4 ≤ d) (hK : oSR K)   (h : f_X12_of_92 N K  p1 p2 M = some (v, M')) : oEv X d J_X12_of 92 [some (.ref 59), some (.int p1), some (.int p2), none, none] [] K M (some (.int v)) K M' := by
  unfold f_X12_of_92 at h
  refine oe_iload_n (pc := 92) d_X12_of_92 rfl ?_
  by_cases c93_0 : p2 = 0
  · replace h := (if_pos c93_0).symm.trans h
    refine oe_tableIn (pc := 93) (tgt := 132) (off := 39) d_X12_of_93 (by rw [c93_0]; decide) (by rw [c93_0]; decide) (by rw [c93_0]; rfl) (by decide) ?_
    refine oe_aload_n (pc := 132) d_X12_of_132 rfl ?_
    refine oe_getr (pc := 133) d_X12_of_133 fl_X12_49 ock12 (k := 21) (b := 73) (Nat.le_of_ble_eq_true rfl) (by decide) (oLt hK (a := 59) (Nat.le_of_ble_eq_true rfl)) (oSho hK (a := 59) (Nat.le_of_ble_eq_true rfl) rfl) (oRfK hK rfl) ?_
    refine oe_iload_n (pc := 136) d_X12_of_136 rfl ?_
    obtain ⟨i5, h⟩ := oIx_some h
    refine oe_iald (pc := 137) d_X12_of_137 (oLt hK (a := 73) (Nat.le_of_ble_eq_true rfl)) (oSha hK (a := 73) (Nat.le_of_ble_eq_true rfl) rfl) i5 ?_
    obtain ⟨rfl, rfl⟩ := oRes h
    exact oe_iret (pc := 138) d_X12_of_138 ⟨_, rfl, rfl⟩
  · replace h := (if_neg c93_0).symm.trans h
    by_cases c93_1 : p2 = 1
    · replace h := (if_pos c93_1).symm.trans h
      refine oe_tableIn (pc := 93) (tgt := 139) (off := 46) d_X12_of_93 (by rw [c93_1]; decide) (by rw [c93_1]; decide) (by rw [c93_1]; rfl) (by decide) ?_
      refine oe_aload_n (pc := 139) d_X12_of_139 rfl ?_
      refine oe_getr (pc := 140) d_X12_of_140 fl_X12_58 ock12 (k := 24) (b := 76) (Nat.le_of_ble_eq_true rfl) (by decide) (oLt hK (a := 59) (Nat.le_of_ble_eq_true rfl)) (oSho hK (a := 59) (Nat.le_of_ble_eq_true rfl) rfl) (oRfK hK rfl) ?_
      refine oe_iload_n (pc := 143) d_X12_of_143 rfl ?_
      obtain ⟨i6, h⟩ := oIx_some h
      refine oe_iald (pc := 144) d_X12_of_144 (oLt hK (a := 76) (Nat.le_of_ble_eq_true rfl)) (oSha hK (a := 76) (Nat.le_of_ble_eq_true rfl) rfl) i6 ?_
      obtain ⟨rfl, rfl⟩ := oRes h
      exact oe_iret (pc := 145) d_X12_of_145 ⟨_, rfl, rfl⟩
    · replace h := (if_neg c93_1).symm.trans h
      by_cases c93_2 : p2 = 2
      · replace h := (if_pos c93_2).symm.trans h
        refine oe_tableIn (pc := 93) (tgt := 146) (off := 53) d_X12_of_93 (by rw [c93_2]; decide) (by rw [c93_2]; decide) (by rw [c93_2]; rfl) (by decide) ?_
        refine oe_aload_n (pc := 146) d_X12_of_146 rfl ?_
        refine oe_getr (pc := 147) d_X12_of_147 fl_X12_55 ock12 (k := 23) (b := 75) (Nat.le_of_ble_eq_true rfl) (by decide) (oLt hK (a := 59) (Nat.le_of_ble_eq_true rfl)) (oSho hK (a := 59) (Nat.le_of_ble_eq_true rfl) rfl) (oRfK hK rfl) ?_
        refine oe_iload_n (pc := 150) d_X12_of_150 rfl ?_
        obtain ⟨i7, h⟩ := oIx_some h
        refine oe_iald (pc := 151) d_X12_of_151 (oLt hK (a := 75) (Nat.le_of_ble_eq_true rfl)) (oSha hK (a := 75) (Nat.le_of_ble_eq_true rfl) rfl) i7 ?_
        obtain ⟨rfl, rfl⟩ := oRes h
        exact oe_iret (pc := 152) d_X12_of_152 ⟨_, rfl, rfl⟩
      · replace h := (if_neg c93_2).symm.trans h
        by_cases c93_3 : p2 = 3
        · replace h := (if_pos c93_3).symm.trans h
          refine oe_tableIn (pc := 93) (tgt := 153) (off := 60) d_X12_of_93 (by rw [c93_3]; decide) (by rw [c93_3]; decide) (by rw [c93_3]; rfl) (by decide) ?_
          refine oe_aload_n (pc := 153) d_X12_of_153 rfl ?_
          refine oe_iload_n (pc := 154) d_X12_of_154 rfl ?_
          refine oe_iload_n (pc := 155) d_X12_of_155 rfl ?_
          refine oe_iconst (pc := 156) (v := 3) d_X12_of_156 rfl ?_
          refine oe_isub (pc := 157) d_X12_of_157 ?_
          obtain ⟨v8, M9, q10, h⟩ := oB2_some h
          refine oe_callV (pc := 158) (ci := 12) d_X12_of_158 (v_X12_hoseOf hK  q10) (by omega) ml_X12_279 jJ_X12_hoseOf rfl rfl (oLt hK (a := 59) (Nat.le_of_ble_eq_true rfl)) (oSho hK (a := 59) (Nat.le_of_ble_eq_true rfl) rfl) ock12 rfl (Nat.le_of_ble_eq_true rfl) ⟨Nat.le_refl _, Nat.le_refl _⟩ ⟨Nat.le_refl _, Nat.le_refl _⟩ ?_
          obtain ⟨rfl, rfl⟩ := oRes h
          exact oe_iret (pc := 161) d_X12_of_161 ⟨_, rfl, rfl⟩
        · replace h := (if_neg c93_3).symm.trans h
          by_cases c93_4 : p2 = 4
          · replace h := (if_pos c93_4).symm.trans h
            refine oe_tableIn (pc := 93) (tgt := 153) (off := 60) d_X12_of_93 (by rw [c93_4]; decide) (by rw [c93_4]; decide) (by rw [c93_4]; rfl) (by decide) ?_
            refine oe_aload_n (pc := 153) d_X12_of_153 rfl ?_
            refine oe_iload_n (pc := 154) d_X12_of_154 rfl ?_
            refine oe_iload_n (pc := 155) d_X12_of_155 rfl ?_
            refine oe_iconst (pc := 156) (v := 3) d_X12_of_156 rfl ?_
            refine oe_isub (pc := 157) d_X12_of_157 ?_
            obtain ⟨v11, M12, q13, h⟩ := oB2_some h
            refine oe_callV (pc := 158) (ci := 12) d_X12_of_158 (v_X12_hoseOf hK  q13) (by omega) ml_X12_279 jJ_X12_hoseOf rfl rfl (oLt hK (a := 59) (Nat.le_of_ble_eq_true rfl)) (oSho hK (a := 59) (Nat.le_of_ble_eq_true rfl) rfl) ock12 rfl (Nat.le_of_ble_eq_true rfl) ⟨Nat.le_refl _, Nat.le_refl _⟩ ⟨Nat.le_refl _, Nat.le_refl _⟩ ?_
            obtain ⟨rfl, rfl⟩ := oRes h
            exact oe_iret (pc := 161) d_X12_of_161 ⟨_, rfl, rfl⟩
          · replace h := (if_neg c93_4).symm.trans h
            by_cases c93_5 : p2 = 5
            · replace h := (if_pos c93_5).symm.trans h
              refine oe_tableIn (pc := 93) (tgt := 153) (off := 60) d_X12_of_93 (by rw [c93_5]; decide) (by rw [c93_5]; decide) (by rw [c93_5]; rfl) (by decide) ?_
              refine oe_aload_n (pc := 153) d_X12_of_153 rfl ?_
              refine oe_iload_n (pc := 154) d_X12_of_154 rfl ?_
              refine oe_iload_n (pc := 155) d_X12_of_155 rfl ?_
              refine oe_iconst (pc := 156) (v := 3) d_X12_of_156 rfl ?_
              refine oe_isub (pc := 157) d_X12_of_157 ?_
              obtain ⟨v14, M15, q16, h⟩ := oB2_some h
              refine oe_callV (pc := 158) (ci := 12) d_X12_of_158 (v_X12_hoseOf hK  q16) (by omega) ml_X12_279 jJ_X12_hoseOf rfl rfl (oLt hK (a := 59) (Nat.le_of_ble_eq_true rfl)) (oSho hK (a := 59) (Nat.le_of_ble_eq_true rfl) rfl) ock12 rfl (Nat.le_of_ble_eq_true rfl) ⟨Nat.le_refl _, Nat.le_refl _⟩ ⟨Nat.le_refl _, Nat.le_refl _⟩ ?_
              obtain ⟨rfl, rfl⟩ := oRes h
              exact oe_iret (pc := 161) d_X12_of_161 ⟨_, rfl, rfl⟩
            · replace h := (if_neg c93_5).symm.trans h
              refine oe_tableOut (pc := 93) (tgt := 162) d_X12_of_93 (by have := oNe (k := 0) c93_0 rfl; have := oNe (k := 1) c93_1 rfl; have := oNe (k := 2) c93_2 rfl; have := oNe (k := 3) c93_3 rfl; have := oNe (k := 4) c93_4 rfl; have := oNe (k := 5) c93_5 rfl; omega) (by decide) ?_
              refine oe_iconst (pc := 162) (v := (-1)) d_X12_of_162 rfl ?_
              obtain ⟨rfl, rfl⟩ := oRes h
              exact oe_iret (pc := 163) d_X12_of_163 ⟨_, rfl, rfl⟩
def f_X12_of (N : Nat) (K : oK) (p1 : Int32) (p2 : Int32) (M : oM) : Option (Int32 × oM) :=
  oB2 (f_X12_isLaying N K p1 M) (fun v1 M2 => cond v1 ((if p2 < 100 then (f_X12_of_92 N K  p1 p2 M2) else (if 400 ≤ p2 then (f_X12_of_92 N K  p1 p2 M2) else oIx (p1) 20 ((if (p2 - p2 / 100 * 100) < (M2.1 76 (p1 : Int32).toNatClampNeg) then (if 200 ≤ p2 then (if 300 ≤ p2 then oIx ((((24 : Int32) * p1) + (p2 - p2 / 100 * 100))) 480 (some ((M2.1 79 ((((24 : Int32) * p1) + (p2 - p2 / 100 * 100)) : Int32).toNatClampNeg), M2)) else oIx ((((24 : Int32) * p1) + (p2 - p2 / 100 * 100))) 480 (some ((M2.1 78 ((((24 : Int32) * p1) + (p2 - p2 / 100 * 100)) : Int32).toNatClampNeg), M2))) else oIx ((((24 : Int32) * p1) + (p2 - p2 / 100 * 100))) 480 (some ((M2.1 77 ((((24 : Int32) * p1) + (p2 - p2 / 100 * 100)) : Int32).toNatClampNeg), M2))) else some ((-1), M2)))))) (some ((-1), M2)))
set_option maxRecDepth 20000 in
theorem v_X12_of {X : oX} {N : Nat} {K : oK} {p1 : Int32} {p2 : Int32} {M : oM} {v : Int32} {M' : oM} (hK : oSR K)  (h : f_X12_of N K p1 p2 M = some (v, M')) : oMet X 4 J_X12_of [(.ref 59), (.int p1), (.int p2)] K M (some (.int v)) K M' := by
  unfold f_X12_of at h
  refine oMet_of (L := [some (.ref 59), some (.int p1), some (.int p2), none, none]) jJ_X12_of.1 rfl (Nat.le_of_ble_eq_true rfl) rfl (Nat.le_refl _) (Nat.le_refl _) ?_
  have hd : 4 ≤ 4 := Nat.le_refl _
  refine oe_aload_n (pc := 0) d_X12_of_0 rfl ?_
  refine oe_iload_n (pc := 1) d_X12_of_1 rfl ?_
  obtain ⟨v1, M2, q3, h⟩ := oB2_some h
  cases v1 with
  | true =>
    replace h := oCt h
    refine oe_callV (pc := 2) (ci := 12) d_X12_of_2 (v_X12_isLaying hK  q3) (by omega) ml_X12_230 jJ_X12_isLaying rfl rfl (oLt hK (a := 59) (Nat.le_of_ble_eq_true rfl)) (oSho hK (a := 59) (Nat.le_of_ble_eq_true rfl) rfl) ock12 rfl (Nat.le_of_ble_eq_true rfl) ⟨Nat.le_refl _, Nat.le_refl _⟩ ⟨Nat.le_refl _, Nat.le_refl _⟩ ?_
    refine oe_if_ne (pc := 5) (tgt := 10) d_X12_of_5 (by decide) (fun _ => ?_) (fun c => absurd c (by decide))
    refine oe_iload_n (pc := 10) d_X12_of_10 rfl ?_
    refine oe_bipush (pc := 11) (v := 100) d_X12_of_11 rfl ?_
    refine oe_irem (pc := 13) d_X12_of_13 (by decide) ?_
    refine oe_istore_n (pc := 14) (L2 := [_, _, _, _, _]) d_X12_of_14 rfl rfl (Nat.le_of_ble_eq_true rfl) rfl ?_
    refine oe_iload_n (pc := 15) d_X12_of_15 rfl ?_
    refine oe_bipush (pc := 16) (v := 100) d_X12_of_16 rfl ?_
    refine oe_icmp_lt (pc := 18) (tgt := 92) d_X12_of_18 (by decide) (fun c4 => ?_) (fun c4 => ?_)
    · replace h := (if_pos c4).symm.trans h
      refine oEv.fg [true, true, true, false, false] ?_
      exact v_X12_of_92 hd hK   h
    · replace h := (if_neg c4).symm.trans h
      refine oe_iload_n (pc := 21) d_X12_of_21 rfl ?_
      refine oe_sipush (pc := 22) (v := 400) d_X12_of_22 rfl ?_
      refine oe_icmp_ge (pc := 25) (tgt := 92) d_X12_of_25 (by decide) (fun c17 => ?_) (fun c17 => ?_)
      · replace h := (if_pos c17).symm.trans h
        refine oEv.fg [true, true, true, false, false] ?_
        exact v_X12_of_92 hd hK   h
      · replace h := (if_neg c17).symm.trans h
        refine oe_bipush (pc := 28) (v := 24) d_X12_of_28 rfl ?_
        refine oe_iload_n (pc := 30) d_X12_of_30 rfl ?_
        refine oe_imul (pc := 31) d_X12_of_31 ?_
        refine oe_iload_n (pc := 32) d_X12_of_32 rfl ?_
        refine oe_iadd (pc := 33) d_X12_of_33 ?_
        refine oe_istore (pc := 34) (L2 := [_, _, _, _, _]) d_X12_of_34 rfl (Nat.le_of_ble_eq_true rfl) rfl ?_
        refine oe_iload_n (pc := 36) d_X12_of_36 rfl ?_
        refine oe_aload_n (pc := 37) d_X12_of_37 rfl ?_
        refine oe_getr (pc := 38) d_X12_of_38 fl_X12_58 ock12 (k := 24) (b := 76) (Nat.le_of_ble_eq_true rfl) (by decide) (oLt hK (a := 59) (Nat.le_of_ble_eq_true rfl)) (oSho hK (a := 59) (Nat.le_of_ble_eq_true rfl) rfl) (oRfK hK rfl) ?_
        refine oe_iload_n (pc := 41) d_X12_of_41 rfl ?_
        obtain ⟨i18, h⟩ := oIx_some h
        refine oe_iald (pc := 42) d_X12_of_42 (oLt hK (a := 76) (Nat.le_of_ble_eq_true rfl)) (oSha hK (a := 76) (Nat.le_of_ble_eq_true rfl) rfl) i18 ?_
        refine oe_icmp_lt (pc := 43) (tgt := 50) d_X12_of_43 (by decide) (fun c19 => ?_) (fun c19 => ?_)
        · replace h := (if_pos c19).symm.trans h
          refine oe_iload_n (pc := 50) d_X12_of_50 rfl ?_
          refine oe_sipush (pc := 51) (v := 200) d_X12_of_51 rfl ?_
          refine oe_icmp_ge (pc := 54) (tgt := 67) d_X12_of_54 (by decide) (fun c20 => ?_) (fun c20 => ?_)
          · replace h := (if_pos c20).symm.trans h
            refine oe_iload_n (pc := 67) d_X12_of_67 rfl ?_
            refine oe_sipush (pc := 68) (v := 300) d_X12_of_68 rfl ?_
            refine oe_icmp_ge (pc := 71) (tgt := 84) d_X12_of_71 (by decide) (fun c21 => ?_) (fun c21 => ?_)
            · replace h := (if_pos c21).symm.trans h
              refine oe_aload_n (pc := 84) d_X12_of_84 rfl ?_
              refine oe_getr (pc := 85) d_X12_of_85 fl_X12_67 ock12 (k := 27) (b := 79) (Nat.le_of_ble_eq_true rfl) (by decide) (oLt hK (a := 59) (Nat.le_of_ble_eq_true rfl)) (oSho hK (a := 59) (Nat.le_of_ble_eq_true rfl) rfl) (oRfK hK rfl) ?_
              refine oe_iload (pc := 88) d_X12_of_88 rfl ?_
              obtain ⟨i22, h⟩ := oIx_some h
              refine oe_iald (pc := 90) d_X12_of_90 (oLt hK (a := 79) (Nat.le_of_ble_eq_true rfl)) (oSha hK (a := 79) (Nat.le_of_ble_eq_true rfl) rfl) i22 ?_
              obtain ⟨rfl, rfl⟩ := oRes h
              exact oe_iret (pc := 91) d_X12_of_91 ⟨_, rfl, rfl⟩
            · replace h := (if_neg c21).symm.trans h
              refine oe_aload_n (pc := 74) d_X12_of_74 rfl ?_
              refine oe_getr (pc := 75) d_X12_of_75 fl_X12_64 ock12 (k := 26) (b := 78) (Nat.le_of_ble_eq_true rfl) (by decide) (oLt hK (a := 59) (Nat.le_of_ble_eq_true rfl)) (oSho hK (a := 59) (Nat.le_of_ble_eq_true rfl) rfl) (oRfK hK rfl) ?_
              refine oe_iload (pc := 78) d_X12_of_78 rfl ?_
              obtain ⟨i23, h⟩ := oIx_some h
              refine oe_iald (pc := 80) d_X12_of_80 (oLt hK (a := 78) (Nat.le_of_ble_eq_true rfl)) (oSha hK (a := 78) (Nat.le_of_ble_eq_true rfl) rfl) i23 ?_
              refine oe_goto (pc := 81) (tgt := 91) d_X12_of_81 (by decide) ?_
              obtain ⟨rfl, rfl⟩ := oRes h
              exact oe_iret (pc := 91) d_X12_of_91 ⟨_, rfl, rfl⟩
          · replace h := (if_neg c20).symm.trans h
            refine oe_aload_n (pc := 57) d_X12_of_57 rfl ?_
            refine oe_getr (pc := 58) d_X12_of_58 fl_X12_61 ock12 (k := 25) (b := 77) (Nat.le_of_ble_eq_true rfl) (by decide) (oLt hK (a := 59) (Nat.le_of_ble_eq_true rfl)) (oSho hK (a := 59) (Nat.le_of_ble_eq_true rfl) rfl) (oRfK hK rfl) ?_
            refine oe_iload (pc := 61) d_X12_of_61 rfl ?_
            obtain ⟨i24, h⟩ := oIx_some h
            refine oe_iald (pc := 63) d_X12_of_63 (oLt hK (a := 77) (Nat.le_of_ble_eq_true rfl)) (oSha hK (a := 77) (Nat.le_of_ble_eq_true rfl) rfl) i24 ?_
            refine oe_goto (pc := 64) (tgt := 91) d_X12_of_64 (by decide) ?_
            obtain ⟨rfl, rfl⟩ := oRes h
            exact oe_iret (pc := 91) d_X12_of_91 ⟨_, rfl, rfl⟩
        · replace h := (if_neg c19).symm.trans h
          refine oe_iconst (pc := 46) (v := (-1)) d_X12_of_46 rfl ?_
          refine oe_goto (pc := 47) (tgt := 91) d_X12_of_47 (by decide) ?_
          obtain ⟨rfl, rfl⟩ := oRes h
          exact oe_iret (pc := 91) d_X12_of_91 ⟨_, rfl, rfl⟩
  | false =>
    replace h := oCf h
    refine oe_callV (pc := 2) (ci := 12) d_X12_of_2 (v_X12_isLaying hK  q3) (by omega) ml_X12_230 jJ_X12_isLaying rfl rfl (oLt hK (a := 59) (Nat.le_of_ble_eq_true rfl)) (oSho hK (a := 59) (Nat.le_of_ble_eq_true rfl) rfl) ock12 rfl (Nat.le_of_ble_eq_true rfl) ⟨Nat.le_refl _, Nat.le_refl _⟩ ⟨Nat.le_refl _, Nat.le_refl _⟩ ?_
    refine oe_if_ne (pc := 5) (tgt := 10) d_X12_of_5 (by decide) (fun c => absurd (by decide) c) (fun _ => ?_)
    refine oe_iconst (pc := 8) (v := (-1)) d_X12_of_8 rfl ?_
    obtain ⟨rfl, rfl⟩ := oRes h
    exact oe_iret (pc := 9) d_X12_of_9 ⟨_, rfl, rfl⟩
