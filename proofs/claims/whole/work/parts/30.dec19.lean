/-! walked by program: X12_soon, X12_lasts, X12_turn -/
theorem d_X12_soon_0 : decode J_X12_soon.2.1 0 = .ok (.aload_n 0, 1) := by decide +kernel
theorem d_X12_soon_1 : decode J_X12_soon.2.1 1 = .ok (.iload_n 1, 1) := by decide +kernel
theorem d_X12_soon_2 : decode J_X12_soon.2.1 2 = .ok (.invokevirtual 216, 3) := by decide +kernel
theorem d_X12_soon_5 : decode J_X12_soon.2.1 5 = .ok (.ifCond .eq 19, 3) := by decide +kernel
theorem d_X12_soon_8 : decode J_X12_soon.2.1 8 = .ok (.aload_n 0, 1) := by decide +kernel
theorem d_X12_soon_9 : decode J_X12_soon.2.1 9 = .ok (.iload_n 2, 1) := by decide +kernel
theorem d_X12_soon_10 : decode J_X12_soon.2.1 10 = .ok (.invokevirtual 159, 3) := by decide +kernel
theorem d_X12_soon_13 : decode J_X12_soon.2.1 13 = .ok (.ifCond .eq 11, 3) := by decide +kernel
theorem d_X12_soon_16 : decode J_X12_soon.2.1 16 = .ok (.aload_n 0, 1) := by decide +kernel
theorem d_X12_soon_17 : decode J_X12_soon.2.1 17 = .ok (.iload_n 3, 1) := by decide +kernel
theorem d_X12_soon_18 : decode J_X12_soon.2.1 18 = .ok (.invokevirtual 159, 3) := by decide +kernel
theorem d_X12_soon_21 : decode J_X12_soon.2.1 21 = .ok (.ifCond .ne 5, 3) := by decide +kernel
theorem d_X12_soon_24 : decode J_X12_soon.2.1 24 = .ok (.iconst (-1), 1) := by decide +kernel
theorem d_X12_soon_25 : decode J_X12_soon.2.1 25 = .ok (.ireturn, 1) := by decide +kernel
theorem d_X12_soon_26 : decode J_X12_soon.2.1 26 = .ok (.iconst 0, 1) := by decide +kernel
theorem d_X12_soon_27 : decode J_X12_soon.2.1 27 = .ok (.istore 4, 2) := by decide +kernel
theorem d_X12_soon_29 : decode J_X12_soon.2.1 29 = .ok (.iload 4, 2) := by decide +kernel
theorem d_X12_soon_31 : decode J_X12_soon.2.1 31 = .ok (.aload_n 0, 1) := by decide +kernel
theorem d_X12_soon_32 : decode J_X12_soon.2.1 32 = .ok (.getfield 142, 3) := by decide +kernel
theorem d_X12_soon_35 : decode J_X12_soon.2.1 35 = .ok (.if_icmp .ge 29, 3) := by decide +kernel
theorem d_X12_soon_38 : decode J_X12_soon.2.1 38 = .ok (.aload_n 0, 1) := by decide +kernel
theorem d_X12_soon_39 : decode J_X12_soon.2.1 39 = .ok (.getfield 110, 3) := by decide +kernel
theorem d_X12_soon_42 : decode J_X12_soon.2.1 42 = .ok (.iload 4, 2) := by decide +kernel
theorem d_X12_soon_44 : decode J_X12_soon.2.1 44 = .ok (.iload 4, 2) := by decide +kernel
theorem d_X12_soon_46 : decode J_X12_soon.2.1 46 = .ok (.iload_n 2, 1) := by decide +kernel
theorem d_X12_soon_47 : decode J_X12_soon.2.1 47 = .ok (.if_icmp .ne 7, 3) := by decide +kernel
theorem d_X12_soon_50 : decode J_X12_soon.2.1 50 = .ok (.iconst 0, 1) := by decide +kernel
theorem d_X12_soon_51 : decode J_X12_soon.2.1 51 = .ok (.goto 6, 3) := by decide +kernel
theorem d_X12_soon_54 : decode J_X12_soon.2.1 54 = .ok (.ldc_w 346, 3) := by decide +kernel
theorem d_X12_soon_57 : decode J_X12_soon.2.1 57 = .ok (.iastore, 1) := by decide +kernel
theorem d_X12_soon_58 : decode J_X12_soon.2.1 58 = .ok (.iinc 4 1, 3) := by decide +kernel
theorem d_X12_soon_61 : decode J_X12_soon.2.1 61 = .ok (.goto (-32), 3) := by decide +kernel
theorem d_X12_soon_64 : decode J_X12_soon.2.1 64 = .ok (.iconst 1, 1) := by decide +kernel
theorem d_X12_soon_65 : decode J_X12_soon.2.1 65 = .ok (.istore 4, 2) := by decide +kernel
theorem d_X12_soon_67 : decode J_X12_soon.2.1 67 = .ok (.iload 4, 2) := by decide +kernel
theorem d_X12_soon_69 : decode J_X12_soon.2.1 69 = .ok (.ifCond .eq 172, 3) := by decide +kernel
theorem d_X12_soon_72 : decode J_X12_soon.2.1 72 = .ok (.iconst 0, 1) := by decide +kernel
theorem d_X12_soon_73 : decode J_X12_soon.2.1 73 = .ok (.istore 4, 2) := by decide +kernel
theorem d_X12_soon_75 : decode J_X12_soon.2.1 75 = .ok (.iconst 0, 1) := by decide +kernel
theorem d_X12_soon_76 : decode J_X12_soon.2.1 76 = .ok (.istore 5, 2) := by decide +kernel
theorem d_X12_soon_78 : decode J_X12_soon.2.1 78 = .ok (.iload 5, 2) := by decide +kernel
theorem d_X12_soon_80 : decode J_X12_soon.2.1 80 = .ok (.aload_n 0, 1) := by decide +kernel
theorem d_X12_soon_81 : decode J_X12_soon.2.1 81 = .ok (.getfield 149, 3) := by decide +kernel
theorem d_X12_soon_84 : decode J_X12_soon.2.1 84 = .ok (.if_icmp .ge 154, 3) := by decide +kernel
theorem d_X12_soon_87 : decode J_X12_soon.2.1 87 = .ok (.aload_n 0, 1) := by decide +kernel
theorem d_X12_soon_88 : decode J_X12_soon.2.1 88 = .ok (.getfield 28, 3) := by decide +kernel
theorem d_X12_soon_91 : decode J_X12_soon.2.1 91 = .ok (.iload 5, 2) := by decide +kernel
theorem d_X12_soon_93 : decode J_X12_soon.2.1 93 = .ok (.iaload, 1) := by decide +kernel
theorem d_X12_soon_94 : decode J_X12_soon.2.1 94 = .ok (.aload_n 0, 1) := by decide +kernel
theorem d_X12_soon_95 : decode J_X12_soon.2.1 95 = .ok (.getfield 34, 3) := by decide +kernel
theorem d_X12_soon_98 : decode J_X12_soon.2.1 98 = .ok (.iload_n 1, 1) := by decide +kernel
theorem d_X12_soon_99 : decode J_X12_soon.2.1 99 = .ok (.iaload, 1) := by decide +kernel
theorem d_X12_soon_100 : decode J_X12_soon.2.1 100 = .ok (.iadd, 1) := by decide +kernel
theorem d_X12_soon_101 : decode J_X12_soon.2.1 101 = .ok (.iconst 1, 1) := by decide +kernel
theorem d_X12_soon_102 : decode J_X12_soon.2.1 102 = .ok (.isub, 1) := by decide +kernel
theorem d_X12_soon_103 : decode J_X12_soon.2.1 103 = .ok (.aload_n 0, 1) := by decide +kernel
theorem d_X12_soon_104 : decode J_X12_soon.2.1 104 = .ok (.getfield 34, 3) := by decide +kernel
theorem d_X12_soon_107 : decode J_X12_soon.2.1 107 = .ok (.iload_n 1, 1) := by decide +kernel
theorem d_X12_soon_108 : decode J_X12_soon.2.1 108 = .ok (.iaload, 1) := by decide +kernel
theorem d_X12_soon_109 : decode J_X12_soon.2.1 109 = .ok (.idiv, 1) := by decide +kernel
theorem d_X12_soon_110 : decode J_X12_soon.2.1 110 = .ok (.istore 6, 2) := by decide +kernel
theorem d_X12_soon_112 : decode J_X12_soon.2.1 112 = .ok (.aload_n 0, 1) := by decide +kernel
theorem d_X12_soon_113 : decode J_X12_soon.2.1 113 = .ok (.getfield 110, 3) := by decide +kernel
theorem d_X12_soon_116 : decode J_X12_soon.2.1 116 = .ok (.aload_n 0, 1) := by decide +kernel
theorem d_X12_soon_117 : decode J_X12_soon.2.1 117 = .ok (.getfield 22, 3) := by decide +kernel
theorem d_X12_soon_120 : decode J_X12_soon.2.1 120 = .ok (.iload 5, 2) := by decide +kernel
theorem d_X12_soon_122 : decode J_X12_soon.2.1 122 = .ok (.iaload, 1) := by decide +kernel
theorem d_X12_soon_123 : decode J_X12_soon.2.1 123 = .ok (.iaload, 1) := by decide +kernel
theorem d_X12_soon_124 : decode J_X12_soon.2.1 124 = .ok (.iload 6, 2) := by decide +kernel
theorem d_X12_soon_126 : decode J_X12_soon.2.1 126 = .ok (.iadd, 1) := by decide +kernel
theorem d_X12_soon_127 : decode J_X12_soon.2.1 127 = .ok (.aload_n 0, 1) := by decide +kernel
theorem d_X12_soon_128 : decode J_X12_soon.2.1 128 = .ok (.getfield 110, 3) := by decide +kernel
theorem d_X12_soon_131 : decode J_X12_soon.2.1 131 = .ok (.aload_n 0, 1) := by decide +kernel
theorem d_X12_soon_132 : decode J_X12_soon.2.1 132 = .ok (.getfield 25, 3) := by decide +kernel
theorem d_X12_soon_135 : decode J_X12_soon.2.1 135 = .ok (.iload 5, 2) := by decide +kernel
theorem d_X12_soon_137 : decode J_X12_soon.2.1 137 = .ok (.iaload, 1) := by decide +kernel
theorem d_X12_soon_138 : decode J_X12_soon.2.1 138 = .ok (.iaload, 1) := by decide +kernel
theorem d_X12_soon_139 : decode J_X12_soon.2.1 139 = .ok (.if_icmp .ge 33, 3) := by decide +kernel
theorem d_X12_soon_142 : decode J_X12_soon.2.1 142 = .ok (.aload_n 0, 1) := by decide +kernel
theorem d_X12_soon_143 : decode J_X12_soon.2.1 143 = .ok (.getfield 110, 3) := by decide +kernel
theorem d_X12_soon_146 : decode J_X12_soon.2.1 146 = .ok (.aload_n 0, 1) := by decide +kernel
theorem d_X12_soon_147 : decode J_X12_soon.2.1 147 = .ok (.getfield 25, 3) := by decide +kernel
theorem d_X12_soon_150 : decode J_X12_soon.2.1 150 = .ok (.iload 5, 2) := by decide +kernel
theorem d_X12_soon_152 : decode J_X12_soon.2.1 152 = .ok (.iaload, 1) := by decide +kernel
theorem d_X12_soon_153 : decode J_X12_soon.2.1 153 = .ok (.aload_n 0, 1) := by decide +kernel
theorem d_X12_soon_154 : decode J_X12_soon.2.1 154 = .ok (.getfield 110, 3) := by decide +kernel
theorem d_X12_soon_157 : decode J_X12_soon.2.1 157 = .ok (.aload_n 0, 1) := by decide +kernel
theorem d_X12_soon_158 : decode J_X12_soon.2.1 158 = .ok (.getfield 22, 3) := by decide +kernel
theorem d_X12_soon_161 : decode J_X12_soon.2.1 161 = .ok (.iload 5, 2) := by decide +kernel
theorem d_X12_soon_163 : decode J_X12_soon.2.1 163 = .ok (.iaload, 1) := by decide +kernel
theorem d_X12_soon_164 : decode J_X12_soon.2.1 164 = .ok (.iaload, 1) := by decide +kernel
theorem d_X12_soon_165 : decode J_X12_soon.2.1 165 = .ok (.iload 6, 2) := by decide +kernel
theorem d_X12_soon_167 : decode J_X12_soon.2.1 167 = .ok (.iadd, 1) := by decide +kernel
theorem d_X12_soon_168 : decode J_X12_soon.2.1 168 = .ok (.iastore, 1) := by decide +kernel
theorem d_X12_soon_169 : decode J_X12_soon.2.1 169 = .ok (.iconst 1, 1) := by decide +kernel
theorem d_X12_soon_170 : decode J_X12_soon.2.1 170 = .ok (.istore 4, 2) := by decide +kernel
theorem d_X12_soon_172 : decode J_X12_soon.2.1 172 = .ok (.aload_n 0, 1) := by decide +kernel
theorem d_X12_soon_173 : decode J_X12_soon.2.1 173 = .ok (.getfield 110, 3) := by decide +kernel
theorem d_X12_soon_176 : decode J_X12_soon.2.1 176 = .ok (.aload_n 0, 1) := by decide +kernel
theorem d_X12_soon_177 : decode J_X12_soon.2.1 177 = .ok (.getfield 25, 3) := by decide +kernel
theorem d_X12_soon_180 : decode J_X12_soon.2.1 180 = .ok (.iload 5, 2) := by decide +kernel
theorem d_X12_soon_182 : decode J_X12_soon.2.1 182 = .ok (.iaload, 1) := by decide +kernel
theorem d_X12_soon_183 : decode J_X12_soon.2.1 183 = .ok (.iaload, 1) := by decide +kernel
theorem d_X12_soon_184 : decode J_X12_soon.2.1 184 = .ok (.iload 6, 2) := by decide +kernel
theorem d_X12_soon_186 : decode J_X12_soon.2.1 186 = .ok (.iadd, 1) := by decide +kernel
theorem d_X12_soon_187 : decode J_X12_soon.2.1 187 = .ok (.aload_n 0, 1) := by decide +kernel
theorem d_X12_soon_188 : decode J_X12_soon.2.1 188 = .ok (.getfield 110, 3) := by decide +kernel
theorem d_X12_soon_191 : decode J_X12_soon.2.1 191 = .ok (.aload_n 0, 1) := by decide +kernel
theorem d_X12_soon_192 : decode J_X12_soon.2.1 192 = .ok (.getfield 22, 3) := by decide +kernel
theorem d_X12_soon_195 : decode J_X12_soon.2.1 195 = .ok (.iload 5, 2) := by decide +kernel
theorem d_X12_soon_197 : decode J_X12_soon.2.1 197 = .ok (.iaload, 1) := by decide +kernel
theorem d_X12_soon_198 : decode J_X12_soon.2.1 198 = .ok (.iaload, 1) := by decide +kernel
theorem d_X12_soon_199 : decode J_X12_soon.2.1 199 = .ok (.if_icmp .ge 33, 3) := by decide +kernel
theorem d_X12_soon_202 : decode J_X12_soon.2.1 202 = .ok (.aload_n 0, 1) := by decide +kernel
theorem d_X12_soon_203 : decode J_X12_soon.2.1 203 = .ok (.getfield 110, 3) := by decide +kernel
theorem d_X12_soon_206 : decode J_X12_soon.2.1 206 = .ok (.aload_n 0, 1) := by decide +kernel
theorem d_X12_soon_207 : decode J_X12_soon.2.1 207 = .ok (.getfield 22, 3) := by decide +kernel
theorem d_X12_soon_210 : decode J_X12_soon.2.1 210 = .ok (.iload 5, 2) := by decide +kernel
theorem d_X12_soon_212 : decode J_X12_soon.2.1 212 = .ok (.iaload, 1) := by decide +kernel
theorem d_X12_soon_213 : decode J_X12_soon.2.1 213 = .ok (.aload_n 0, 1) := by decide +kernel
theorem d_X12_soon_214 : decode J_X12_soon.2.1 214 = .ok (.getfield 110, 3) := by decide +kernel
theorem d_X12_soon_217 : decode J_X12_soon.2.1 217 = .ok (.aload_n 0, 1) := by decide +kernel
theorem d_X12_soon_218 : decode J_X12_soon.2.1 218 = .ok (.getfield 25, 3) := by decide +kernel
theorem d_X12_soon_221 : decode J_X12_soon.2.1 221 = .ok (.iload 5, 2) := by decide +kernel
theorem d_X12_soon_223 : decode J_X12_soon.2.1 223 = .ok (.iaload, 1) := by decide +kernel
theorem d_X12_soon_224 : decode J_X12_soon.2.1 224 = .ok (.iaload, 1) := by decide +kernel
theorem d_X12_soon_225 : decode J_X12_soon.2.1 225 = .ok (.iload 6, 2) := by decide +kernel
theorem d_X12_soon_227 : decode J_X12_soon.2.1 227 = .ok (.iadd, 1) := by decide +kernel
theorem d_X12_soon_228 : decode J_X12_soon.2.1 228 = .ok (.iastore, 1) := by decide +kernel
theorem d_X12_soon_229 : decode J_X12_soon.2.1 229 = .ok (.iconst 1, 1) := by decide +kernel
theorem d_X12_soon_230 : decode J_X12_soon.2.1 230 = .ok (.istore 4, 2) := by decide +kernel
theorem d_X12_soon_232 : decode J_X12_soon.2.1 232 = .ok (.iinc 5 1, 3) := by decide +kernel
theorem d_X12_soon_235 : decode J_X12_soon.2.1 235 = .ok (.goto (-157), 3) := by decide +kernel
theorem d_X12_soon_238 : decode J_X12_soon.2.1 238 = .ok (.goto (-171), 3) := by decide +kernel
theorem d_X12_soon_241 : decode J_X12_soon.2.1 241 = .ok (.aload_n 0, 1) := by decide +kernel
theorem d_X12_soon_242 : decode J_X12_soon.2.1 242 = .ok (.getfield 110, 3) := by decide +kernel
theorem d_X12_soon_245 : decode J_X12_soon.2.1 245 = .ok (.iload_n 3, 1) := by decide +kernel
theorem d_X12_soon_246 : decode J_X12_soon.2.1 246 = .ok (.iaload, 1) := by decide +kernel
theorem d_X12_soon_247 : decode J_X12_soon.2.1 247 = .ok (.ldc_w 346, 3) := by decide +kernel
theorem d_X12_soon_250 : decode J_X12_soon.2.1 250 = .ok (.if_icmp .lt 8, 3) := by decide +kernel
theorem d_X12_soon_253 : decode J_X12_soon.2.1 253 = .ok (.bipush (-2), 2) := by decide +kernel
theorem d_X12_soon_255 : decode J_X12_soon.2.1 255 = .ok (.goto 9, 3) := by decide +kernel
theorem d_X12_soon_258 : decode J_X12_soon.2.1 258 = .ok (.aload_n 0, 1) := by decide +kernel
theorem d_X12_soon_259 : decode J_X12_soon.2.1 259 = .ok (.getfield 110, 3) := by decide +kernel
theorem d_X12_soon_262 : decode J_X12_soon.2.1 262 = .ok (.iload_n 3, 1) := by decide +kernel
theorem d_X12_soon_263 : decode J_X12_soon.2.1 263 = .ok (.iaload, 1) := by decide +kernel
theorem d_X12_soon_264 : decode J_X12_soon.2.1 264 = .ok (.ireturn, 1) := by decide +kernel
def f_X12_soon_232 (N : Nat) (K : oK) (r67 : (Int32 → Int32 → Int32 → oM → Option (Int32 × oM))) (r78 : (Int32 → Int32 → Int32 → Int32 → oM → Option (Int32 × oM))) (p1 : Int32) (p3 : Int32) (p4 : Int32) (p5 : Int32) (M : oM) : Option (Int32 × oM) :=
  (r78 p1 p3 p4 (p5 + 1) M)
set_option maxRecDepth 20000 in
theorem v_X12_soon_232 {X : oX} {d N : Nat} {K : oK} {r67 : (Int32 → Int32 → Int32 → oM → Option (Int32 × oM))} {r78 : (Int32 → Int32 → Int32 → Int32 → oM → Option (Int32 × oM))} {p1 : Int32} {p3 : Int32} {p4 : Int32} {p5 : Int32} {M : oM} {v : Int32} {M' : oM}  (hd : 3 ≤ d) (hK : oSR K)  (hr67 : ∀ (p1 : Int32) (p3 : Int32) (p4 : Int32) (M : oM) (v : Int32) (M' : oM) , r67 p1 p3 p4 M = some (v, M') → oEv X d J_X12_soon 67 [some (.ref 59), some (.int p1), none, some (.int p3), some (.int p4), none, none] [] K M (some (.int v)) K M') (hr78 : ∀ (p1 : Int32) (p3 : Int32) (p4 : Int32) (p5 : Int32) (M : oM) (v : Int32) (M' : oM) , r78 p1 p3 p4 p5 M = some (v, M') → oEv X d J_X12_soon 78 [some (.ref 59), some (.int p1), none, some (.int p3), some (.int p4), some (.int p5), none] [] K M (some (.int v)) K M') (h : f_X12_soon_232 N K r67 r78 p1 p3 p4 p5 M = some (v, M')) : oEv X d J_X12_soon 232 [some (.ref 59), some (.int p1), none, some (.int p3), some (.int p4), some (.int p5), none] [] K M (some (.int v)) K M' := by
  unfold f_X12_soon_232 at h
  refine oe_iinc (pc := 232) (v := (p5 + 1)) (L2 := [_, _, _, _, _, _, _]) d_X12_soon_232 rfl rfl rfl (Nat.le_of_ble_eq_true rfl) rfl ?_
  refine oe_goto (pc := 235) (tgt := 78) d_X12_soon_235 (by decide) ?_
  exact hr78 _ _ _ _ _ _ _ h
def f_X12_soon_172 (N : Nat) (K : oK) (r67 : (Int32 → Int32 → Int32 → oM → Option (Int32 × oM))) (r78 : (Int32 → Int32 → Int32 → Int32 → oM → Option (Int32 × oM))) (p1 : Int32) (p3 : Int32) (p4 : Int32) (p5 : Int32) (p6 : Int32) (M : oM) : Option (Int32 × oM) :=
  oIx (p5) 20 (oIx ((M.1 65 (p5 : Int32).toNatClampNeg)) 12 (oIx (p5) 20 (oIx ((M.1 64 (p5 : Int32).toNatClampNeg)) 12 ((if (M.1 93 ((M.1 64 (p5 : Int32).toNatClampNeg) : Int32).toNatClampNeg) ≤ ((M.1 93 ((M.1 65 (p5 : Int32).toNatClampNeg) : Int32).toNatClampNeg) + p6) then (f_X12_soon_232 N K r67 r78 p1 p3 p4 p5 M) else oIx (p5) 20 (oIx (p5) 20 (oIx ((M.1 65 (p5 : Int32).toNatClampNeg)) 12 (oIx ((M.1 64 (p5 : Int32).toNatClampNeg)) 12 ((f_X12_soon_232 N K r67 r78 p1 p3 1 p5 (oUp M 93 ((M.1 64 (p5 : Int32).toNatClampNeg) : Int32).toNatClampNeg ((M.1 93 ((M.1 65 (p5 : Int32).toNatClampNeg) : Int32).toNatClampNeg) + p6))))))))))))
set_option maxRecDepth 20000 in
theorem v_X12_soon_172 {X : oX} {d N : Nat} {K : oK} {r67 : (Int32 → Int32 → Int32 → oM → Option (Int32 × oM))} {r78 : (Int32 → Int32 → Int32 → Int32 → oM → Option (Int32 × oM))} {p1 : Int32} {p3 : Int32} {p4 : Int32} {p5 : Int32} {p6 : Int32} {M : oM} {v : Int32} {M' : oM}  (hd : 3 ≤ d) (hK : oSR K)  (hr67 : ∀ (p1 : Int32) (p3 : Int32) (p4 : Int32) (M : oM) (v : Int32) (M' : oM) , r67 p1 p3 p4 M = some (v, M') → oEv X d J_X12_soon 67 [some (.ref 59), some (.int p1), none, some (.int p3), some (.int p4), none, none] [] K M (some (.int v)) K M') (hr78 : ∀ (p1 : Int32) (p3 : Int32) (p4 : Int32) (p5 : Int32) (M : oM) (v : Int32) (M' : oM) , r78 p1 p3 p4 p5 M = some (v, M') → oEv X d J_X12_soon 78 [some (.ref 59), some (.int p1), none, some (.int p3), some (.int p4), some (.int p5), none] [] K M (some (.int v)) K M') (h : f_X12_soon_172 N K r67 r78 p1 p3 p4 p5 p6 M = some (v, M')) : oEv X d J_X12_soon 172 [some (.ref 59), some (.int p1), none, some (.int p3), some (.int p4), some (.int p5), some (.int p6)] [] K M (some (.int v)) K M' := by
  unfold f_X12_soon_172 at h
  refine oe_aload_n (pc := 172) d_X12_soon_172 rfl ?_
  refine oe_getr (pc := 173) d_X12_soon_173 fl_X12_110 ock12 (k := 54) (b := 93) (Nat.le_of_ble_eq_true rfl) (by decide) (oLt hK (a := 59) (Nat.le_of_ble_eq_true rfl)) (oSho hK (a := 59) (Nat.le_of_ble_eq_true rfl) rfl) (oRfK hK rfl) ?_
  refine oe_aload_n (pc := 176) d_X12_soon_176 rfl ?_
  refine oe_getr (pc := 177) d_X12_soon_177 fl_X12_25 ock12 (k := 9) (b := 65) (Nat.le_of_ble_eq_true rfl) (by decide) (oLt hK (a := 59) (Nat.le_of_ble_eq_true rfl)) (oSho hK (a := 59) (Nat.le_of_ble_eq_true rfl) rfl) (oRfK hK rfl) ?_
  refine oe_iload (pc := 180) d_X12_soon_180 rfl ?_
  obtain ⟨i24, h⟩ := oIx_some h
  refine oe_iald (pc := 182) d_X12_soon_182 (oLt hK (a := 65) (Nat.le_of_ble_eq_true rfl)) (oSha hK (a := 65) (Nat.le_of_ble_eq_true rfl) rfl) i24 ?_
  obtain ⟨i25, h⟩ := oIx_some h
  refine oe_iald (pc := 183) d_X12_soon_183 (oLt hK (a := 93) (Nat.le_of_ble_eq_true rfl)) (oSha hK (a := 93) (Nat.le_of_ble_eq_true rfl) rfl) i25 ?_
  refine oe_iload (pc := 184) d_X12_soon_184 rfl ?_
  refine oe_iadd (pc := 186) d_X12_soon_186 ?_
  refine oe_aload_n (pc := 187) d_X12_soon_187 rfl ?_
  refine oe_getr (pc := 188) d_X12_soon_188 fl_X12_110 ock12 (k := 54) (b := 93) (Nat.le_of_ble_eq_true rfl) (by decide) (oLt hK (a := 59) (Nat.le_of_ble_eq_true rfl)) (oSho hK (a := 59) (Nat.le_of_ble_eq_true rfl) rfl) (oRfK hK rfl) ?_
  refine oe_aload_n (pc := 191) d_X12_soon_191 rfl ?_
  refine oe_getr (pc := 192) d_X12_soon_192 fl_X12_22 ock12 (k := 8) (b := 64) (Nat.le_of_ble_eq_true rfl) (by decide) (oLt hK (a := 59) (Nat.le_of_ble_eq_true rfl)) (oSho hK (a := 59) (Nat.le_of_ble_eq_true rfl) rfl) (oRfK hK rfl) ?_
  refine oe_iload (pc := 195) d_X12_soon_195 rfl ?_
  obtain ⟨i26, h⟩ := oIx_some h
  refine oe_iald (pc := 197) d_X12_soon_197 (oLt hK (a := 64) (Nat.le_of_ble_eq_true rfl)) (oSha hK (a := 64) (Nat.le_of_ble_eq_true rfl) rfl) i26 ?_
  obtain ⟨i27, h⟩ := oIx_some h
  refine oe_iald (pc := 198) d_X12_soon_198 (oLt hK (a := 93) (Nat.le_of_ble_eq_true rfl)) (oSha hK (a := 93) (Nat.le_of_ble_eq_true rfl) rfl) i27 ?_
  refine oe_icmp_ge (pc := 199) (tgt := 232) d_X12_soon_199 (by decide) (fun c28 => ?_) (fun c28 => ?_)
  · replace h := (if_pos c28).symm.trans h
    refine oEv.fg [true, true, false, true, true, true, false] ?_
    exact v_X12_soon_232 hd hK  hr67 hr78 h
  · replace h := (if_neg c28).symm.trans h
    refine oe_aload_n (pc := 202) d_X12_soon_202 rfl ?_
    refine oe_getr (pc := 203) d_X12_soon_203 fl_X12_110 ock12 (k := 54) (b := 93) (Nat.le_of_ble_eq_true rfl) (by decide) (oLt hK (a := 59) (Nat.le_of_ble_eq_true rfl)) (oSho hK (a := 59) (Nat.le_of_ble_eq_true rfl) rfl) (oRfK hK rfl) ?_
    refine oe_aload_n (pc := 206) d_X12_soon_206 rfl ?_
    refine oe_getr (pc := 207) d_X12_soon_207 fl_X12_22 ock12 (k := 8) (b := 64) (Nat.le_of_ble_eq_true rfl) (by decide) (oLt hK (a := 59) (Nat.le_of_ble_eq_true rfl)) (oSho hK (a := 59) (Nat.le_of_ble_eq_true rfl) rfl) (oRfK hK rfl) ?_
    refine oe_iload (pc := 210) d_X12_soon_210 rfl ?_
    obtain ⟨i29, h⟩ := oIx_some h
    refine oe_iald (pc := 212) d_X12_soon_212 (oLt hK (a := 64) (Nat.le_of_ble_eq_true rfl)) (oSha hK (a := 64) (Nat.le_of_ble_eq_true rfl) rfl) i29 ?_
    refine oe_aload_n (pc := 213) d_X12_soon_213 rfl ?_
    refine oe_getr (pc := 214) d_X12_soon_214 fl_X12_110 ock12 (k := 54) (b := 93) (Nat.le_of_ble_eq_true rfl) (by decide) (oLt hK (a := 59) (Nat.le_of_ble_eq_true rfl)) (oSho hK (a := 59) (Nat.le_of_ble_eq_true rfl) rfl) (oRfK hK rfl) ?_
    refine oe_aload_n (pc := 217) d_X12_soon_217 rfl ?_
    refine oe_getr (pc := 218) d_X12_soon_218 fl_X12_25 ock12 (k := 9) (b := 65) (Nat.le_of_ble_eq_true rfl) (by decide) (oLt hK (a := 59) (Nat.le_of_ble_eq_true rfl)) (oSho hK (a := 59) (Nat.le_of_ble_eq_true rfl) rfl) (oRfK hK rfl) ?_
    refine oe_iload (pc := 221) d_X12_soon_221 rfl ?_
    obtain ⟨i30, h⟩ := oIx_some h
    refine oe_iald (pc := 223) d_X12_soon_223 (oLt hK (a := 65) (Nat.le_of_ble_eq_true rfl)) (oSha hK (a := 65) (Nat.le_of_ble_eq_true rfl) rfl) i30 ?_
    obtain ⟨i31, h⟩ := oIx_some h
    refine oe_iald (pc := 224) d_X12_soon_224 (oLt hK (a := 93) (Nat.le_of_ble_eq_true rfl)) (oSha hK (a := 93) (Nat.le_of_ble_eq_true rfl) rfl) i31 ?_
    refine oe_iload (pc := 225) d_X12_soon_225 rfl ?_
    refine oe_iadd (pc := 227) d_X12_soon_227 ?_
    obtain ⟨i32, h⟩ := oIx_some h
    refine oe_iast (pc := 228) d_X12_soon_228 (oLt hK (a := 93) (Nat.le_of_ble_eq_true rfl)) (oSha hK (a := 93) (Nat.le_of_ble_eq_true rfl) rfl) i32 ?_
    refine oe_iconst (pc := 229) (v := 1) d_X12_soon_229 rfl ?_
    refine oe_istore (pc := 230) (L2 := [_, _, _, _, _, _, _]) d_X12_soon_230 rfl (Nat.le_of_ble_eq_true rfl) rfl ?_
    refine oEv.fg [true, true, false, true, true, true, false] ?_
    exact v_X12_soon_232 hd hK  hr67 hr78 h
def f_X12_soon_78 (N : Nat) (K : oK) (r67 : (Int32 → Int32 → Int32 → oM → Option (Int32 × oM))) : Nat → Int32 → Int32 → Int32 → Int32 → oM → Option (Int32 × oM)
  | 0, _, _, _, _, _ => none
  | n + 1, p1, p3, p4, p5, M => (fun r78 => (if (M.1 59 7) ≤ p5 then (r67 p1 p3 p4 M) else oIx (p5) 20 (oIx (p1) 6 (oIx (p1) 6 (oNz ((M.1 68 (p1 : Int32).toNatClampNeg)) (oIx (p5) 20 (oIx ((M.1 64 (p5 : Int32).toNatClampNeg)) 12 (oIx (p5) 20 (oIx ((M.1 65 (p5 : Int32).toNatClampNeg)) 12 ((if (M.1 93 ((M.1 65 (p5 : Int32).toNatClampNeg) : Int32).toNatClampNeg) ≤ ((M.1 93 ((M.1 64 (p5 : Int32).toNatClampNeg) : Int32).toNatClampNeg) + ((((M.1 66 (p5 : Int32).toNatClampNeg) + (M.1 68 (p1 : Int32).toNatClampNeg)) - 1) / (M.1 68 (p1 : Int32).toNatClampNeg))) then (f_X12_soon_172 N K r67 r78 p1 p3 p4 p5 ((((M.1 66 (p5 : Int32).toNatClampNeg) + (M.1 68 (p1 : Int32).toNatClampNeg)) - 1) / (M.1 68 (p1 : Int32).toNatClampNeg)) M) else oIx (p5) 20 (oIx (p5) 20 (oIx ((M.1 64 (p5 : Int32).toNatClampNeg)) 12 (oIx ((M.1 65 (p5 : Int32).toNatClampNeg)) 12 ((f_X12_soon_172 N K r67 r78 p1 p3 1 p5 ((((M.1 66 (p5 : Int32).toNatClampNeg) + (M.1 68 (p1 : Int32).toNatClampNeg)) - 1) / (M.1 68 (p1 : Int32).toNatClampNeg)) (oUp M 93 ((M.1 65 (p5 : Int32).toNatClampNeg) : Int32).toNatClampNeg ((M.1 93 ((M.1 64 (p5 : Int32).toNatClampNeg) : Int32).toNatClampNeg) + ((((M.1 66 (p5 : Int32).toNatClampNeg) + (M.1 68 (p1 : Int32).toNatClampNeg)) - 1) / (M.1 68 (p1 : Int32).toNatClampNeg)))))))))))))))))))) (f_X12_soon_78 N K r67 n)
set_option maxRecDepth 20000 in
theorem v_X12_soon_78_L {X : oX} {d N : Nat} {K : oK} {r67 : (Int32 → Int32 → Int32 → oM → Option (Int32 × oM))} (hd : 3 ≤ d) (hK : oSR K) (hr67 : ∀ (p1 : Int32) (p3 : Int32) (p4 : Int32) (M : oM) (v : Int32) (M' : oM) , r67 p1 p3 p4 M = some (v, M') → oEv X d J_X12_soon 67 [some (.ref 59), some (.int p1), none, some (.int p3), some (.int p4), none, none] [] K M (some (.int v)) K M') : ∀ (n : Nat) (p1 : Int32) (p3 : Int32) (p4 : Int32) (p5 : Int32) (M : oM) (v : Int32) (M' : oM)  , f_X12_soon_78 N K r67 n p1 p3 p4 p5 M = some (v, M') → oEv X d J_X12_soon 78 [some (.ref 59), some (.int p1), none, some (.int p3), some (.int p4), some (.int p5), none] [] K M (some (.int v)) K M' := by
  intro n
  induction n with
  | zero =>
    intro p1 p3 p4 p5 M v M'   h
    cases h
  | succ n hr78 =>
    intro p1 p3 p4 p5 M v M'   h
    refine oe_iload (pc := 78) d_X12_soon_78 rfl ?_
    refine oe_aload_n (pc := 80) d_X12_soon_80 rfl ?_
    refine oe_getf (pc := 81) d_X12_soon_81 fl_X12_149 ock12 (k := 7) (Nat.le_of_ble_eq_true rfl) rfl (oLt hK (a := 59) (Nat.le_of_ble_eq_true rfl)) (oSho hK (a := 59) (Nat.le_of_ble_eq_true rfl) rfl) ?_
    refine oe_icmp_ge (pc := 84) (tgt := 238) d_X12_soon_84 (by decide) (fun c15 => ?_) (fun c15 => ?_)
    · replace h := (if_pos c15).symm.trans h
      refine oe_goto (pc := 238) (tgt := 67) d_X12_soon_238 (by decide) ?_
      refine oEv.fg [true, true, false, true, true, false, false] ?_
      exact hr67 _ _ _ _ _ _ h
    · replace h := (if_neg c15).symm.trans h
      refine oe_aload_n (pc := 87) d_X12_soon_87 rfl ?_
      refine oe_getr (pc := 88) d_X12_soon_88 fl_X12_28 ock12 (k := 10) (b := 66) (Nat.le_of_ble_eq_true rfl) (by decide) (oLt hK (a := 59) (Nat.le_of_ble_eq_true rfl)) (oSho hK (a := 59) (Nat.le_of_ble_eq_true rfl) rfl) (oRfK hK rfl) ?_
      refine oe_iload (pc := 91) d_X12_soon_91 rfl ?_
      obtain ⟨i16, h⟩ := oIx_some h
      refine oe_iald (pc := 93) d_X12_soon_93 (oLt hK (a := 66) (Nat.le_of_ble_eq_true rfl)) (oSha hK (a := 66) (Nat.le_of_ble_eq_true rfl) rfl) i16 ?_
      refine oe_aload_n (pc := 94) d_X12_soon_94 rfl ?_
      refine oe_getr (pc := 95) d_X12_soon_95 fl_X12_34 ock12 (k := 13) (b := 68) (Nat.le_of_ble_eq_true rfl) (by decide) (oLt hK (a := 59) (Nat.le_of_ble_eq_true rfl)) (oSho hK (a := 59) (Nat.le_of_ble_eq_true rfl) rfl) (oRfK hK rfl) ?_
      refine oe_iload_n (pc := 98) d_X12_soon_98 rfl ?_
      obtain ⟨i17, h⟩ := oIx_some h
      refine oe_iald (pc := 99) d_X12_soon_99 (oLt hK (a := 68) (Nat.le_of_ble_eq_true rfl)) (oSha hK (a := 68) (Nat.le_of_ble_eq_true rfl) rfl) i17 ?_
      refine oe_iadd (pc := 100) d_X12_soon_100 ?_
      refine oe_iconst (pc := 101) (v := 1) d_X12_soon_101 rfl ?_
      refine oe_isub (pc := 102) d_X12_soon_102 ?_
      refine oe_aload_n (pc := 103) d_X12_soon_103 rfl ?_
      refine oe_getr (pc := 104) d_X12_soon_104 fl_X12_34 ock12 (k := 13) (b := 68) (Nat.le_of_ble_eq_true rfl) (by decide) (oLt hK (a := 59) (Nat.le_of_ble_eq_true rfl)) (oSho hK (a := 59) (Nat.le_of_ble_eq_true rfl) rfl) (oRfK hK rfl) ?_
      refine oe_iload_n (pc := 107) d_X12_soon_107 rfl ?_
      obtain ⟨i18, h⟩ := oIx_some h
      refine oe_iald (pc := 108) d_X12_soon_108 (oLt hK (a := 68) (Nat.le_of_ble_eq_true rfl)) (oSha hK (a := 68) (Nat.le_of_ble_eq_true rfl) rfl) i18 ?_
      obtain ⟨z109, h⟩ := oNz_some h
      refine oe_idiv (pc := 109) d_X12_soon_109 z109 ?_
      refine oe_istore (pc := 110) (L2 := [_, _, _, _, _, _, _]) d_X12_soon_110 rfl (Nat.le_of_ble_eq_true rfl) rfl ?_
      refine oe_aload_n (pc := 112) d_X12_soon_112 rfl ?_
      refine oe_getr (pc := 113) d_X12_soon_113 fl_X12_110 ock12 (k := 54) (b := 93) (Nat.le_of_ble_eq_true rfl) (by decide) (oLt hK (a := 59) (Nat.le_of_ble_eq_true rfl)) (oSho hK (a := 59) (Nat.le_of_ble_eq_true rfl) rfl) (oRfK hK rfl) ?_
      refine oe_aload_n (pc := 116) d_X12_soon_116 rfl ?_
      refine oe_getr (pc := 117) d_X12_soon_117 fl_X12_22 ock12 (k := 8) (b := 64) (Nat.le_of_ble_eq_true rfl) (by decide) (oLt hK (a := 59) (Nat.le_of_ble_eq_true rfl)) (oSho hK (a := 59) (Nat.le_of_ble_eq_true rfl) rfl) (oRfK hK rfl) ?_
      refine oe_iload (pc := 120) d_X12_soon_120 rfl ?_
      obtain ⟨i19, h⟩ := oIx_some h
      refine oe_iald (pc := 122) d_X12_soon_122 (oLt hK (a := 64) (Nat.le_of_ble_eq_true rfl)) (oSha hK (a := 64) (Nat.le_of_ble_eq_true rfl) rfl) i19 ?_
      obtain ⟨i20, h⟩ := oIx_some h
      refine oe_iald (pc := 123) d_X12_soon_123 (oLt hK (a := 93) (Nat.le_of_ble_eq_true rfl)) (oSha hK (a := 93) (Nat.le_of_ble_eq_true rfl) rfl) i20 ?_
      refine oe_iload (pc := 124) d_X12_soon_124 rfl ?_
      refine oe_iadd (pc := 126) d_X12_soon_126 ?_
      refine oe_aload_n (pc := 127) d_X12_soon_127 rfl ?_
      refine oe_getr (pc := 128) d_X12_soon_128 fl_X12_110 ock12 (k := 54) (b := 93) (Nat.le_of_ble_eq_true rfl) (by decide) (oLt hK (a := 59) (Nat.le_of_ble_eq_true rfl)) (oSho hK (a := 59) (Nat.le_of_ble_eq_true rfl) rfl) (oRfK hK rfl) ?_
      refine oe_aload_n (pc := 131) d_X12_soon_131 rfl ?_
      refine oe_getr (pc := 132) d_X12_soon_132 fl_X12_25 ock12 (k := 9) (b := 65) (Nat.le_of_ble_eq_true rfl) (by decide) (oLt hK (a := 59) (Nat.le_of_ble_eq_true rfl)) (oSho hK (a := 59) (Nat.le_of_ble_eq_true rfl) rfl) (oRfK hK rfl) ?_
      refine oe_iload (pc := 135) d_X12_soon_135 rfl ?_
      obtain ⟨i21, h⟩ := oIx_some h
      refine oe_iald (pc := 137) d_X12_soon_137 (oLt hK (a := 65) (Nat.le_of_ble_eq_true rfl)) (oSha hK (a := 65) (Nat.le_of_ble_eq_true rfl) rfl) i21 ?_
      obtain ⟨i22, h⟩ := oIx_some h
      refine oe_iald (pc := 138) d_X12_soon_138 (oLt hK (a := 93) (Nat.le_of_ble_eq_true rfl)) (oSha hK (a := 93) (Nat.le_of_ble_eq_true rfl) rfl) i22 ?_
      refine oe_icmp_ge (pc := 139) (tgt := 172) d_X12_soon_139 (by decide) (fun c23 => ?_) (fun c23 => ?_)
      · replace h := (if_pos c23).symm.trans h
        exact v_X12_soon_172 hd hK  hr67 hr78 h
      · replace h := (if_neg c23).symm.trans h
        refine oe_aload_n (pc := 142) d_X12_soon_142 rfl ?_
        refine oe_getr (pc := 143) d_X12_soon_143 fl_X12_110 ock12 (k := 54) (b := 93) (Nat.le_of_ble_eq_true rfl) (by decide) (oLt hK (a := 59) (Nat.le_of_ble_eq_true rfl)) (oSho hK (a := 59) (Nat.le_of_ble_eq_true rfl) rfl) (oRfK hK rfl) ?_
        refine oe_aload_n (pc := 146) d_X12_soon_146 rfl ?_
        refine oe_getr (pc := 147) d_X12_soon_147 fl_X12_25 ock12 (k := 9) (b := 65) (Nat.le_of_ble_eq_true rfl) (by decide) (oLt hK (a := 59) (Nat.le_of_ble_eq_true rfl)) (oSho hK (a := 59) (Nat.le_of_ble_eq_true rfl) rfl) (oRfK hK rfl) ?_
        refine oe_iload (pc := 150) d_X12_soon_150 rfl ?_
        obtain ⟨i33, h⟩ := oIx_some h
        refine oe_iald (pc := 152) d_X12_soon_152 (oLt hK (a := 65) (Nat.le_of_ble_eq_true rfl)) (oSha hK (a := 65) (Nat.le_of_ble_eq_true rfl) rfl) i33 ?_
        refine oe_aload_n (pc := 153) d_X12_soon_153 rfl ?_
        refine oe_getr (pc := 154) d_X12_soon_154 fl_X12_110 ock12 (k := 54) (b := 93) (Nat.le_of_ble_eq_true rfl) (by decide) (oLt hK (a := 59) (Nat.le_of_ble_eq_true rfl)) (oSho hK (a := 59) (Nat.le_of_ble_eq_true rfl) rfl) (oRfK hK rfl) ?_
        refine oe_aload_n (pc := 157) d_X12_soon_157 rfl ?_
        refine oe_getr (pc := 158) d_X12_soon_158 fl_X12_22 ock12 (k := 8) (b := 64) (Nat.le_of_ble_eq_true rfl) (by decide) (oLt hK (a := 59) (Nat.le_of_ble_eq_true rfl)) (oSho hK (a := 59) (Nat.le_of_ble_eq_true rfl) rfl) (oRfK hK rfl) ?_
        refine oe_iload (pc := 161) d_X12_soon_161 rfl ?_
        obtain ⟨i34, h⟩ := oIx_some h
        refine oe_iald (pc := 163) d_X12_soon_163 (oLt hK (a := 64) (Nat.le_of_ble_eq_true rfl)) (oSha hK (a := 64) (Nat.le_of_ble_eq_true rfl) rfl) i34 ?_
        obtain ⟨i35, h⟩ := oIx_some h
        refine oe_iald (pc := 164) d_X12_soon_164 (oLt hK (a := 93) (Nat.le_of_ble_eq_true rfl)) (oSha hK (a := 93) (Nat.le_of_ble_eq_true rfl) rfl) i35 ?_
        refine oe_iload (pc := 165) d_X12_soon_165 rfl ?_
        refine oe_iadd (pc := 167) d_X12_soon_167 ?_
        obtain ⟨i36, h⟩ := oIx_some h
        refine oe_iast (pc := 168) d_X12_soon_168 (oLt hK (a := 93) (Nat.le_of_ble_eq_true rfl)) (oSha hK (a := 93) (Nat.le_of_ble_eq_true rfl) rfl) i36 ?_
        refine oe_iconst (pc := 169) (v := 1) d_X12_soon_169 rfl ?_
        refine oe_istore (pc := 170) (L2 := [_, _, _, _, _, _, _]) d_X12_soon_170 rfl (Nat.le_of_ble_eq_true rfl) rfl ?_
        exact v_X12_soon_172 hd hK  hr67 hr78 h
theorem v_X12_soon_78 {X : oX} {d N : Nat} {K : oK} {r67 : (Int32 → Int32 → Int32 → oM → Option (Int32 × oM))} {p1 : Int32} {p3 : Int32} {p4 : Int32} {p5 : Int32} {M : oM} {v : Int32} {M' : oM}  (hd : 3 ≤ d) (hK : oSR K)  (hr67 : ∀ (p1 : Int32) (p3 : Int32) (p4 : Int32) (M : oM) (v : Int32) (M' : oM) , r67 p1 p3 p4 M = some (v, M') → oEv X d J_X12_soon 67 [some (.ref 59), some (.int p1), none, some (.int p3), some (.int p4), none, none] [] K M (some (.int v)) K M') (h : f_X12_soon_78 N K r67 N p1 p3 p4 p5 M = some (v, M')) : oEv X d J_X12_soon 78 [some (.ref 59), some (.int p1), none, some (.int p3), some (.int p4), some (.int p5), none] [] K M (some (.int v)) K M' := v_X12_soon_78_L hd hK hr67 N p1 p3 p4 p5 M v M'   h
def f_X12_soon_67 (N : Nat) (K : oK)  : Nat → Int32 → Int32 → Int32 → oM → Option (Int32 × oM)
  | 0, _, _, _, _ => none
  | n + 1, p1, p3, p4, M => (fun r67 => (if p4 = 0 then oIx (p3) 12 ((if (M.1 93 (p3 : Int32).toNatClampNeg) < 1000000 then oIx (p3) 12 (some ((M.1 93 (p3 : Int32).toNatClampNeg), M)) else some ((-2), M))) else (f_X12_soon_78 N K r67 N p1 p3 0 0 M))) (f_X12_soon_67 N K  n)
set_option maxRecDepth 20000 in
theorem v_X12_soon_67_L {X : oX} {d N : Nat} {K : oK}  (hd : 3 ≤ d) (hK : oSR K)  : ∀ (n : Nat) (p1 : Int32) (p3 : Int32) (p4 : Int32) (M : oM) (v : Int32) (M' : oM)  , f_X12_soon_67 N K  n p1 p3 p4 M = some (v, M') → oEv X d J_X12_soon 67 [some (.ref 59), some (.int p1), none, some (.int p3), some (.int p4), none, none] [] K M (some (.int v)) K M' := by
  intro n
  induction n with
  | zero =>
    intro p1 p3 p4 M v M'   h
    cases h
  | succ n hr67 =>
    intro p1 p3 p4 M v M'   h
    refine oe_iload (pc := 67) d_X12_soon_67 rfl ?_
    refine oe_if_eq (pc := 69) (tgt := 241) d_X12_soon_69 (by decide) (fun c11 => ?_) (fun c11 => ?_)
    · replace h := (if_pos c11).symm.trans h
      refine oe_aload_n (pc := 241) d_X12_soon_241 rfl ?_
      refine oe_getr (pc := 242) d_X12_soon_242 fl_X12_110 ock12 (k := 54) (b := 93) (Nat.le_of_ble_eq_true rfl) (by decide) (oLt hK (a := 59) (Nat.le_of_ble_eq_true rfl)) (oSho hK (a := 59) (Nat.le_of_ble_eq_true rfl) rfl) (oRfK hK rfl) ?_
      refine oe_iload_n (pc := 245) d_X12_soon_245 rfl ?_
      obtain ⟨i12, h⟩ := oIx_some h
      refine oe_iald (pc := 246) d_X12_soon_246 (oLt hK (a := 93) (Nat.le_of_ble_eq_true rfl)) (oSha hK (a := 93) (Nat.le_of_ble_eq_true rfl) rfl) i12 ?_
      refine oe_ldcw (pc := 247) d_X12_soon_247 co_X12_346 ?_
      refine oe_icmp_lt (pc := 250) (tgt := 258) d_X12_soon_250 (by decide) (fun c13 => ?_) (fun c13 => ?_)
      · replace h := (if_pos c13).symm.trans h
        refine oe_aload_n (pc := 258) d_X12_soon_258 rfl ?_
        refine oe_getr (pc := 259) d_X12_soon_259 fl_X12_110 ock12 (k := 54) (b := 93) (Nat.le_of_ble_eq_true rfl) (by decide) (oLt hK (a := 59) (Nat.le_of_ble_eq_true rfl)) (oSho hK (a := 59) (Nat.le_of_ble_eq_true rfl) rfl) (oRfK hK rfl) ?_
        refine oe_iload_n (pc := 262) d_X12_soon_262 rfl ?_
        obtain ⟨i14, h⟩ := oIx_some h
        refine oe_iald (pc := 263) d_X12_soon_263 (oLt hK (a := 93) (Nat.le_of_ble_eq_true rfl)) (oSha hK (a := 93) (Nat.le_of_ble_eq_true rfl) rfl) i14 ?_
        obtain ⟨rfl, rfl⟩ := oRes h
        exact oe_iret (pc := 264) d_X12_soon_264 ⟨_, rfl, rfl⟩
      · replace h := (if_neg c13).symm.trans h
        refine oe_bipush (pc := 253) (v := (-2)) d_X12_soon_253 rfl ?_
        refine oe_goto (pc := 255) (tgt := 264) d_X12_soon_255 (by decide) ?_
        obtain ⟨rfl, rfl⟩ := oRes h
        exact oe_iret (pc := 264) d_X12_soon_264 ⟨_, rfl, rfl⟩
    · replace h := (if_neg c11).symm.trans h
      refine oe_iconst (pc := 72) (v := 0) d_X12_soon_72 rfl ?_
      refine oe_istore (pc := 73) (L2 := [_, _, _, _, _, _, _]) d_X12_soon_73 rfl (Nat.le_of_ble_eq_true rfl) rfl ?_
      refine oe_iconst (pc := 75) (v := 0) d_X12_soon_75 rfl ?_
      refine oe_istore (pc := 76) (L2 := [_, _, _, _, _, _, _]) d_X12_soon_76 rfl (Nat.le_of_ble_eq_true rfl) rfl ?_
      exact v_X12_soon_78 hd hK  hr67 h
theorem v_X12_soon_67 {X : oX} {d N : Nat} {K : oK}  {p1 : Int32} {p3 : Int32} {p4 : Int32} {M : oM} {v : Int32} {M' : oM}  (hd : 3 ≤ d) (hK : oSR K)   (h : f_X12_soon_67 N K  N p1 p3 p4 M = some (v, M')) : oEv X d J_X12_soon 67 [some (.ref 59), some (.int p1), none, some (.int p3), some (.int p4), none, none] [] K M (some (.int v)) K M' := v_X12_soon_67_L hd hK  N p1 p3 p4 M v M'   h
def f_X12_soon_57 (N : Nat) (K : oK) (r29 : (Int32 → Int32 → Int32 → Int32 → oM → Option (Int32 × oM))) (p1 : Int32) (p2 : Int32) (p3 : Int32) (p4 : Int32) (s0 : Int32) (s1 : Int32) (M : oM) : Option (Int32 × oM) :=
  oIx (s1) 12 ((r29 p1 p2 p3 (p4 + 1) (oUp M 93 (s1 : Int32).toNatClampNeg s0)))
set_option maxRecDepth 20000 in
theorem v_X12_soon_57 {X : oX} {d N : Nat} {K : oK} {r29 : (Int32 → Int32 → Int32 → Int32 → oM → Option (Int32 × oM))} {p1 : Int32} {p2 : Int32} {p3 : Int32} {p4 : Int32} {s0 : Int32} {s1 : Int32} {M : oM} {v : Int32} {M' : oM}  (hd : 3 ≤ d) (hK : oSR K)  (hr29 : ∀ (p1 : Int32) (p2 : Int32) (p3 : Int32) (p4 : Int32) (M : oM) (v : Int32) (M' : oM) , r29 p1 p2 p3 p4 M = some (v, M') → oEv X d J_X12_soon 29 [some (.ref 59), some (.int p1), some (.int p2), some (.int p3), some (.int p4), none, none] [] K M (some (.int v)) K M') (h : f_X12_soon_57 N K r29 p1 p2 p3 p4 s0 s1 M = some (v, M')) : oEv X d J_X12_soon 57 [some (.ref 59), some (.int p1), some (.int p2), some (.int p3), some (.int p4), none, none] [(.int s0), (.int s1), (.ref 93)] K M (some (.int v)) K M' := by
  unfold f_X12_soon_57 at h
  obtain ⟨i38, h⟩ := oIx_some h
  refine oe_iast (pc := 57) d_X12_soon_57 (oLt hK (a := 93) (Nat.le_of_ble_eq_true rfl)) (oSha hK (a := 93) (Nat.le_of_ble_eq_true rfl) rfl) i38 ?_
  refine oe_iinc (pc := 58) (v := (p4 + 1)) (L2 := [_, _, _, _, _, _, _]) d_X12_soon_58 rfl rfl rfl (Nat.le_of_ble_eq_true rfl) rfl ?_
  refine oe_goto (pc := 61) (tgt := 29) d_X12_soon_61 (by decide) ?_
  exact hr29 _ _ _ _ _ _ _ h
def f_X12_soon_29 (N : Nat) (K : oK)  : Nat → Int32 → Int32 → Int32 → Int32 → oM → Option (Int32 × oM)
  | 0, _, _, _, _, _ => none
  | n + 1, p1, p2, p3, p4, M => (fun r29 => (if (M.1 59 6) ≤ p4 then (f_X12_soon_67 N K  N p1 p3 1 M) else (if p4 = p2 then (f_X12_soon_57 N K r29 p1 p2 p3 p4 0 p4 M) else (f_X12_soon_57 N K r29 p1 p2 p3 p4 1000000 p4 M)))) (f_X12_soon_29 N K  n)
set_option maxRecDepth 20000 in
theorem v_X12_soon_29_L {X : oX} {d N : Nat} {K : oK}  (hd : 3 ≤ d) (hK : oSR K)  : ∀ (n : Nat) (p1 : Int32) (p2 : Int32) (p3 : Int32) (p4 : Int32) (M : oM) (v : Int32) (M' : oM)  , f_X12_soon_29 N K  n p1 p2 p3 p4 M = some (v, M') → oEv X d J_X12_soon 29 [some (.ref 59), some (.int p1), some (.int p2), some (.int p3), some (.int p4), none, none] [] K M (some (.int v)) K M' := by
  intro n
  induction n with
  | zero =>
    intro p1 p2 p3 p4 M v M'   h
    cases h
  | succ n hr29 =>
    intro p1 p2 p3 p4 M v M'   h
    refine oe_iload (pc := 29) d_X12_soon_29 rfl ?_
    refine oe_aload_n (pc := 31) d_X12_soon_31 rfl ?_
    refine oe_getf (pc := 32) d_X12_soon_32 fl_X12_142 ock12 (k := 6) (Nat.le_of_ble_eq_true rfl) rfl (oLt hK (a := 59) (Nat.le_of_ble_eq_true rfl)) (oSho hK (a := 59) (Nat.le_of_ble_eq_true rfl) rfl) ?_
    refine oe_icmp_ge (pc := 35) (tgt := 64) d_X12_soon_35 (by decide) (fun c10 => ?_) (fun c10 => ?_)
    · replace h := (if_pos c10).symm.trans h
      refine oe_iconst (pc := 64) (v := 1) d_X12_soon_64 rfl ?_
      refine oe_istore (pc := 65) (L2 := [_, _, _, _, _, _, _]) d_X12_soon_65 rfl (Nat.le_of_ble_eq_true rfl) rfl ?_
      refine oEv.fg [true, true, false, true, true, false, false] ?_
      exact v_X12_soon_67 hd hK   h
    · replace h := (if_neg c10).symm.trans h
      refine oe_aload_n (pc := 38) d_X12_soon_38 rfl ?_
      refine oe_getr (pc := 39) d_X12_soon_39 fl_X12_110 ock12 (k := 54) (b := 93) (Nat.le_of_ble_eq_true rfl) (by decide) (oLt hK (a := 59) (Nat.le_of_ble_eq_true rfl)) (oSho hK (a := 59) (Nat.le_of_ble_eq_true rfl) rfl) (oRfK hK rfl) ?_
      refine oe_iload (pc := 42) d_X12_soon_42 rfl ?_
      refine oe_iload (pc := 44) d_X12_soon_44 rfl ?_
      refine oe_iload_n (pc := 46) d_X12_soon_46 rfl ?_
      refine oe_icmp_ne (pc := 47) (tgt := 54) d_X12_soon_47 (by decide) (fun c37 => ?_) (fun c37 => ?_)
      · replace h := (if_neg c37).symm.trans h
        refine oe_ldcw (pc := 54) d_X12_soon_54 co_X12_346 ?_
        exact v_X12_soon_57 hd hK  hr29 h
      · replace h := (if_pos c37).symm.trans h
        refine oe_iconst (pc := 50) (v := 0) d_X12_soon_50 rfl ?_
        refine oe_goto (pc := 51) (tgt := 57) d_X12_soon_51 (by decide) ?_
        exact v_X12_soon_57 hd hK  hr29 h
theorem v_X12_soon_29 {X : oX} {d N : Nat} {K : oK}  {p1 : Int32} {p2 : Int32} {p3 : Int32} {p4 : Int32} {M : oM} {v : Int32} {M' : oM}  (hd : 3 ≤ d) (hK : oSR K)   (h : f_X12_soon_29 N K  N p1 p2 p3 p4 M = some (v, M')) : oEv X d J_X12_soon 29 [some (.ref 59), some (.int p1), some (.int p2), some (.int p3), some (.int p4), none, none] [] K M (some (.int v)) K M' := v_X12_soon_29_L hd hK  N p1 p2 p3 p4 M v M'   h
def f_X12_soon (N : Nat) (K : oK) (p1 : Int32) (p2 : Int32) (p3 : Int32) (M : oM) : Option (Int32 × oM) :=
  oB2 (f_X12_isEngine N K p1 M) (fun v1 M2 => cond v1 (oB2 (f_X12_isPoint N K p2 M2) (fun v4 M5 => cond v4 (oB2 (f_X12_isPoint N K p3 M5) (fun v7 M8 => cond v7 ((f_X12_soon_29 N K  N p1 p2 p3 0 M8)) (some ((-1), M8)))) (some ((-1), M5)))) (some ((-1), M2)))
set_option maxRecDepth 20000 in
theorem v_X12_soon {X : oX} {N : Nat} {K : oK} {p1 : Int32} {p2 : Int32} {p3 : Int32} {M : oM} {v : Int32} {M' : oM} (hK : oSR K)  (h : f_X12_soon N K p1 p2 p3 M = some (v, M')) : oMet X 3 J_X12_soon [(.ref 59), (.int p1), (.int p2), (.int p3)] K M (some (.int v)) K M' := by
  unfold f_X12_soon at h
  refine oMet_of (L := [some (.ref 59), some (.int p1), some (.int p2), some (.int p3), none, none, none]) jJ_X12_soon.1 rfl (Nat.le_of_ble_eq_true rfl) rfl (Nat.le_refl _) (Nat.le_refl _) ?_
  have hd : 3 ≤ 3 := Nat.le_refl _
  refine oe_aload_n (pc := 0) d_X12_soon_0 rfl ?_
  refine oe_iload_n (pc := 1) d_X12_soon_1 rfl ?_
  obtain ⟨v1, M2, q3, h⟩ := oB2_some h
  cases v1 with
  | true =>
    replace h := oCt h
    refine oe_callV (pc := 2) (ci := 12) d_X12_soon_2 (v_X12_isEngine hK  q3) (by omega) ml_X12_216 jJ_X12_isEngine rfl rfl (oLt hK (a := 59) (Nat.le_of_ble_eq_true rfl)) (oSho hK (a := 59) (Nat.le_of_ble_eq_true rfl) rfl) ock12 rfl (Nat.le_of_ble_eq_true rfl) ⟨Nat.le_refl _, Nat.le_refl _⟩ ⟨Nat.le_refl _, Nat.le_refl _⟩ ?_
    refine oe_if_eq (pc := 5) (tgt := 24) d_X12_soon_5 (by decide) (fun c => absurd c (by decide)) (fun _ => ?_)
    refine oe_aload_n (pc := 8) d_X12_soon_8 rfl ?_
    refine oe_iload_n (pc := 9) d_X12_soon_9 rfl ?_
    obtain ⟨v4, M5, q6, h⟩ := oB2_some h
    cases v4 with
    | true =>
      replace h := oCt h
      refine oe_callV (pc := 10) (ci := 12) d_X12_soon_10 (v_X12_isPoint hK  q6) (by omega) ml_X12_159 jJ_X12_isPoint rfl rfl (oLt hK (a := 59) (Nat.le_of_ble_eq_true rfl)) (oSho hK (a := 59) (Nat.le_of_ble_eq_true rfl) rfl) ock12 rfl (Nat.le_of_ble_eq_true rfl) ⟨Nat.le_refl _, Nat.le_refl _⟩ ⟨Nat.le_refl _, Nat.le_refl _⟩ ?_
      refine oe_if_eq (pc := 13) (tgt := 24) d_X12_soon_13 (by decide) (fun c => absurd c (by decide)) (fun _ => ?_)
      refine oe_aload_n (pc := 16) d_X12_soon_16 rfl ?_
      refine oe_iload_n (pc := 17) d_X12_soon_17 rfl ?_
      obtain ⟨v7, M8, q9, h⟩ := oB2_some h
      cases v7 with
      | true =>
        replace h := oCt h
        refine oe_callV (pc := 18) (ci := 12) d_X12_soon_18 (v_X12_isPoint hK  q9) (by omega) ml_X12_159 jJ_X12_isPoint rfl rfl (oLt hK (a := 59) (Nat.le_of_ble_eq_true rfl)) (oSho hK (a := 59) (Nat.le_of_ble_eq_true rfl) rfl) ock12 rfl (Nat.le_of_ble_eq_true rfl) ⟨Nat.le_refl _, Nat.le_refl _⟩ ⟨Nat.le_refl _, Nat.le_refl _⟩ ?_
        refine oe_if_ne (pc := 21) (tgt := 26) d_X12_soon_21 (by decide) (fun _ => ?_) (fun c => absurd c (by decide))
        refine oe_iconst (pc := 26) (v := 0) d_X12_soon_26 rfl ?_
        refine oe_istore (pc := 27) (L2 := [_, _, _, _, _, _, _]) d_X12_soon_27 rfl (Nat.le_of_ble_eq_true rfl) rfl ?_
        exact v_X12_soon_29 hd hK   h
      | false =>
        replace h := oCf h
        refine oe_callV (pc := 18) (ci := 12) d_X12_soon_18 (v_X12_isPoint hK  q9) (by omega) ml_X12_159 jJ_X12_isPoint rfl rfl (oLt hK (a := 59) (Nat.le_of_ble_eq_true rfl)) (oSho hK (a := 59) (Nat.le_of_ble_eq_true rfl) rfl) ock12 rfl (Nat.le_of_ble_eq_true rfl) ⟨Nat.le_refl _, Nat.le_refl _⟩ ⟨Nat.le_refl _, Nat.le_refl _⟩ ?_
        refine oe_if_ne (pc := 21) (tgt := 26) d_X12_soon_21 (by decide) (fun c => absurd (by decide) c) (fun _ => ?_)
        refine oe_iconst (pc := 24) (v := (-1)) d_X12_soon_24 rfl ?_
        obtain ⟨rfl, rfl⟩ := oRes h
        exact oe_iret (pc := 25) d_X12_soon_25 ⟨_, rfl, rfl⟩
    | false =>
      replace h := oCf h
      refine oe_callV (pc := 10) (ci := 12) d_X12_soon_10 (v_X12_isPoint hK  q6) (by omega) ml_X12_159 jJ_X12_isPoint rfl rfl (oLt hK (a := 59) (Nat.le_of_ble_eq_true rfl)) (oSho hK (a := 59) (Nat.le_of_ble_eq_true rfl) rfl) ock12 rfl (Nat.le_of_ble_eq_true rfl) ⟨Nat.le_refl _, Nat.le_refl _⟩ ⟨Nat.le_refl _, Nat.le_refl _⟩ ?_
      refine oe_if_eq (pc := 13) (tgt := 24) d_X12_soon_13 (by decide) (fun _ => ?_) (fun c => absurd (by decide) c)
      refine oe_iconst (pc := 24) (v := (-1)) d_X12_soon_24 rfl ?_
      obtain ⟨rfl, rfl⟩ := oRes h
      exact oe_iret (pc := 25) d_X12_soon_25 ⟨_, rfl, rfl⟩
  | false =>
    replace h := oCf h
    refine oe_callV (pc := 2) (ci := 12) d_X12_soon_2 (v_X12_isEngine hK  q3) (by omega) ml_X12_216 jJ_X12_isEngine rfl rfl (oLt hK (a := 59) (Nat.le_of_ble_eq_true rfl)) (oSho hK (a := 59) (Nat.le_of_ble_eq_true rfl) rfl) ock12 rfl (Nat.le_of_ble_eq_true rfl) ⟨Nat.le_refl _, Nat.le_refl _⟩ ⟨Nat.le_refl _, Nat.le_refl _⟩ ?_
    refine oe_if_eq (pc := 5) (tgt := 24) d_X12_soon_5 (by decide) (fun _ => ?_) (fun c => absurd (by decide) c)
    refine oe_iconst (pc := 24) (v := (-1)) d_X12_soon_24 rfl ?_
    obtain ⟨rfl, rfl⟩ := oRes h
    exact oe_iret (pc := 25) d_X12_soon_25 ⟨_, rfl, rfl⟩
theorem d_X12_lasts_0 : decode J_X12_lasts.2.1 0 = .ok (.aload_n 0, 1) := by decide +kernel
theorem d_X12_lasts_1 : decode J_X12_lasts.2.1 1 = .ok (.iload_n 1, 1) := by decide +kernel
theorem d_X12_lasts_2 : decode J_X12_lasts.2.1 2 = .ok (.invokevirtual 230, 3) := by decide +kernel
theorem d_X12_lasts_5 : decode J_X12_lasts.2.1 5 = .ok (.ifCond .ne 5, 3) := by decide +kernel
theorem d_X12_lasts_8 : decode J_X12_lasts.2.1 8 = .ok (.iconst (-1), 1) := by decide +kernel
theorem d_X12_lasts_9 : decode J_X12_lasts.2.1 9 = .ok (.ireturn, 1) := by decide +kernel
theorem d_X12_lasts_10 : decode J_X12_lasts.2.1 10 = .ok (.sipush 999, 3) := by decide +kernel
theorem d_X12_lasts_13 : decode J_X12_lasts.2.1 13 = .ok (.istore_n 2, 1) := by decide +kernel
theorem d_X12_lasts_14 : decode J_X12_lasts.2.1 14 = .ok (.bipush 24, 2) := by decide +kernel
theorem d_X12_lasts_16 : decode J_X12_lasts.2.1 16 = .ok (.iload_n 1, 1) := by decide +kernel
theorem d_X12_lasts_17 : decode J_X12_lasts.2.1 17 = .ok (.imul, 1) := by decide +kernel
theorem d_X12_lasts_18 : decode J_X12_lasts.2.1 18 = .ok (.istore_n 3, 1) := by decide +kernel
theorem d_X12_lasts_19 : decode J_X12_lasts.2.1 19 = .ok (.iload_n 3, 1) := by decide +kernel
theorem d_X12_lasts_20 : decode J_X12_lasts.2.1 20 = .ok (.bipush 24, 2) := by decide +kernel
theorem d_X12_lasts_22 : decode J_X12_lasts.2.1 22 = .ok (.iload_n 1, 1) := by decide +kernel
theorem d_X12_lasts_23 : decode J_X12_lasts.2.1 23 = .ok (.imul, 1) := by decide +kernel
theorem d_X12_lasts_24 : decode J_X12_lasts.2.1 24 = .ok (.aload_n 0, 1) := by decide +kernel
theorem d_X12_lasts_25 : decode J_X12_lasts.2.1 25 = .ok (.getfield 58, 3) := by decide +kernel
theorem d_X12_lasts_28 : decode J_X12_lasts.2.1 28 = .ok (.iload_n 1, 1) := by decide +kernel
theorem d_X12_lasts_29 : decode J_X12_lasts.2.1 29 = .ok (.iaload, 1) := by decide +kernel
theorem d_X12_lasts_30 : decode J_X12_lasts.2.1 30 = .ok (.iadd, 1) := by decide +kernel
theorem d_X12_lasts_31 : decode J_X12_lasts.2.1 31 = .ok (.if_icmp .ge 45, 3) := by decide +kernel
theorem d_X12_lasts_34 : decode J_X12_lasts.2.1 34 = .ok (.aload_n 0, 1) := by decide +kernel
theorem d_X12_lasts_35 : decode J_X12_lasts.2.1 35 = .ok (.getfield 61, 3) := by decide +kernel
theorem d_X12_lasts_38 : decode J_X12_lasts.2.1 38 = .ok (.iload_n 3, 1) := by decide +kernel
theorem d_X12_lasts_39 : decode J_X12_lasts.2.1 39 = .ok (.iaload, 1) := by decide +kernel
theorem d_X12_lasts_40 : decode J_X12_lasts.2.1 40 = .ok (.ifCond .ne 30, 3) := by decide +kernel
theorem d_X12_lasts_43 : decode J_X12_lasts.2.1 43 = .ok (.aload_n 0, 1) := by decide +kernel
theorem d_X12_lasts_44 : decode J_X12_lasts.2.1 44 = .ok (.getfield 31, 3) := by decide +kernel
theorem d_X12_lasts_47 : decode J_X12_lasts.2.1 47 = .ok (.aload_n 0, 1) := by decide +kernel
theorem d_X12_lasts_48 : decode J_X12_lasts.2.1 48 = .ok (.getfield 64, 3) := by decide +kernel
theorem d_X12_lasts_51 : decode J_X12_lasts.2.1 51 = .ok (.iload_n 3, 1) := by decide +kernel
theorem d_X12_lasts_52 : decode J_X12_lasts.2.1 52 = .ok (.iaload, 1) := by decide +kernel
theorem d_X12_lasts_53 : decode J_X12_lasts.2.1 53 = .ok (.iaload, 1) := by decide +kernel
theorem d_X12_lasts_54 : decode J_X12_lasts.2.1 54 = .ok (.iload_n 2, 1) := by decide +kernel
theorem d_X12_lasts_55 : decode J_X12_lasts.2.1 55 = .ok (.if_icmp .ge 15, 3) := by decide +kernel
theorem d_X12_lasts_58 : decode J_X12_lasts.2.1 58 = .ok (.aload_n 0, 1) := by decide +kernel
theorem d_X12_lasts_59 : decode J_X12_lasts.2.1 59 = .ok (.getfield 31, 3) := by decide +kernel
theorem d_X12_lasts_62 : decode J_X12_lasts.2.1 62 = .ok (.aload_n 0, 1) := by decide +kernel
theorem d_X12_lasts_63 : decode J_X12_lasts.2.1 63 = .ok (.getfield 64, 3) := by decide +kernel
theorem d_X12_lasts_66 : decode J_X12_lasts.2.1 66 = .ok (.iload_n 3, 1) := by decide +kernel
theorem d_X12_lasts_67 : decode J_X12_lasts.2.1 67 = .ok (.iaload, 1) := by decide +kernel
theorem d_X12_lasts_68 : decode J_X12_lasts.2.1 68 = .ok (.iaload, 1) := by decide +kernel
theorem d_X12_lasts_69 : decode J_X12_lasts.2.1 69 = .ok (.istore_n 2, 1) := by decide +kernel
theorem d_X12_lasts_70 : decode J_X12_lasts.2.1 70 = .ok (.iinc 3 1, 3) := by decide +kernel
theorem d_X12_lasts_73 : decode J_X12_lasts.2.1 73 = .ok (.goto (-54), 3) := by decide +kernel
theorem d_X12_lasts_76 : decode J_X12_lasts.2.1 76 = .ok (.iload_n 2, 1) := by decide +kernel
theorem d_X12_lasts_77 : decode J_X12_lasts.2.1 77 = .ok (.ireturn, 1) := by decide +kernel
def f_X12_lasts_70 (N : Nat) (K : oK) (r19 : (Int32 → Int32 → Int32 → oM → Option (Int32 × oM))) (p1 : Int32) (p2 : Int32) (p3 : Int32) (M : oM) : Option (Int32 × oM) :=
  (r19 p1 p2 (p3 + 1) M)
set_option maxRecDepth 20000 in
theorem v_X12_lasts_70 {X : oX} {d N : Nat} {K : oK} {r19 : (Int32 → Int32 → Int32 → oM → Option (Int32 × oM))} {p1 : Int32} {p2 : Int32} {p3 : Int32} {M : oM} {v : Int32} {M' : oM}  (hd : 3 ≤ d) (hK : oSR K)  (hr19 : ∀ (p1 : Int32) (p2 : Int32) (p3 : Int32) (M : oM) (v : Int32) (M' : oM) , r19 p1 p2 p3 M = some (v, M') → oEv X d J_X12_lasts 19 [some (.ref 59), some (.int p1), some (.int p2), some (.int p3)] [] K M (some (.int v)) K M') (h : f_X12_lasts_70 N K r19 p1 p2 p3 M = some (v, M')) : oEv X d J_X12_lasts 70 [some (.ref 59), some (.int p1), some (.int p2), some (.int p3)] [] K M (some (.int v)) K M' := by
  unfold f_X12_lasts_70 at h
  refine oe_iinc (pc := 70) (v := (p3 + 1)) (L2 := [_, _, _, _]) d_X12_lasts_70 rfl rfl rfl (Nat.le_of_ble_eq_true rfl) rfl ?_
  refine oe_goto (pc := 73) (tgt := 19) d_X12_lasts_73 (by decide) ?_
  exact hr19 _ _ _ _ _ _ h
def f_X12_lasts_19 (N : Nat) (K : oK)  : Nat → Int32 → Int32 → Int32 → oM → Option (Int32 × oM)
  | 0, _, _, _, _ => none
  | n + 1, p1, p2, p3, M => (fun r19 => oIx (p1) 20 ((if (((24 : Int32) * p1) + (M.1 76 (p1 : Int32).toNatClampNeg)) ≤ p3 then some (p2, M) else oIx (p3) 480 ((if (M.1 77 (p3 : Int32).toNatClampNeg) = 0 then oIx (p3) 480 (oIx ((M.1 78 (p3 : Int32).toNatClampNeg)) 6 ((if p2 ≤ (M.1 67 ((M.1 78 (p3 : Int32).toNatClampNeg) : Int32).toNatClampNeg) then (f_X12_lasts_70 N K r19 p1 p2 p3 M) else oIx (p3) 480 (oIx ((M.1 78 (p3 : Int32).toNatClampNeg)) 6 ((f_X12_lasts_70 N K r19 p1 (M.1 67 ((M.1 78 (p3 : Int32).toNatClampNeg) : Int32).toNatClampNeg) p3 M)))))) else (f_X12_lasts_70 N K r19 p1 p2 p3 M)))))) (f_X12_lasts_19 N K  n)
set_option maxRecDepth 20000 in
theorem v_X12_lasts_19_L {X : oX} {d N : Nat} {K : oK}  (hd : 3 ≤ d) (hK : oSR K)  : ∀ (n : Nat) (p1 : Int32) (p2 : Int32) (p3 : Int32) (M : oM) (v : Int32) (M' : oM)  , f_X12_lasts_19 N K  n p1 p2 p3 M = some (v, M') → oEv X d J_X12_lasts 19 [some (.ref 59), some (.int p1), some (.int p2), some (.int p3)] [] K M (some (.int v)) K M' := by
  intro n
  induction n with
  | zero =>
    intro p1 p2 p3 M v M'   h
    cases h
  | succ n hr19 =>
    intro p1 p2 p3 M v M'   h
    refine oe_iload_n (pc := 19) d_X12_lasts_19 rfl ?_
    refine oe_bipush (pc := 20) (v := 24) d_X12_lasts_20 rfl ?_
    refine oe_iload_n (pc := 22) d_X12_lasts_22 rfl ?_
    refine oe_imul (pc := 23) d_X12_lasts_23 ?_
    refine oe_aload_n (pc := 24) d_X12_lasts_24 rfl ?_
    refine oe_getr (pc := 25) d_X12_lasts_25 fl_X12_58 ock12 (k := 24) (b := 76) (Nat.le_of_ble_eq_true rfl) (by decide) (oLt hK (a := 59) (Nat.le_of_ble_eq_true rfl)) (oSho hK (a := 59) (Nat.le_of_ble_eq_true rfl) rfl) (oRfK hK rfl) ?_
    refine oe_iload_n (pc := 28) d_X12_lasts_28 rfl ?_
    obtain ⟨i4, h⟩ := oIx_some h
    refine oe_iald (pc := 29) d_X12_lasts_29 (oLt hK (a := 76) (Nat.le_of_ble_eq_true rfl)) (oSha hK (a := 76) (Nat.le_of_ble_eq_true rfl) rfl) i4 ?_
    refine oe_iadd (pc := 30) d_X12_lasts_30 ?_
    refine oe_icmp_ge (pc := 31) (tgt := 76) d_X12_lasts_31 (by decide) (fun c5 => ?_) (fun c5 => ?_)
    · replace h := (if_pos c5).symm.trans h
      refine oe_iload_n (pc := 76) d_X12_lasts_76 rfl ?_
      obtain ⟨rfl, rfl⟩ := oRes h
      exact oe_iret (pc := 77) d_X12_lasts_77 ⟨_, rfl, rfl⟩
    · replace h := (if_neg c5).symm.trans h
      refine oe_aload_n (pc := 34) d_X12_lasts_34 rfl ?_
      refine oe_getr (pc := 35) d_X12_lasts_35 fl_X12_61 ock12 (k := 25) (b := 77) (Nat.le_of_ble_eq_true rfl) (by decide) (oLt hK (a := 59) (Nat.le_of_ble_eq_true rfl)) (oSho hK (a := 59) (Nat.le_of_ble_eq_true rfl) rfl) (oRfK hK rfl) ?_
      refine oe_iload_n (pc := 38) d_X12_lasts_38 rfl ?_
      obtain ⟨i6, h⟩ := oIx_some h
      refine oe_iald (pc := 39) d_X12_lasts_39 (oLt hK (a := 77) (Nat.le_of_ble_eq_true rfl)) (oSha hK (a := 77) (Nat.le_of_ble_eq_true rfl) rfl) i6 ?_
      refine oe_if_ne (pc := 40) (tgt := 70) d_X12_lasts_40 (by decide) (fun c7 => ?_) (fun c7 => ?_)
      · replace h := (if_neg c7).symm.trans h
        exact v_X12_lasts_70 hd hK  hr19 h
      · replace h := (if_pos c7).symm.trans h
        refine oe_aload_n (pc := 43) d_X12_lasts_43 rfl ?_
        refine oe_getr (pc := 44) d_X12_lasts_44 fl_X12_31 ock12 (k := 12) (b := 67) (Nat.le_of_ble_eq_true rfl) (by decide) (oLt hK (a := 59) (Nat.le_of_ble_eq_true rfl)) (oSho hK (a := 59) (Nat.le_of_ble_eq_true rfl) rfl) (oRfK hK rfl) ?_
        refine oe_aload_n (pc := 47) d_X12_lasts_47 rfl ?_
        refine oe_getr (pc := 48) d_X12_lasts_48 fl_X12_64 ock12 (k := 26) (b := 78) (Nat.le_of_ble_eq_true rfl) (by decide) (oLt hK (a := 59) (Nat.le_of_ble_eq_true rfl)) (oSho hK (a := 59) (Nat.le_of_ble_eq_true rfl) rfl) (oRfK hK rfl) ?_
        refine oe_iload_n (pc := 51) d_X12_lasts_51 rfl ?_
        obtain ⟨i8, h⟩ := oIx_some h
        refine oe_iald (pc := 52) d_X12_lasts_52 (oLt hK (a := 78) (Nat.le_of_ble_eq_true rfl)) (oSha hK (a := 78) (Nat.le_of_ble_eq_true rfl) rfl) i8 ?_
        obtain ⟨i9, h⟩ := oIx_some h
        refine oe_iald (pc := 53) d_X12_lasts_53 (oLt hK (a := 67) (Nat.le_of_ble_eq_true rfl)) (oSha hK (a := 67) (Nat.le_of_ble_eq_true rfl) rfl) i9 ?_
        refine oe_iload_n (pc := 54) d_X12_lasts_54 rfl ?_
        refine oe_icmp_ge (pc := 55) (tgt := 70) d_X12_lasts_55 (by decide) (fun c10 => ?_) (fun c10 => ?_)
        · replace h := (if_pos c10).symm.trans h
          exact v_X12_lasts_70 hd hK  hr19 h
        · replace h := (if_neg c10).symm.trans h
          refine oe_aload_n (pc := 58) d_X12_lasts_58 rfl ?_
          refine oe_getr (pc := 59) d_X12_lasts_59 fl_X12_31 ock12 (k := 12) (b := 67) (Nat.le_of_ble_eq_true rfl) (by decide) (oLt hK (a := 59) (Nat.le_of_ble_eq_true rfl)) (oSho hK (a := 59) (Nat.le_of_ble_eq_true rfl) rfl) (oRfK hK rfl) ?_
          refine oe_aload_n (pc := 62) d_X12_lasts_62 rfl ?_
          refine oe_getr (pc := 63) d_X12_lasts_63 fl_X12_64 ock12 (k := 26) (b := 78) (Nat.le_of_ble_eq_true rfl) (by decide) (oLt hK (a := 59) (Nat.le_of_ble_eq_true rfl)) (oSho hK (a := 59) (Nat.le_of_ble_eq_true rfl) rfl) (oRfK hK rfl) ?_
          refine oe_iload_n (pc := 66) d_X12_lasts_66 rfl ?_
          obtain ⟨i11, h⟩ := oIx_some h
          refine oe_iald (pc := 67) d_X12_lasts_67 (oLt hK (a := 78) (Nat.le_of_ble_eq_true rfl)) (oSha hK (a := 78) (Nat.le_of_ble_eq_true rfl) rfl) i11 ?_
          obtain ⟨i12, h⟩ := oIx_some h
          refine oe_iald (pc := 68) d_X12_lasts_68 (oLt hK (a := 67) (Nat.le_of_ble_eq_true rfl)) (oSha hK (a := 67) (Nat.le_of_ble_eq_true rfl) rfl) i12 ?_
          refine oe_istore_n (pc := 69) (L2 := [_, _, _, _]) d_X12_lasts_69 rfl rfl (Nat.le_of_ble_eq_true rfl) rfl ?_
          exact v_X12_lasts_70 hd hK  hr19 h
theorem v_X12_lasts_19 {X : oX} {d N : Nat} {K : oK}  {p1 : Int32} {p2 : Int32} {p3 : Int32} {M : oM} {v : Int32} {M' : oM}  (hd : 3 ≤ d) (hK : oSR K)   (h : f_X12_lasts_19 N K  N p1 p2 p3 M = some (v, M')) : oEv X d J_X12_lasts 19 [some (.ref 59), some (.int p1), some (.int p2), some (.int p3)] [] K M (some (.int v)) K M' := v_X12_lasts_19_L hd hK  N p1 p2 p3 M v M'   h
def f_X12_lasts (N : Nat) (K : oK) (p1 : Int32) (M : oM) : Option (Int32 × oM) :=
  oB2 (f_X12_isLaying N K p1 M) (fun v1 M2 => cond v1 ((f_X12_lasts_19 N K  N p1 999 ((24 : Int32) * p1) M2)) (some ((-1), M2)))
set_option maxRecDepth 20000 in
theorem v_X12_lasts {X : oX} {N : Nat} {K : oK} {p1 : Int32} {M : oM} {v : Int32} {M' : oM} (hK : oSR K)  (h : f_X12_lasts N K p1 M = some (v, M')) : oMet X 3 J_X12_lasts [(.ref 59), (.int p1)] K M (some (.int v)) K M' := by
  unfold f_X12_lasts at h
  refine oMet_of (L := [some (.ref 59), some (.int p1), none, none]) jJ_X12_lasts.1 rfl (Nat.le_of_ble_eq_true rfl) rfl (Nat.le_refl _) (Nat.le_refl _) ?_
  have hd : 3 ≤ 3 := Nat.le_refl _
  refine oe_aload_n (pc := 0) d_X12_lasts_0 rfl ?_
  refine oe_iload_n (pc := 1) d_X12_lasts_1 rfl ?_
  obtain ⟨v1, M2, q3, h⟩ := oB2_some h
  cases v1 with
  | true =>
    replace h := oCt h
    refine oe_callV (pc := 2) (ci := 12) d_X12_lasts_2 (v_X12_isLaying hK  q3) (by omega) ml_X12_230 jJ_X12_isLaying rfl rfl (oLt hK (a := 59) (Nat.le_of_ble_eq_true rfl)) (oSho hK (a := 59) (Nat.le_of_ble_eq_true rfl) rfl) ock12 rfl (Nat.le_of_ble_eq_true rfl) ⟨Nat.le_refl _, Nat.le_refl _⟩ ⟨Nat.le_refl _, Nat.le_refl _⟩ ?_
    refine oe_if_ne (pc := 5) (tgt := 10) d_X12_lasts_5 (by decide) (fun _ => ?_) (fun c => absurd c (by decide))
    refine oe_sipush (pc := 10) (v := 999) d_X12_lasts_10 rfl ?_
    refine oe_istore_n (pc := 13) (L2 := [_, _, _, _]) d_X12_lasts_13 rfl rfl (Nat.le_of_ble_eq_true rfl) rfl ?_
    refine oe_bipush (pc := 14) (v := 24) d_X12_lasts_14 rfl ?_
    refine oe_iload_n (pc := 16) d_X12_lasts_16 rfl ?_
    refine oe_imul (pc := 17) d_X12_lasts_17 ?_
    refine oe_istore_n (pc := 18) (L2 := [_, _, _, _]) d_X12_lasts_18 rfl rfl (Nat.le_of_ble_eq_true rfl) rfl ?_
    exact v_X12_lasts_19 hd hK   h
  | false =>
    replace h := oCf h
    refine oe_callV (pc := 2) (ci := 12) d_X12_lasts_2 (v_X12_isLaying hK  q3) (by omega) ml_X12_230 jJ_X12_isLaying rfl rfl (oLt hK (a := 59) (Nat.le_of_ble_eq_true rfl)) (oSho hK (a := 59) (Nat.le_of_ble_eq_true rfl) rfl) ock12 rfl (Nat.le_of_ble_eq_true rfl) ⟨Nat.le_refl _, Nat.le_refl _⟩ ⟨Nat.le_refl _, Nat.le_refl _⟩ ?_
    refine oe_if_ne (pc := 5) (tgt := 10) d_X12_lasts_5 (by decide) (fun c => absurd (by decide) c) (fun _ => ?_)
    refine oe_iconst (pc := 8) (v := (-1)) d_X12_lasts_8 rfl ?_
    obtain ⟨rfl, rfl⟩ := oRes h
    exact oe_iret (pc := 9) d_X12_lasts_9 ⟨_, rfl, rfl⟩
theorem d_X12_turn_0 : decode J_X12_turn.2.1 0 = .ok (.iload_n 1, 1) := by decide +kernel
theorem d_X12_turn_1 : decode J_X12_turn.2.1 1 = .ok (.iconst 1, 1) := by decide +kernel
theorem d_X12_turn_2 : decode J_X12_turn.2.1 2 = .ok (.if_icmp .lt 24, 3) := by decide +kernel
theorem d_X12_turn_5 : decode J_X12_turn.2.1 5 = .ok (.iload_n 1, 1) := by decide +kernel
theorem d_X12_turn_6 : decode J_X12_turn.2.1 6 = .ok (.aload_n 0, 1) := by decide +kernel
theorem d_X12_turn_7 : decode J_X12_turn.2.1 7 = .ok (.getfield 154, 3) := by decide +kernel
theorem d_X12_turn_10 : decode J_X12_turn.2.1 10 = .ok (.ishr, 1) := by decide +kernel
theorem d_X12_turn_11 : decode J_X12_turn.2.1 11 = .ok (.ifCond .ne 15, 3) := by decide +kernel
theorem d_X12_turn_14 : decode J_X12_turn.2.1 14 = .ok (.iload_n 2, 1) := by decide +kernel
theorem d_X12_turn_15 : decode J_X12_turn.2.1 15 = .ok (.i2l, 1) := by decide +kernel
theorem d_X12_turn_16 : decode J_X12_turn.2.1 16 = .ok (.lconst 0, 1) := by decide +kernel
theorem d_X12_turn_17 : decode J_X12_turn.2.1 17 = .ok (.ldc2_w 174, 3) := by decide +kernel
theorem d_X12_turn_20 : decode J_X12_turn.2.1 20 = .ok (.invokestatic 145, 3) := by decide +kernel
theorem d_X12_turn_23 : decode J_X12_turn.2.1 23 = .ok (.ifCond .ne 5, 3) := by decide +kernel
theorem d_X12_turn_26 : decode J_X12_turn.2.1 26 = .ok (.iconst (-1), 1) := by decide +kernel
theorem d_X12_turn_27 : decode J_X12_turn.2.1 27 = .ok (.ireturn, 1) := by decide +kernel
theorem d_X12_turn_28 : decode J_X12_turn.2.1 28 = .ok (.iload_n 2, 1) := by decide +kernel
theorem d_X12_turn_29 : decode J_X12_turn.2.1 29 = .ok (.istore_n 3, 1) := by decide +kernel
theorem d_X12_turn_30 : decode J_X12_turn.2.1 30 = .ok (.iconst 0, 1) := by decide +kernel
theorem d_X12_turn_31 : decode J_X12_turn.2.1 31 = .ok (.istore 4, 2) := by decide +kernel
theorem d_X12_turn_33 : decode J_X12_turn.2.1 33 = .ok (.iload 4, 2) := by decide +kernel
theorem d_X12_turn_35 : decode J_X12_turn.2.1 35 = .ok (.aload_n 0, 1) := by decide +kernel
theorem d_X12_turn_36 : decode J_X12_turn.2.1 36 = .ok (.getfield 154, 3) := by decide +kernel
theorem d_X12_turn_39 : decode J_X12_turn.2.1 39 = .ok (.if_icmp .ge 35, 3) := by decide +kernel
theorem d_X12_turn_42 : decode J_X12_turn.2.1 42 = .ok (.iload_n 3, 1) := by decide +kernel
theorem d_X12_turn_43 : decode J_X12_turn.2.1 43 = .ok (.iload_n 1, 1) := by decide +kernel
theorem d_X12_turn_44 : decode J_X12_turn.2.1 44 = .ok (.iload 4, 2) := by decide +kernel
theorem d_X12_turn_46 : decode J_X12_turn.2.1 46 = .ok (.ishr, 1) := by decide +kernel
theorem d_X12_turn_47 : decode J_X12_turn.2.1 47 = .ok (.iconst 1, 1) := by decide +kernel
theorem d_X12_turn_48 : decode J_X12_turn.2.1 48 = .ok (.iand, 1) := by decide +kernel
theorem d_X12_turn_49 : decode J_X12_turn.2.1 49 = .ok (.iconst 1, 1) := by decide +kernel
theorem d_X12_turn_50 : decode J_X12_turn.2.1 50 = .ok (.if_icmp .ne 15, 3) := by decide +kernel
theorem d_X12_turn_53 : decode J_X12_turn.2.1 53 = .ok (.aload_n 0, 1) := by decide +kernel
theorem d_X12_turn_54 : decode J_X12_turn.2.1 54 = .ok (.getfield 31, 3) := by decide +kernel
theorem d_X12_turn_57 : decode J_X12_turn.2.1 57 = .ok (.iload 4, 2) := by decide +kernel
theorem d_X12_turn_59 : decode J_X12_turn.2.1 59 = .ok (.iaload, 1) := by decide +kernel
theorem d_X12_turn_60 : decode J_X12_turn.2.1 60 = .ok (.iload_n 2, 1) := by decide +kernel
theorem d_X12_turn_61 : decode J_X12_turn.2.1 61 = .ok (.isub, 1) := by decide +kernel
theorem d_X12_turn_62 : decode J_X12_turn.2.1 62 = .ok (.goto 4, 3) := by decide +kernel
theorem d_X12_turn_65 : decode J_X12_turn.2.1 65 = .ok (.iconst 0, 1) := by decide +kernel
theorem d_X12_turn_66 : decode J_X12_turn.2.1 66 = .ok (.iadd, 1) := by decide +kernel
theorem d_X12_turn_67 : decode J_X12_turn.2.1 67 = .ok (.istore_n 3, 1) := by decide +kernel
theorem d_X12_turn_68 : decode J_X12_turn.2.1 68 = .ok (.iinc 4 1, 3) := by decide +kernel
theorem d_X12_turn_71 : decode J_X12_turn.2.1 71 = .ok (.goto (-38), 3) := by decide +kernel
theorem d_X12_turn_74 : decode J_X12_turn.2.1 74 = .ok (.iload_n 3, 1) := by decide +kernel
theorem d_X12_turn_75 : decode J_X12_turn.2.1 75 = .ok (.ireturn, 1) := by decide +kernel
def f_X12_turn_66 (N : Nat) (K : oK) (r33 : (Int32 → Int32 → Int32 → Int32 → oM → Option (Int32 × oM))) (p1 : Int32) (p2 : Int32) (p4 : Int32) (s0 : Int32) (s1 : Int32) (M : oM) : Option (Int32 × oM) :=
  (r33 p1 p2 (s1 + s0) (p4 + 1) M)
set_option maxRecDepth 20000 in
theorem v_X12_turn_66 {X : oX} {d N : Nat} {K : oK} {r33 : (Int32 → Int32 → Int32 → Int32 → oM → Option (Int32 × oM))} {p1 : Int32} {p2 : Int32} {p4 : Int32} {s0 : Int32} {s1 : Int32} {M : oM} {v : Int32} {M' : oM}  (hd : 2 ≤ d) (hK : oSR K)  (hr33 : ∀ (p1 : Int32) (p2 : Int32) (p3 : Int32) (p4 : Int32) (M : oM) (v : Int32) (M' : oM) , r33 p1 p2 p3 p4 M = some (v, M') → oEv X d J_X12_turn 33 [some (.ref 59), some (.int p1), some (.int p2), some (.int p3), some (.int p4)] [] K M (some (.int v)) K M') (h : f_X12_turn_66 N K r33 p1 p2 p4 s0 s1 M = some (v, M')) : oEv X d J_X12_turn 66 [some (.ref 59), some (.int p1), some (.int p2), none, some (.int p4)] [(.int s0), (.int s1)] K M (some (.int v)) K M' := by
  unfold f_X12_turn_66 at h
  refine oe_iadd (pc := 66) d_X12_turn_66 ?_
  refine oe_istore_n (pc := 67) (L2 := [_, _, _, _, _]) d_X12_turn_67 rfl rfl (Nat.le_of_ble_eq_true rfl) rfl ?_
  refine oe_iinc (pc := 68) (v := (p4 + 1)) (L2 := [_, _, _, _, _]) d_X12_turn_68 rfl rfl rfl (Nat.le_of_ble_eq_true rfl) rfl ?_
  refine oe_goto (pc := 71) (tgt := 33) d_X12_turn_71 (by decide) ?_
  exact hr33 _ _ _ _ _ _ _ h
def f_X12_turn_33 (N : Nat) (K : oK)  : Nat → Int32 → Int32 → Int32 → Int32 → oM → Option (Int32 × oM)
  | 0, _, _, _, _, _ => none
  | n + 1, p1, p2, p3, p4, M => (fun r33 => (if (M.1 59 11) ≤ p4 then some (p3, M) else (if ((p1 >>> (p4 &&& 31)) &&& 1) = 1 then oIx (p4) 6 ((f_X12_turn_66 N K r33 p1 p2 p4 ((M.1 67 (p4 : Int32).toNatClampNeg) - p2) p3 M)) else (f_X12_turn_66 N K r33 p1 p2 p4 0 p3 M)))) (f_X12_turn_33 N K  n)
set_option maxRecDepth 20000 in
theorem v_X12_turn_33_L {X : oX} {d N : Nat} {K : oK}  (hd : 2 ≤ d) (hK : oSR K)  : ∀ (n : Nat) (p1 : Int32) (p2 : Int32) (p3 : Int32) (p4 : Int32) (M : oM) (v : Int32) (M' : oM)  , f_X12_turn_33 N K  n p1 p2 p3 p4 M = some (v, M') → oEv X d J_X12_turn 33 [some (.ref 59), some (.int p1), some (.int p2), some (.int p3), some (.int p4)] [] K M (some (.int v)) K M' := by
  intro n
  induction n with
  | zero =>
    intro p1 p2 p3 p4 M v M'   h
    cases h
  | succ n hr33 =>
    intro p1 p2 p3 p4 M v M'   h
    refine oe_iload (pc := 33) d_X12_turn_33 rfl ?_
    refine oe_aload_n (pc := 35) d_X12_turn_35 rfl ?_
    refine oe_getf (pc := 36) d_X12_turn_36 fl_X12_154 ock12 (k := 11) (Nat.le_of_ble_eq_true rfl) rfl (oLt hK (a := 59) (Nat.le_of_ble_eq_true rfl)) (oSho hK (a := 59) (Nat.le_of_ble_eq_true rfl) rfl) ?_
    refine oe_icmp_ge (pc := 39) (tgt := 74) d_X12_turn_39 (by decide) (fun c6 => ?_) (fun c6 => ?_)
    · replace h := (if_pos c6).symm.trans h
      refine oe_iload_n (pc := 74) d_X12_turn_74 rfl ?_
      obtain ⟨rfl, rfl⟩ := oRes h
      exact oe_iret (pc := 75) d_X12_turn_75 ⟨_, rfl, rfl⟩
    · replace h := (if_neg c6).symm.trans h
      refine oe_iload_n (pc := 42) d_X12_turn_42 rfl ?_
      refine oe_iload_n (pc := 43) d_X12_turn_43 rfl ?_
      refine oe_iload (pc := 44) d_X12_turn_44 rfl ?_
      refine oe_ishr (pc := 46) d_X12_turn_46 ?_
      refine oe_iconst (pc := 47) (v := 1) d_X12_turn_47 rfl ?_
      refine oe_iand (pc := 48) d_X12_turn_48 ?_
      refine oe_iconst (pc := 49) (v := 1) d_X12_turn_49 rfl ?_
      refine oe_icmp_ne (pc := 50) (tgt := 65) d_X12_turn_50 (by decide) (fun c7 => ?_) (fun c7 => ?_)
      · replace h := (if_neg c7).symm.trans h
        refine oe_iconst (pc := 65) (v := 0) d_X12_turn_65 rfl ?_
        refine oEv.fg [true, true, true, false, true] ?_
        exact v_X12_turn_66 hd hK  hr33 h
      · replace h := (if_pos c7).symm.trans h
        refine oe_aload_n (pc := 53) d_X12_turn_53 rfl ?_
        refine oe_getr (pc := 54) d_X12_turn_54 fl_X12_31 ock12 (k := 12) (b := 67) (Nat.le_of_ble_eq_true rfl) (by decide) (oLt hK (a := 59) (Nat.le_of_ble_eq_true rfl)) (oSho hK (a := 59) (Nat.le_of_ble_eq_true rfl) rfl) (oRfK hK rfl) ?_
        refine oe_iload (pc := 57) d_X12_turn_57 rfl ?_
        obtain ⟨i8, h⟩ := oIx_some h
        refine oe_iald (pc := 59) d_X12_turn_59 (oLt hK (a := 67) (Nat.le_of_ble_eq_true rfl)) (oSha hK (a := 67) (Nat.le_of_ble_eq_true rfl) rfl) i8 ?_
        refine oe_iload_n (pc := 60) d_X12_turn_60 rfl ?_
        refine oe_isub (pc := 61) d_X12_turn_61 ?_
        refine oe_goto (pc := 62) (tgt := 66) d_X12_turn_62 (by decide) ?_
        refine oEv.fg [true, true, true, false, true] ?_
        exact v_X12_turn_66 hd hK  hr33 h
theorem v_X12_turn_33 {X : oX} {d N : Nat} {K : oK}  {p1 : Int32} {p2 : Int32} {p3 : Int32} {p4 : Int32} {M : oM} {v : Int32} {M' : oM}  (hd : 2 ≤ d) (hK : oSR K)   (h : f_X12_turn_33 N K  N p1 p2 p3 p4 M = some (v, M')) : oEv X d J_X12_turn 33 [some (.ref 59), some (.int p1), some (.int p2), some (.int p3), some (.int p4)] [] K M (some (.int v)) K M' := v_X12_turn_33_L hd hK  N p1 p2 p3 p4 M v M'   h
def f_X12_turn (N : Nat) (K : oK) (p1 : Int32) (p2 : Int32) (M : oM) : Option (Int32 × oM) :=
  (if p1 < 1 then some ((-1), M) else (if (p1 >>> ((M.1 59 11) &&& 31)) = 0 then oB2 (f_X12_within N K ((p2 : Int32).toInt64) 0 99 M) (fun v3 M4 => cond v3 ((f_X12_turn_33 N K  N p1 p2 p2 0 M4)) (some ((-1), M4))) else some ((-1), M)))
set_option maxRecDepth 20000 in
theorem v_X12_turn {X : oX} {N : Nat} {K : oK} {p1 : Int32} {p2 : Int32} {M : oM} {v : Int32} {M' : oM} (hK : oSR K)  (h : f_X12_turn N K p1 p2 M = some (v, M')) : oMet X 2 J_X12_turn [(.ref 59), (.int p1), (.int p2)] K M (some (.int v)) K M' := by
  unfold f_X12_turn at h
  refine oMet_of (L := [some (.ref 59), some (.int p1), some (.int p2), none, none]) jJ_X12_turn.1 rfl (Nat.le_of_ble_eq_true rfl) rfl (Nat.le_refl _) (Nat.le_refl _) ?_
  have hd : 2 ≤ 2 := Nat.le_refl _
  refine oe_iload_n (pc := 0) d_X12_turn_0 rfl ?_
  refine oe_iconst (pc := 1) (v := 1) d_X12_turn_1 rfl ?_
  refine oe_icmp_lt (pc := 2) (tgt := 26) d_X12_turn_2 (by decide) (fun c1 => ?_) (fun c1 => ?_)
  · replace h := (if_pos c1).symm.trans h
    refine oe_iconst (pc := 26) (v := (-1)) d_X12_turn_26 rfl ?_
    obtain ⟨rfl, rfl⟩ := oRes h
    exact oe_iret (pc := 27) d_X12_turn_27 ⟨_, rfl, rfl⟩
  · replace h := (if_neg c1).symm.trans h
    refine oe_iload_n (pc := 5) d_X12_turn_5 rfl ?_
    refine oe_aload_n (pc := 6) d_X12_turn_6 rfl ?_
    refine oe_getf (pc := 7) d_X12_turn_7 fl_X12_154 ock12 (k := 11) (Nat.le_of_ble_eq_true rfl) rfl (oLt hK (a := 59) (Nat.le_of_ble_eq_true rfl)) (oSho hK (a := 59) (Nat.le_of_ble_eq_true rfl) rfl) ?_
    refine oe_ishr (pc := 10) d_X12_turn_10 ?_
    refine oe_if_ne (pc := 11) (tgt := 26) d_X12_turn_11 (by decide) (fun c2 => ?_) (fun c2 => ?_)
    · replace h := (if_neg c2).symm.trans h
      refine oe_iconst (pc := 26) (v := (-1)) d_X12_turn_26 rfl ?_
      obtain ⟨rfl, rfl⟩ := oRes h
      exact oe_iret (pc := 27) d_X12_turn_27 ⟨_, rfl, rfl⟩
    · replace h := (if_pos c2).symm.trans h
      refine oe_iload_n (pc := 14) d_X12_turn_14 rfl ?_
      refine oe_i2l (pc := 15) d_X12_turn_15 ?_
      refine oe_lconst (pc := 16) (v := 0) d_X12_turn_16 rfl ?_
      refine oe_ldc2 (pc := 17) d_X12_turn_17 co_X12_174 ?_
      obtain ⟨v3, M4, q5, h⟩ := oB2_some h
      cases v3 with
      | true =>
        replace h := oCt h
        refine oe_callS (pc := 20) d_X12_turn_20 (v_X12_within hK  q5) (by omega) ml_X12_145 jJ_X12_within rfl rfl (Nat.le_of_ble_eq_true rfl) ⟨Nat.le_refl _, Nat.le_refl _⟩ ⟨Nat.le_refl _, Nat.le_refl _⟩ ?_
        refine oe_if_ne (pc := 23) (tgt := 28) d_X12_turn_23 (by decide) (fun _ => ?_) (fun c => absurd c (by decide))
        refine oe_iload_n (pc := 28) d_X12_turn_28 rfl ?_
        refine oe_istore_n (pc := 29) (L2 := [_, _, _, _, _]) d_X12_turn_29 rfl rfl (Nat.le_of_ble_eq_true rfl) rfl ?_
        refine oe_iconst (pc := 30) (v := 0) d_X12_turn_30 rfl ?_
        refine oe_istore (pc := 31) (L2 := [_, _, _, _, _]) d_X12_turn_31 rfl (Nat.le_of_ble_eq_true rfl) rfl ?_
        exact v_X12_turn_33 hd hK   h
      | false =>
        replace h := oCf h
        refine oe_callS (pc := 20) d_X12_turn_20 (v_X12_within hK  q5) (by omega) ml_X12_145 jJ_X12_within rfl rfl (Nat.le_of_ble_eq_true rfl) ⟨Nat.le_refl _, Nat.le_refl _⟩ ⟨Nat.le_refl _, Nat.le_refl _⟩ ?_
        refine oe_if_ne (pc := 23) (tgt := 28) d_X12_turn_23 (by decide) (fun c => absurd (by decide) c) (fun _ => ?_)
        refine oe_iconst (pc := 26) (v := (-1)) d_X12_turn_26 rfl ?_
        obtain ⟨rfl, rfl⟩ := oRes h
        exact oe_iret (pc := 27) d_X12_turn_27 ⟨_, rfl, rfl⟩
