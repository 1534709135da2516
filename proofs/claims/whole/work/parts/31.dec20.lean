/-! walked by program: X12_share, X12_thing, X12_unthing, X12_worthBy, X12_cart -/
theorem d_X12_share_0 : decode J_X12_share.2.1 0 = .ok (.iload_n 1, 1) := by decide +kernel
theorem d_X12_share_1 : decode J_X12_share.2.1 1 = .ok (.ifCond .lt 61, 3) := by decide +kernel
theorem d_X12_share_4 : decode J_X12_share.2.1 4 = .ok (.aload_n 0, 1) := by decide +kernel
theorem d_X12_share_5 : decode J_X12_share.2.1 5 = .ok (.iload_n 1, 1) := by decide +kernel
theorem d_X12_share_6 : decode J_X12_share.2.1 6 = .ok (.bipush 100, 2) := by decide +kernel
theorem d_X12_share_8 : decode J_X12_share.2.1 8 = .ok (.idiv, 1) := by decide +kernel
theorem d_X12_share_9 : decode J_X12_share.2.1 9 = .ok (.invokevirtual 230, 3) := by decide +kernel
theorem d_X12_share_12 : decode J_X12_share.2.1 12 = .ok (.ifCond .eq 50, 3) := by decide +kernel
theorem d_X12_share_15 : decode J_X12_share.2.1 15 = .ok (.aload_n 0, 1) := by decide +kernel
theorem d_X12_share_16 : decode J_X12_share.2.1 16 = .ok (.iload_n 1, 1) := by decide +kernel
theorem d_X12_share_17 : decode J_X12_share.2.1 17 = .ok (.bipush 100, 2) := by decide +kernel
theorem d_X12_share_19 : decode J_X12_share.2.1 19 = .ok (.irem, 1) := by decide +kernel
theorem d_X12_share_20 : decode J_X12_share.2.1 20 = .ok (.invokevirtual 230, 3) := by decide +kernel
theorem d_X12_share_23 : decode J_X12_share.2.1 23 = .ok (.ifCond .eq 39, 3) := by decide +kernel
theorem d_X12_share_26 : decode J_X12_share.2.1 26 = .ok (.iload_n 1, 1) := by decide +kernel
theorem d_X12_share_27 : decode J_X12_share.2.1 27 = .ok (.bipush 100, 2) := by decide +kernel
theorem d_X12_share_29 : decode J_X12_share.2.1 29 = .ok (.idiv, 1) := by decide +kernel
theorem d_X12_share_30 : decode J_X12_share.2.1 30 = .ok (.iload_n 1, 1) := by decide +kernel
theorem d_X12_share_31 : decode J_X12_share.2.1 31 = .ok (.bipush 100, 2) := by decide +kernel
theorem d_X12_share_33 : decode J_X12_share.2.1 33 = .ok (.irem, 1) := by decide +kernel
theorem d_X12_share_34 : decode J_X12_share.2.1 34 = .ok (.if_icmp .eq 28, 3) := by decide +kernel
theorem d_X12_share_37 : decode J_X12_share.2.1 37 = .ok (.iload_n 2, 1) := by decide +kernel
theorem d_X12_share_38 : decode J_X12_share.2.1 38 = .ok (.invokestatic 283, 3) := by decide +kernel
theorem d_X12_share_41 : decode J_X12_share.2.1 41 = .ok (.ifCond .eq 21, 3) := by decide +kernel
theorem d_X12_share_44 : decode J_X12_share.2.1 44 = .ok (.iload_n 3, 1) := by decide +kernel
theorem d_X12_share_45 : decode J_X12_share.2.1 45 = .ok (.invokestatic 210, 3) := by decide +kernel
theorem d_X12_share_48 : decode J_X12_share.2.1 48 = .ok (.ifCond .eq 14, 3) := by decide +kernel
theorem d_X12_share_51 : decode J_X12_share.2.1 51 = .ok (.iload 4, 2) := by decide +kernel
theorem d_X12_share_53 : decode J_X12_share.2.1 53 = .ok (.i2l, 1) := by decide +kernel
theorem d_X12_share_54 : decode J_X12_share.2.1 54 = .ok (.lconst 0, 1) := by decide +kernel
theorem d_X12_share_55 : decode J_X12_share.2.1 55 = .ok (.lconst 1, 1) := by decide +kernel
theorem d_X12_share_56 : decode J_X12_share.2.1 56 = .ok (.invokestatic 145, 3) := by decide +kernel
theorem d_X12_share_59 : decode J_X12_share.2.1 59 = .ok (.ifCond .ne 5, 3) := by decide +kernel
theorem d_X12_share_62 : decode J_X12_share.2.1 62 = .ok (.iconst (-1), 1) := by decide +kernel
theorem d_X12_share_63 : decode J_X12_share.2.1 63 = .ok (.ireturn, 1) := by decide +kernel
theorem d_X12_share_64 : decode J_X12_share.2.1 64 = .ok (.aload_n 0, 1) := by decide +kernel
theorem d_X12_share_65 : decode J_X12_share.2.1 65 = .ok (.iload_n 1, 1) := by decide +kernel
theorem d_X12_share_66 : decode J_X12_share.2.1 66 = .ok (.bipush 100, 2) := by decide +kernel
theorem d_X12_share_68 : decode J_X12_share.2.1 68 = .ok (.idiv, 1) := by decide +kernel
theorem d_X12_share_69 : decode J_X12_share.2.1 69 = .ok (.invokevirtual 275, 3) := by decide +kernel
theorem d_X12_share_72 : decode J_X12_share.2.1 72 = .ok (.aload_n 0, 1) := by decide +kernel
theorem d_X12_share_73 : decode J_X12_share.2.1 73 = .ok (.iload_n 2, 1) := by decide +kernel
theorem d_X12_share_74 : decode J_X12_share.2.1 74 = .ok (.invokevirtual 286, 3) := by decide +kernel
theorem d_X12_share_77 : decode J_X12_share.2.1 77 = .ok (.invokestatic 327, 3) := by decide +kernel
theorem d_X12_share_80 : decode J_X12_share.2.1 80 = .ok (.istore 5, 2) := by decide +kernel
theorem d_X12_share_82 : decode J_X12_share.2.1 82 = .ok (.aload_n 0, 1) := by decide +kernel
theorem d_X12_share_83 : decode J_X12_share.2.1 83 = .ok (.iload_n 1, 1) := by decide +kernel
theorem d_X12_share_84 : decode J_X12_share.2.1 84 = .ok (.bipush 100, 2) := by decide +kernel
theorem d_X12_share_86 : decode J_X12_share.2.1 86 = .ok (.irem, 1) := by decide +kernel
theorem d_X12_share_87 : decode J_X12_share.2.1 87 = .ok (.invokevirtual 275, 3) := by decide +kernel
theorem d_X12_share_90 : decode J_X12_share.2.1 90 = .ok (.aload_n 0, 1) := by decide +kernel
theorem d_X12_share_91 : decode J_X12_share.2.1 91 = .ok (.iload_n 2, 1) := by decide +kernel
theorem d_X12_share_92 : decode J_X12_share.2.1 92 = .ok (.invokevirtual 286, 3) := by decide +kernel
theorem d_X12_share_95 : decode J_X12_share.2.1 95 = .ok (.invokestatic 327, 3) := by decide +kernel
theorem d_X12_share_98 : decode J_X12_share.2.1 98 = .ok (.istore 6, 2) := by decide +kernel
theorem d_X12_share_100 : decode J_X12_share.2.1 100 = .ok (.iconst 0, 1) := by decide +kernel
theorem d_X12_share_101 : decode J_X12_share.2.1 101 = .ok (.istore 7, 2) := by decide +kernel
theorem d_X12_share_103 : decode J_X12_share.2.1 103 = .ok (.iconst 0, 1) := by decide +kernel
theorem d_X12_share_104 : decode J_X12_share.2.1 104 = .ok (.istore 8, 2) := by decide +kernel
theorem d_X12_share_106 : decode J_X12_share.2.1 106 = .ok (.iconst 0, 1) := by decide +kernel
theorem d_X12_share_107 : decode J_X12_share.2.1 107 = .ok (.istore 9, 2) := by decide +kernel
theorem d_X12_share_109 : decode J_X12_share.2.1 109 = .ok (.iload 9, 2) := by decide +kernel
theorem d_X12_share_111 : decode J_X12_share.2.1 111 = .ok (.iload 5, 2) := by decide +kernel
theorem d_X12_share_113 : decode J_X12_share.2.1 113 = .ok (.if_icmp .gt 122, 3) := by decide +kernel
theorem d_X12_share_116 : decode J_X12_share.2.1 116 = .ok (.iload 9, 2) := by decide +kernel
theorem d_X12_share_118 : decode J_X12_share.2.1 118 = .ok (.iload_n 3, 1) := by decide +kernel
theorem d_X12_share_119 : decode J_X12_share.2.1 119 = .ok (.if_icmp .gt 116, 3) := by decide +kernel
theorem d_X12_share_122 : decode J_X12_share.2.1 122 = .ok (.iload 6, 2) := by decide +kernel
theorem d_X12_share_124 : decode J_X12_share.2.1 124 = .ok (.iload_n 3, 1) := by decide +kernel
theorem d_X12_share_125 : decode J_X12_share.2.1 125 = .ok (.iload 9, 2) := by decide +kernel
theorem d_X12_share_127 : decode J_X12_share.2.1 127 = .ok (.isub, 1) := by decide +kernel
theorem d_X12_share_128 : decode J_X12_share.2.1 128 = .ok (.if_icmp .ge 8, 3) := by decide +kernel
theorem d_X12_share_131 : decode J_X12_share.2.1 131 = .ok (.iload 6, 2) := by decide +kernel
theorem d_X12_share_133 : decode J_X12_share.2.1 133 = .ok (.goto 7, 3) := by decide +kernel
theorem d_X12_share_136 : decode J_X12_share.2.1 136 = .ok (.iload_n 3, 1) := by decide +kernel
theorem d_X12_share_137 : decode J_X12_share.2.1 137 = .ok (.iload 9, 2) := by decide +kernel
theorem d_X12_share_139 : decode J_X12_share.2.1 139 = .ok (.isub, 1) := by decide +kernel
theorem d_X12_share_140 : decode J_X12_share.2.1 140 = .ok (.istore 10, 2) := by decide +kernel
theorem d_X12_share_142 : decode J_X12_share.2.1 142 = .ok (.iload 9, 2) := by decide +kernel
theorem d_X12_share_144 : decode J_X12_share.2.1 144 = .ok (.iload 10, 2) := by decide +kernel
theorem d_X12_share_146 : decode J_X12_share.2.1 146 = .ok (.if_icmp .ge 8, 3) := by decide +kernel
theorem d_X12_share_149 : decode J_X12_share.2.1 149 = .ok (.iload 9, 2) := by decide +kernel
theorem d_X12_share_151 : decode J_X12_share.2.1 151 = .ok (.goto 5, 3) := by decide +kernel
theorem d_X12_share_154 : decode J_X12_share.2.1 154 = .ok (.iload 10, 2) := by decide +kernel
theorem d_X12_share_156 : decode J_X12_share.2.1 156 = .ok (.istore 11, 2) := by decide +kernel
theorem d_X12_share_158 : decode J_X12_share.2.1 158 = .ok (.iload 7, 2) := by decide +kernel
theorem d_X12_share_160 : decode J_X12_share.2.1 160 = .ok (.iload 8, 2) := by decide +kernel
theorem d_X12_share_162 : decode J_X12_share.2.1 162 = .ok (.if_icmp .ge 8, 3) := by decide +kernel
theorem d_X12_share_165 : decode J_X12_share.2.1 165 = .ok (.iload 7, 2) := by decide +kernel
theorem d_X12_share_167 : decode J_X12_share.2.1 167 = .ok (.goto 5, 3) := by decide +kernel
theorem d_X12_share_170 : decode J_X12_share.2.1 170 = .ok (.iload 8, 2) := by decide +kernel
theorem d_X12_share_172 : decode J_X12_share.2.1 172 = .ok (.istore 12, 2) := by decide +kernel
theorem d_X12_share_174 : decode J_X12_share.2.1 174 = .ok (.iload 11, 2) := by decide +kernel
theorem d_X12_share_176 : decode J_X12_share.2.1 176 = .ok (.iload 12, 2) := by decide +kernel
theorem d_X12_share_178 : decode J_X12_share.2.1 178 = .ok (.if_icmp .gt 43, 3) := by decide +kernel
theorem d_X12_share_181 : decode J_X12_share.2.1 181 = .ok (.iload 11, 2) := by decide +kernel
theorem d_X12_share_183 : decode J_X12_share.2.1 183 = .ok (.iload 12, 2) := by decide +kernel
theorem d_X12_share_185 : decode J_X12_share.2.1 185 = .ok (.if_icmp .ne 44, 3) := by decide +kernel
theorem d_X12_share_188 : decode J_X12_share.2.1 188 = .ok (.iload 9, 2) := by decide +kernel
theorem d_X12_share_190 : decode J_X12_share.2.1 190 = .ok (.iload 10, 2) := by decide +kernel
theorem d_X12_share_192 : decode J_X12_share.2.1 192 = .ok (.iadd, 1) := by decide +kernel
theorem d_X12_share_193 : decode J_X12_share.2.1 193 = .ok (.iload 7, 2) := by decide +kernel
theorem d_X12_share_195 : decode J_X12_share.2.1 195 = .ok (.iload 8, 2) := by decide +kernel
theorem d_X12_share_197 : decode J_X12_share.2.1 197 = .ok (.iadd, 1) := by decide +kernel
theorem d_X12_share_198 : decode J_X12_share.2.1 198 = .ok (.if_icmp .gt 23, 3) := by decide +kernel
theorem d_X12_share_201 : decode J_X12_share.2.1 201 = .ok (.iload 9, 2) := by decide +kernel
theorem d_X12_share_203 : decode J_X12_share.2.1 203 = .ok (.iload 10, 2) := by decide +kernel
theorem d_X12_share_205 : decode J_X12_share.2.1 205 = .ok (.iadd, 1) := by decide +kernel
theorem d_X12_share_206 : decode J_X12_share.2.1 206 = .ok (.iload 7, 2) := by decide +kernel
theorem d_X12_share_208 : decode J_X12_share.2.1 208 = .ok (.iload 8, 2) := by decide +kernel
theorem d_X12_share_210 : decode J_X12_share.2.1 210 = .ok (.iadd, 1) := by decide +kernel
theorem d_X12_share_211 : decode J_X12_share.2.1 211 = .ok (.if_icmp .ne 18, 3) := by decide +kernel
theorem d_X12_share_214 : decode J_X12_share.2.1 214 = .ok (.iload 9, 2) := by decide +kernel
theorem d_X12_share_216 : decode J_X12_share.2.1 216 = .ok (.iload 7, 2) := by decide +kernel
theorem d_X12_share_218 : decode J_X12_share.2.1 218 = .ok (.if_icmp .le 11, 3) := by decide +kernel
theorem d_X12_share_221 : decode J_X12_share.2.1 221 = .ok (.iload 9, 2) := by decide +kernel
theorem d_X12_share_223 : decode J_X12_share.2.1 223 = .ok (.istore 7, 2) := by decide +kernel
theorem d_X12_share_225 : decode J_X12_share.2.1 225 = .ok (.iload 10, 2) := by decide +kernel
theorem d_X12_share_227 : decode J_X12_share.2.1 227 = .ok (.istore 8, 2) := by decide +kernel
theorem d_X12_share_229 : decode J_X12_share.2.1 229 = .ok (.iinc 9 1, 3) := by decide +kernel
theorem d_X12_share_232 : decode J_X12_share.2.1 232 = .ok (.goto (-123), 3) := by decide +kernel
theorem d_X12_share_235 : decode J_X12_share.2.1 235 = .ok (.iload 4, 2) := by decide +kernel
theorem d_X12_share_237 : decode J_X12_share.2.1 237 = .ok (.ifCond .ne 8, 3) := by decide +kernel
theorem d_X12_share_240 : decode J_X12_share.2.1 240 = .ok (.iload 7, 2) := by decide +kernel
theorem d_X12_share_242 : decode J_X12_share.2.1 242 = .ok (.goto 5, 3) := by decide +kernel
theorem d_X12_share_245 : decode J_X12_share.2.1 245 = .ok (.iload 8, 2) := by decide +kernel
theorem d_X12_share_247 : decode J_X12_share.2.1 247 = .ok (.ireturn, 1) := by decide +kernel
def f_X12_share_235 (N : Nat) (K : oK)  (p4 : Int32) (p7 : Int32) (p8 : Int32) (M : oM) : Option (Int32 × oM) :=
  (if p4 = 0 then some (p7, M) else some (p8, M))
set_option maxRecDepth 20000 in
theorem v_X12_share_235 {X : oX} {d N : Nat} {K : oK}  {p4 : Int32} {p7 : Int32} {p8 : Int32} {M : oM} {v : Int32} {M' : oM}  (hd : 6 ≤ d) (hK : oSR K)   (h : f_X12_share_235 N K  p4 p7 p8 M = some (v, M')) : oEv X d J_X12_share 235 [none, none, none, none, some (.int p4), none, none, some (.int p7), some (.int p8), none, none, none, none] [] K M (some (.int v)) K M' := by
  unfold f_X12_share_235 at h
  refine oe_iload (pc := 235) d_X12_share_235 rfl ?_
  refine oe_if_ne (pc := 237) (tgt := 245) d_X12_share_237 (by decide) (fun c37 => ?_) (fun c37 => ?_)
  · replace h := (if_neg c37).symm.trans h
    refine oe_iload (pc := 245) d_X12_share_245 rfl ?_
    obtain ⟨rfl, rfl⟩ := oRes h
    exact oe_iret (pc := 247) d_X12_share_247 ⟨_, rfl, rfl⟩
  · replace h := (if_pos c37).symm.trans h
    refine oe_iload (pc := 240) d_X12_share_240 rfl ?_
    refine oe_goto (pc := 242) (tgt := 247) d_X12_share_242 (by decide) ?_
    obtain ⟨rfl, rfl⟩ := oRes h
    exact oe_iret (pc := 247) d_X12_share_247 ⟨_, rfl, rfl⟩
def f_X12_share_229 (N : Nat) (K : oK) (r109 : (Int32 → Int32 → Int32 → Int32 → Int32 → Int32 → Int32 → oM → Option (Int32 × oM))) (p3 : Int32) (p4 : Int32) (p5 : Int32) (p6 : Int32) (p7 : Int32) (p8 : Int32) (p9 : Int32) (M : oM) : Option (Int32 × oM) :=
  (r109 p3 p4 p5 p6 p7 p8 (p9 + 1) M)
set_option maxRecDepth 20000 in
theorem v_X12_share_229 {X : oX} {d N : Nat} {K : oK} {r109 : (Int32 → Int32 → Int32 → Int32 → Int32 → Int32 → Int32 → oM → Option (Int32 × oM))} {p3 : Int32} {p4 : Int32} {p5 : Int32} {p6 : Int32} {p7 : Int32} {p8 : Int32} {p9 : Int32} {M : oM} {v : Int32} {M' : oM}  (hd : 6 ≤ d) (hK : oSR K)  (hr109 : ∀ (p3 : Int32) (p4 : Int32) (p5 : Int32) (p6 : Int32) (p7 : Int32) (p8 : Int32) (p9 : Int32) (M : oM) (v : Int32) (M' : oM) , r109 p3 p4 p5 p6 p7 p8 p9 M = some (v, M') → oEv X d J_X12_share 109 [none, none, none, some (.int p3), some (.int p4), some (.int p5), some (.int p6), some (.int p7), some (.int p8), some (.int p9), none, none, none] [] K M (some (.int v)) K M') (h : f_X12_share_229 N K r109 p3 p4 p5 p6 p7 p8 p9 M = some (v, M')) : oEv X d J_X12_share 229 [none, none, none, some (.int p3), some (.int p4), some (.int p5), some (.int p6), some (.int p7), some (.int p8), some (.int p9), none, none, none] [] K M (some (.int v)) K M' := by
  unfold f_X12_share_229 at h
  refine oe_iinc (pc := 229) (v := (p9 + 1)) (L2 := [_, _, _, _, _, _, _, _, _, _, _, _, _]) d_X12_share_229 rfl rfl rfl (Nat.le_of_ble_eq_true rfl) rfl ?_
  refine oe_goto (pc := 232) (tgt := 109) d_X12_share_232 (by decide) ?_
  exact hr109 _ _ _ _ _ _ _ _ _ _ h
def f_X12_share_221 (N : Nat) (K : oK) (r109 : (Int32 → Int32 → Int32 → Int32 → Int32 → Int32 → Int32 → oM → Option (Int32 × oM))) (p3 : Int32) (p4 : Int32) (p5 : Int32) (p6 : Int32) (p9 : Int32) (p10 : Int32) (M : oM) : Option (Int32 × oM) :=
  (f_X12_share_229 N K r109 p3 p4 p5 p6 p9 p10 p9 M)
set_option maxRecDepth 20000 in
theorem v_X12_share_221 {X : oX} {d N : Nat} {K : oK} {r109 : (Int32 → Int32 → Int32 → Int32 → Int32 → Int32 → Int32 → oM → Option (Int32 × oM))} {p3 : Int32} {p4 : Int32} {p5 : Int32} {p6 : Int32} {p9 : Int32} {p10 : Int32} {M : oM} {v : Int32} {M' : oM}  (hd : 6 ≤ d) (hK : oSR K)  (hr109 : ∀ (p3 : Int32) (p4 : Int32) (p5 : Int32) (p6 : Int32) (p7 : Int32) (p8 : Int32) (p9 : Int32) (M : oM) (v : Int32) (M' : oM) , r109 p3 p4 p5 p6 p7 p8 p9 M = some (v, M') → oEv X d J_X12_share 109 [none, none, none, some (.int p3), some (.int p4), some (.int p5), some (.int p6), some (.int p7), some (.int p8), some (.int p9), none, none, none] [] K M (some (.int v)) K M') (h : f_X12_share_221 N K r109 p3 p4 p5 p6 p9 p10 M = some (v, M')) : oEv X d J_X12_share 221 [none, none, none, some (.int p3), some (.int p4), some (.int p5), some (.int p6), none, none, some (.int p9), some (.int p10), none, none] [] K M (some (.int v)) K M' := by
  unfold f_X12_share_221 at h
  refine oe_iload (pc := 221) d_X12_share_221 rfl ?_
  refine oe_istore (pc := 223) (L2 := [_, _, _, _, _, _, _, _, _, _, _, _, _]) d_X12_share_223 rfl (Nat.le_of_ble_eq_true rfl) rfl ?_
  refine oe_iload (pc := 225) d_X12_share_225 rfl ?_
  refine oe_istore (pc := 227) (L2 := [_, _, _, _, _, _, _, _, _, _, _, _, _]) d_X12_share_227 rfl (Nat.le_of_ble_eq_true rfl) rfl ?_
  refine oEv.fg [false, false, false, true, true, true, true, true, true, true, false, false, false] ?_
  exact v_X12_share_229 hd hK  hr109 h
def f_X12_share_172 (N : Nat) (K : oK) (r109 : (Int32 → Int32 → Int32 → Int32 → Int32 → Int32 → Int32 → oM → Option (Int32 × oM))) (p3 : Int32) (p4 : Int32) (p5 : Int32) (p6 : Int32) (p7 : Int32) (p8 : Int32) (p9 : Int32) (p10 : Int32) (p11 : Int32) (s0 : Int32) (M : oM) : Option (Int32 × oM) :=
  (if s0 < p11 then (f_X12_share_221 N K r109 p3 p4 p5 p6 p9 p10 M) else (if p11 = s0 then (if (p7 + p8) < (p9 + p10) then (f_X12_share_221 N K r109 p3 p4 p5 p6 p9 p10 M) else (if (p9 + p10) = (p7 + p8) then (if p9 ≤ p7 then (f_X12_share_229 N K r109 p3 p4 p5 p6 p7 p8 p9 M) else (f_X12_share_221 N K r109 p3 p4 p5 p6 p9 p10 M)) else (f_X12_share_229 N K r109 p3 p4 p5 p6 p7 p8 p9 M))) else (f_X12_share_229 N K r109 p3 p4 p5 p6 p7 p8 p9 M)))
set_option maxRecDepth 20000 in
theorem v_X12_share_172 {X : oX} {d N : Nat} {K : oK} {r109 : (Int32 → Int32 → Int32 → Int32 → Int32 → Int32 → Int32 → oM → Option (Int32 × oM))} {p3 : Int32} {p4 : Int32} {p5 : Int32} {p6 : Int32} {p7 : Int32} {p8 : Int32} {p9 : Int32} {p10 : Int32} {p11 : Int32} {s0 : Int32} {M : oM} {v : Int32} {M' : oM}  (hd : 6 ≤ d) (hK : oSR K)  (hr109 : ∀ (p3 : Int32) (p4 : Int32) (p5 : Int32) (p6 : Int32) (p7 : Int32) (p8 : Int32) (p9 : Int32) (M : oM) (v : Int32) (M' : oM) , r109 p3 p4 p5 p6 p7 p8 p9 M = some (v, M') → oEv X d J_X12_share 109 [none, none, none, some (.int p3), some (.int p4), some (.int p5), some (.int p6), some (.int p7), some (.int p8), some (.int p9), none, none, none] [] K M (some (.int v)) K M') (h : f_X12_share_172 N K r109 p3 p4 p5 p6 p7 p8 p9 p10 p11 s0 M = some (v, M')) : oEv X d J_X12_share 172 [none, none, none, some (.int p3), some (.int p4), some (.int p5), some (.int p6), some (.int p7), some (.int p8), some (.int p9), some (.int p10), some (.int p11), none] [(.int s0)] K M (some (.int v)) K M' := by
  unfold f_X12_share_172 at h
  refine oe_istore (pc := 172) (L2 := [_, _, _, _, _, _, _, _, _, _, _, _, _]) d_X12_share_172 rfl (Nat.le_of_ble_eq_true rfl) rfl ?_
  refine oe_iload (pc := 174) d_X12_share_174 rfl ?_
  refine oe_iload (pc := 176) d_X12_share_176 rfl ?_
  refine oe_icmp_gt (pc := 178) (tgt := 221) d_X12_share_178 (by decide) (fun c42 => ?_) (fun c42 => ?_)
  · replace h := (if_pos c42).symm.trans h
    refine oEv.fg [false, false, false, true, true, true, true, false, false, true, true, false, false] ?_
    exact v_X12_share_221 hd hK  hr109 h
  · replace h := (if_neg c42).symm.trans h
    refine oe_iload (pc := 181) d_X12_share_181 rfl ?_
    refine oe_iload (pc := 183) d_X12_share_183 rfl ?_
    refine oe_icmp_ne (pc := 185) (tgt := 229) d_X12_share_185 (by decide) (fun c43 => ?_) (fun c43 => ?_)
    · replace h := (if_neg c43).symm.trans h
      refine oEv.fg [false, false, false, true, true, true, true, true, true, true, false, false, false] ?_
      exact v_X12_share_229 hd hK  hr109 h
    · replace h := (if_pos c43).symm.trans h
      refine oe_iload (pc := 188) d_X12_share_188 rfl ?_
      refine oe_iload (pc := 190) d_X12_share_190 rfl ?_
      refine oe_iadd (pc := 192) d_X12_share_192 ?_
      refine oe_iload (pc := 193) d_X12_share_193 rfl ?_
      refine oe_iload (pc := 195) d_X12_share_195 rfl ?_
      refine oe_iadd (pc := 197) d_X12_share_197 ?_
      refine oe_icmp_gt (pc := 198) (tgt := 221) d_X12_share_198 (by decide) (fun c44 => ?_) (fun c44 => ?_)
      · replace h := (if_pos c44).symm.trans h
        refine oEv.fg [false, false, false, true, true, true, true, false, false, true, true, false, false] ?_
        exact v_X12_share_221 hd hK  hr109 h
      · replace h := (if_neg c44).symm.trans h
        refine oe_iload (pc := 201) d_X12_share_201 rfl ?_
        refine oe_iload (pc := 203) d_X12_share_203 rfl ?_
        refine oe_iadd (pc := 205) d_X12_share_205 ?_
        refine oe_iload (pc := 206) d_X12_share_206 rfl ?_
        refine oe_iload (pc := 208) d_X12_share_208 rfl ?_
        refine oe_iadd (pc := 210) d_X12_share_210 ?_
        refine oe_icmp_ne (pc := 211) (tgt := 229) d_X12_share_211 (by decide) (fun c45 => ?_) (fun c45 => ?_)
        · replace h := (if_neg c45).symm.trans h
          refine oEv.fg [false, false, false, true, true, true, true, true, true, true, false, false, false] ?_
          exact v_X12_share_229 hd hK  hr109 h
        · replace h := (if_pos c45).symm.trans h
          refine oe_iload (pc := 214) d_X12_share_214 rfl ?_
          refine oe_iload (pc := 216) d_X12_share_216 rfl ?_
          refine oe_icmp_le (pc := 218) (tgt := 229) d_X12_share_218 (by decide) (fun c46 => ?_) (fun c46 => ?_)
          · replace h := (if_pos c46).symm.trans h
            refine oEv.fg [false, false, false, true, true, true, true, true, true, true, false, false, false] ?_
            exact v_X12_share_229 hd hK  hr109 h
          · replace h := (if_neg c46).symm.trans h
            refine oEv.fg [false, false, false, true, true, true, true, false, false, true, true, false, false] ?_
            exact v_X12_share_221 hd hK  hr109 h
def f_X12_share_156 (N : Nat) (K : oK) (r109 : (Int32 → Int32 → Int32 → Int32 → Int32 → Int32 → Int32 → oM → Option (Int32 × oM))) (p3 : Int32) (p4 : Int32) (p5 : Int32) (p6 : Int32) (p7 : Int32) (p8 : Int32) (p9 : Int32) (p10 : Int32) (s0 : Int32) (M : oM) : Option (Int32 × oM) :=
  (if p8 ≤ p7 then (f_X12_share_172 N K r109 p3 p4 p5 p6 p7 p8 p9 p10 s0 p8 M) else (f_X12_share_172 N K r109 p3 p4 p5 p6 p7 p8 p9 p10 s0 p7 M))
set_option maxRecDepth 20000 in
theorem v_X12_share_156 {X : oX} {d N : Nat} {K : oK} {r109 : (Int32 → Int32 → Int32 → Int32 → Int32 → Int32 → Int32 → oM → Option (Int32 × oM))} {p3 : Int32} {p4 : Int32} {p5 : Int32} {p6 : Int32} {p7 : Int32} {p8 : Int32} {p9 : Int32} {p10 : Int32} {s0 : Int32} {M : oM} {v : Int32} {M' : oM}  (hd : 6 ≤ d) (hK : oSR K)  (hr109 : ∀ (p3 : Int32) (p4 : Int32) (p5 : Int32) (p6 : Int32) (p7 : Int32) (p8 : Int32) (p9 : Int32) (M : oM) (v : Int32) (M' : oM) , r109 p3 p4 p5 p6 p7 p8 p9 M = some (v, M') → oEv X d J_X12_share 109 [none, none, none, some (.int p3), some (.int p4), some (.int p5), some (.int p6), some (.int p7), some (.int p8), some (.int p9), none, none, none] [] K M (some (.int v)) K M') (h : f_X12_share_156 N K r109 p3 p4 p5 p6 p7 p8 p9 p10 s0 M = some (v, M')) : oEv X d J_X12_share 156 [none, none, none, some (.int p3), some (.int p4), some (.int p5), some (.int p6), some (.int p7), some (.int p8), some (.int p9), some (.int p10), none, none] [(.int s0)] K M (some (.int v)) K M' := by
  unfold f_X12_share_156 at h
  refine oe_istore (pc := 156) (L2 := [_, _, _, _, _, _, _, _, _, _, _, _, _]) d_X12_share_156 rfl (Nat.le_of_ble_eq_true rfl) rfl ?_
  refine oe_iload (pc := 158) d_X12_share_158 rfl ?_
  refine oe_iload (pc := 160) d_X12_share_160 rfl ?_
  refine oe_icmp_ge (pc := 162) (tgt := 170) d_X12_share_162 (by decide) (fun c41 => ?_) (fun c41 => ?_)
  · replace h := (if_pos c41).symm.trans h
    refine oe_iload (pc := 170) d_X12_share_170 rfl ?_
    exact v_X12_share_172 hd hK  hr109 h
  · replace h := (if_neg c41).symm.trans h
    refine oe_iload (pc := 165) d_X12_share_165 rfl ?_
    refine oe_goto (pc := 167) (tgt := 172) d_X12_share_167 (by decide) ?_
    exact v_X12_share_172 hd hK  hr109 h
def f_X12_share_140 (N : Nat) (K : oK) (r109 : (Int32 → Int32 → Int32 → Int32 → Int32 → Int32 → Int32 → oM → Option (Int32 × oM))) (p3 : Int32) (p4 : Int32) (p5 : Int32) (p6 : Int32) (p7 : Int32) (p8 : Int32) (p9 : Int32) (s0 : Int32) (M : oM) : Option (Int32 × oM) :=
  (if s0 ≤ p9 then (f_X12_share_156 N K r109 p3 p4 p5 p6 p7 p8 p9 s0 s0 M) else (f_X12_share_156 N K r109 p3 p4 p5 p6 p7 p8 p9 s0 p9 M))
set_option maxRecDepth 20000 in
theorem v_X12_share_140 {X : oX} {d N : Nat} {K : oK} {r109 : (Int32 → Int32 → Int32 → Int32 → Int32 → Int32 → Int32 → oM → Option (Int32 × oM))} {p3 : Int32} {p4 : Int32} {p5 : Int32} {p6 : Int32} {p7 : Int32} {p8 : Int32} {p9 : Int32} {s0 : Int32} {M : oM} {v : Int32} {M' : oM}  (hd : 6 ≤ d) (hK : oSR K)  (hr109 : ∀ (p3 : Int32) (p4 : Int32) (p5 : Int32) (p6 : Int32) (p7 : Int32) (p8 : Int32) (p9 : Int32) (M : oM) (v : Int32) (M' : oM) , r109 p3 p4 p5 p6 p7 p8 p9 M = some (v, M') → oEv X d J_X12_share 109 [none, none, none, some (.int p3), some (.int p4), some (.int p5), some (.int p6), some (.int p7), some (.int p8), some (.int p9), none, none, none] [] K M (some (.int v)) K M') (h : f_X12_share_140 N K r109 p3 p4 p5 p6 p7 p8 p9 s0 M = some (v, M')) : oEv X d J_X12_share 140 [none, none, none, some (.int p3), some (.int p4), some (.int p5), some (.int p6), some (.int p7), some (.int p8), some (.int p9), none, none, none] [(.int s0)] K M (some (.int v)) K M' := by
  unfold f_X12_share_140 at h
  refine oe_istore (pc := 140) (L2 := [_, _, _, _, _, _, _, _, _, _, _, _, _]) d_X12_share_140 rfl (Nat.le_of_ble_eq_true rfl) rfl ?_
  refine oe_iload (pc := 142) d_X12_share_142 rfl ?_
  refine oe_iload (pc := 144) d_X12_share_144 rfl ?_
  refine oe_icmp_ge (pc := 146) (tgt := 154) d_X12_share_146 (by decide) (fun c40 => ?_) (fun c40 => ?_)
  · replace h := (if_pos c40).symm.trans h
    refine oe_iload (pc := 154) d_X12_share_154 rfl ?_
    exact v_X12_share_156 hd hK  hr109 h
  · replace h := (if_neg c40).symm.trans h
    refine oe_iload (pc := 149) d_X12_share_149 rfl ?_
    refine oe_goto (pc := 151) (tgt := 156) d_X12_share_151 (by decide) ?_
    exact v_X12_share_156 hd hK  hr109 h
def f_X12_share_109 (N : Nat) (K : oK)  : Nat → Int32 → Int32 → Int32 → Int32 → Int32 → Int32 → Int32 → oM → Option (Int32 × oM)
  | 0, _, _, _, _, _, _, _, _ => none
  | n + 1, p3, p4, p5, p6, p7, p8, p9, M => (fun r109 => (if p5 < p9 then (f_X12_share_235 N K  p4 p7 p8 M) else (if p3 < p9 then (f_X12_share_235 N K  p4 p7 p8 M) else (if (p3 - p9) ≤ p6 then (f_X12_share_140 N K r109 p3 p4 p5 p6 p7 p8 p9 (p3 - p9) M) else (f_X12_share_140 N K r109 p3 p4 p5 p6 p7 p8 p9 p6 M))))) (f_X12_share_109 N K  n)
set_option maxRecDepth 20000 in
theorem v_X12_share_109_L {X : oX} {d N : Nat} {K : oK}  (hd : 6 ≤ d) (hK : oSR K)  : ∀ (n : Nat) (p3 : Int32) (p4 : Int32) (p5 : Int32) (p6 : Int32) (p7 : Int32) (p8 : Int32) (p9 : Int32) (M : oM) (v : Int32) (M' : oM)  , f_X12_share_109 N K  n p3 p4 p5 p6 p7 p8 p9 M = some (v, M') → oEv X d J_X12_share 109 [none, none, none, some (.int p3), some (.int p4), some (.int p5), some (.int p6), some (.int p7), some (.int p8), some (.int p9), none, none, none] [] K M (some (.int v)) K M' := by
  intro n
  induction n with
  | zero =>
    intro p3 p4 p5 p6 p7 p8 p9 M v M'   h
    cases h
  | succ n hr109 =>
    intro p3 p4 p5 p6 p7 p8 p9 M v M'   h
    refine oe_iload (pc := 109) d_X12_share_109 rfl ?_
    refine oe_iload (pc := 111) d_X12_share_111 rfl ?_
    refine oe_icmp_gt (pc := 113) (tgt := 235) d_X12_share_113 (by decide) (fun c36 => ?_) (fun c36 => ?_)
    · replace h := (if_pos c36).symm.trans h
      refine oEv.fg [false, false, false, false, true, false, false, true, true, false, false, false, false] ?_
      exact v_X12_share_235 hd hK   h
    · replace h := (if_neg c36).symm.trans h
      refine oe_iload (pc := 116) d_X12_share_116 rfl ?_
      refine oe_iload_n (pc := 118) d_X12_share_118 rfl ?_
      refine oe_icmp_gt (pc := 119) (tgt := 235) d_X12_share_119 (by decide) (fun c38 => ?_) (fun c38 => ?_)
      · replace h := (if_pos c38).symm.trans h
        refine oEv.fg [false, false, false, false, true, false, false, true, true, false, false, false, false] ?_
        exact v_X12_share_235 hd hK   h
      · replace h := (if_neg c38).symm.trans h
        refine oe_iload (pc := 122) d_X12_share_122 rfl ?_
        refine oe_iload_n (pc := 124) d_X12_share_124 rfl ?_
        refine oe_iload (pc := 125) d_X12_share_125 rfl ?_
        refine oe_isub (pc := 127) d_X12_share_127 ?_
        refine oe_icmp_ge (pc := 128) (tgt := 136) d_X12_share_128 (by decide) (fun c39 => ?_) (fun c39 => ?_)
        · replace h := (if_pos c39).symm.trans h
          refine oe_iload_n (pc := 136) d_X12_share_136 rfl ?_
          refine oe_iload (pc := 137) d_X12_share_137 rfl ?_
          refine oe_isub (pc := 139) d_X12_share_139 ?_
          exact v_X12_share_140 hd hK  hr109 h
        · replace h := (if_neg c39).symm.trans h
          refine oe_iload (pc := 131) d_X12_share_131 rfl ?_
          refine oe_goto (pc := 133) (tgt := 140) d_X12_share_133 (by decide) ?_
          exact v_X12_share_140 hd hK  hr109 h
theorem v_X12_share_109 {X : oX} {d N : Nat} {K : oK}  {p3 : Int32} {p4 : Int32} {p5 : Int32} {p6 : Int32} {p7 : Int32} {p8 : Int32} {p9 : Int32} {M : oM} {v : Int32} {M' : oM}  (hd : 6 ≤ d) (hK : oSR K)   (h : f_X12_share_109 N K  N p3 p4 p5 p6 p7 p8 p9 M = some (v, M')) : oEv X d J_X12_share 109 [none, none, none, some (.int p3), some (.int p4), some (.int p5), some (.int p6), some (.int p7), some (.int p8), some (.int p9), none, none, none] [] K M (some (.int v)) K M' := v_X12_share_109_L hd hK  N p3 p4 p5 p6 p7 p8 p9 M v M'   h
def f_X12_share (N : Nat) (K : oK) (p1 : Int32) (p2 : Int32) (p3 : Int32) (p4 : Int32) (M : oM) : Option (Int32 × oM) :=
  (if p1 < 0 then some ((-1), M) else oB2 (f_X12_isLaying N K (p1 / 100) M) (fun v2 M3 => cond v2 (oB2 (f_X12_isLaying N K (p1 - p1 / 100 * 100) M3) (fun v5 M6 => cond v5 ((if (p1 / 100) = (p1 - p1 / 100 * 100) then some ((-1), M6) else oB2 (f_X12_isNeed N K p2 M6) (fun v9 M10 => cond v9 (oB2 (f_X12_isFlow N K p3 M10) (fun v12 M13 => cond v12 (oB2 (f_X12_within N K ((p4 : Int32).toInt64) 0 1 M13) (fun v15 M16 => cond v15 (oB2 (f_X12_think N K (p1 / 100) M16) (fun v18 M19 => oB2 (f_X12_flowNow N K p2 M19) (fun v21 M22 => oB2 (f_X12_orNone N K v21 M22) (fun v24 M25 => oB2 (f_X12_think N K (p1 - p1 / 100 * 100) M25) (fun v27 M28 => oB2 (f_X12_flowNow N K p2 M28) (fun v30 M31 => oB2 (f_X12_orNone N K v30 M31) (fun v33 M34 => (f_X12_share_109 N K  N p3 p4 v24 v33 0 0 0 M34)))))))) (some ((-1), M16)))) (some ((-1), M13)))) (some ((-1), M10))))) (some ((-1), M6)))) (some ((-1), M3))))
set_option maxRecDepth 20000 in
theorem v_X12_share {X : oX} {N : Nat} {K : oK} {p1 : Int32} {p2 : Int32} {p3 : Int32} {p4 : Int32} {M : oM} {v : Int32} {M' : oM} (hK : oSR K)  (h : f_X12_share N K p1 p2 p3 p4 M = some (v, M')) : oMet X 6 J_X12_share [(.ref 59), (.int p1), (.int p2), (.int p3), (.int p4)] K M (some (.int v)) K M' := by
  unfold f_X12_share at h
  refine oMet_of (L := [some (.ref 59), some (.int p1), some (.int p2), some (.int p3), some (.int p4), none, none, none, none, none, none, none, none]) jJ_X12_share.1 rfl (Nat.le_of_ble_eq_true rfl) rfl (Nat.le_refl _) (Nat.le_refl _) ?_
  have hd : 6 ≤ 6 := Nat.le_refl _
  refine oe_iload_n (pc := 0) d_X12_share_0 rfl ?_
  refine oe_if_lt (pc := 1) (tgt := 62) d_X12_share_1 (by decide) (fun c1 => ?_) (fun c1 => ?_)
  · replace h := (if_pos c1).symm.trans h
    refine oe_iconst (pc := 62) (v := (-1)) d_X12_share_62 rfl ?_
    obtain ⟨rfl, rfl⟩ := oRes h
    exact oe_iret (pc := 63) d_X12_share_63 ⟨_, rfl, rfl⟩
  · replace h := (if_neg c1).symm.trans h
    refine oe_aload_n (pc := 4) d_X12_share_4 rfl ?_
    refine oe_iload_n (pc := 5) d_X12_share_5 rfl ?_
    refine oe_bipush (pc := 6) (v := 100) d_X12_share_6 rfl ?_
    refine oe_idiv (pc := 8) d_X12_share_8 (by decide) ?_
    obtain ⟨v2, M3, q4, h⟩ := oB2_some h
    cases v2 with
    | true =>
      replace h := oCt h
      refine oe_callV (pc := 9) (ci := 12) d_X12_share_9 (v_X12_isLaying hK  q4) (by omega) ml_X12_230 jJ_X12_isLaying rfl rfl (oLt hK (a := 59) (Nat.le_of_ble_eq_true rfl)) (oSho hK (a := 59) (Nat.le_of_ble_eq_true rfl) rfl) ock12 rfl (Nat.le_of_ble_eq_true rfl) ⟨Nat.le_refl _, Nat.le_refl _⟩ ⟨Nat.le_refl _, Nat.le_refl _⟩ ?_
      refine oe_if_eq (pc := 12) (tgt := 62) d_X12_share_12 (by decide) (fun c => absurd c (by decide)) (fun _ => ?_)
      refine oe_aload_n (pc := 15) d_X12_share_15 rfl ?_
      refine oe_iload_n (pc := 16) d_X12_share_16 rfl ?_
      refine oe_bipush (pc := 17) (v := 100) d_X12_share_17 rfl ?_
      refine oe_irem (pc := 19) d_X12_share_19 (by decide) ?_
      obtain ⟨v5, M6, q7, h⟩ := oB2_some h
      cases v5 with
      | true =>
        replace h := oCt h
        refine oe_callV (pc := 20) (ci := 12) d_X12_share_20 (v_X12_isLaying hK  q7) (by omega) ml_X12_230 jJ_X12_isLaying rfl rfl (oLt hK (a := 59) (Nat.le_of_ble_eq_true rfl)) (oSho hK (a := 59) (Nat.le_of_ble_eq_true rfl) rfl) ock12 rfl (Nat.le_of_ble_eq_true rfl) ⟨Nat.le_refl _, Nat.le_refl _⟩ ⟨Nat.le_refl _, Nat.le_refl _⟩ ?_
        refine oe_if_eq (pc := 23) (tgt := 62) d_X12_share_23 (by decide) (fun c => absurd c (by decide)) (fun _ => ?_)
        refine oe_iload_n (pc := 26) d_X12_share_26 rfl ?_
        refine oe_bipush (pc := 27) (v := 100) d_X12_share_27 rfl ?_
        refine oe_idiv (pc := 29) d_X12_share_29 (by decide) ?_
        refine oe_iload_n (pc := 30) d_X12_share_30 rfl ?_
        refine oe_bipush (pc := 31) (v := 100) d_X12_share_31 rfl ?_
        refine oe_irem (pc := 33) d_X12_share_33 (by decide) ?_
        refine oe_icmp_eq (pc := 34) (tgt := 62) d_X12_share_34 (by decide) (fun c8 => ?_) (fun c8 => ?_)
        · replace h := (if_pos c8).symm.trans h
          refine oe_iconst (pc := 62) (v := (-1)) d_X12_share_62 rfl ?_
          obtain ⟨rfl, rfl⟩ := oRes h
          exact oe_iret (pc := 63) d_X12_share_63 ⟨_, rfl, rfl⟩
        · replace h := (if_neg c8).symm.trans h
          refine oe_iload_n (pc := 37) d_X12_share_37 rfl ?_
          obtain ⟨v9, M10, q11, h⟩ := oB2_some h
          cases v9 with
          | true =>
            replace h := oCt h
            refine oe_callS (pc := 38) d_X12_share_38 (v_X12_isNeed hK  q11) (by omega) ml_X12_283 jJ_X12_isNeed rfl rfl (Nat.le_of_ble_eq_true rfl) ⟨Nat.le_refl _, Nat.le_refl _⟩ ⟨Nat.le_refl _, Nat.le_refl _⟩ ?_
            refine oe_if_eq (pc := 41) (tgt := 62) d_X12_share_41 (by decide) (fun c => absurd c (by decide)) (fun _ => ?_)
            refine oe_iload_n (pc := 44) d_X12_share_44 rfl ?_
            obtain ⟨v12, M13, q14, h⟩ := oB2_some h
            cases v12 with
            | true =>
              replace h := oCt h
              refine oe_callS (pc := 45) d_X12_share_45 (v_X12_isFlow hK  q14) (by omega) ml_X12_210 jJ_X12_isFlow rfl rfl (Nat.le_of_ble_eq_true rfl) ⟨Nat.le_refl _, Nat.le_refl _⟩ ⟨Nat.le_refl _, Nat.le_refl _⟩ ?_
              refine oe_if_eq (pc := 48) (tgt := 62) d_X12_share_48 (by decide) (fun c => absurd c (by decide)) (fun _ => ?_)
              refine oe_iload (pc := 51) d_X12_share_51 rfl ?_
              refine oe_i2l (pc := 53) d_X12_share_53 ?_
              refine oe_lconst (pc := 54) (v := 0) d_X12_share_54 rfl ?_
              refine oe_lconst (pc := 55) (v := 1) d_X12_share_55 rfl ?_
              obtain ⟨v15, M16, q17, h⟩ := oB2_some h
              cases v15 with
              | true =>
                replace h := oCt h
                refine oe_callS (pc := 56) d_X12_share_56 (v_X12_within hK  q17) (by omega) ml_X12_145 jJ_X12_within rfl rfl (Nat.le_of_ble_eq_true rfl) ⟨Nat.le_refl _, Nat.le_refl _⟩ ⟨Nat.le_refl _, Nat.le_refl _⟩ ?_
                refine oe_if_ne (pc := 59) (tgt := 64) d_X12_share_59 (by decide) (fun _ => ?_) (fun c => absurd c (by decide))
                refine oe_aload_n (pc := 64) d_X12_share_64 rfl ?_
                refine oe_iload_n (pc := 65) d_X12_share_65 rfl ?_
                refine oe_bipush (pc := 66) (v := 100) d_X12_share_66 rfl ?_
                refine oe_idiv (pc := 68) d_X12_share_68 (by decide) ?_
                obtain ⟨v18, M19, q20, h⟩ := oB2_some h
                refine oe_callV (pc := 69) (ci := 12) d_X12_share_69 (v_X12_think hK  q20) (by omega) ml_X12_275 jJ_X12_think rfl rfl (oLt hK (a := 59) (Nat.le_of_ble_eq_true rfl)) (oSho hK (a := 59) (Nat.le_of_ble_eq_true rfl) rfl) ock12 rfl (Nat.le_of_ble_eq_true rfl) ⟨Nat.le_refl _, Nat.le_refl _⟩ ⟨Nat.le_refl _, Nat.le_refl _⟩ ?_
                refine oe_aload_n (pc := 72) d_X12_share_72 rfl ?_
                refine oe_iload_n (pc := 73) d_X12_share_73 rfl ?_
                obtain ⟨v21, M22, q23, h⟩ := oB2_some h
                refine oe_callV (pc := 74) (ci := 12) d_X12_share_74 (v_X12_flowNow hK  q23) (by omega) ml_X12_286 jJ_X12_flowNow rfl rfl (oLt hK (a := 59) (Nat.le_of_ble_eq_true rfl)) (oSho hK (a := 59) (Nat.le_of_ble_eq_true rfl) rfl) ock12 rfl (Nat.le_of_ble_eq_true rfl) ⟨Nat.le_refl _, Nat.le_refl _⟩ ⟨Nat.le_refl _, Nat.le_refl _⟩ ?_
                obtain ⟨v24, M25, q26, h⟩ := oB2_some h
                refine oe_callS (pc := 77) d_X12_share_77 (v_X12_orNone hK  q26) (by omega) ml_X12_327 jJ_X12_orNone rfl rfl (Nat.le_of_ble_eq_true rfl) ⟨Nat.le_refl _, Nat.le_refl _⟩ ⟨Nat.le_refl _, Nat.le_refl _⟩ ?_
                refine oe_istore (pc := 80) (L2 := [_, _, _, _, _, _, _, _, _, _, _, _, _]) d_X12_share_80 rfl (Nat.le_of_ble_eq_true rfl) rfl ?_
                refine oe_aload_n (pc := 82) d_X12_share_82 rfl ?_
                refine oe_iload_n (pc := 83) d_X12_share_83 rfl ?_
                refine oe_bipush (pc := 84) (v := 100) d_X12_share_84 rfl ?_
                refine oe_irem (pc := 86) d_X12_share_86 (by decide) ?_
                obtain ⟨v27, M28, q29, h⟩ := oB2_some h
                refine oe_callV (pc := 87) (ci := 12) d_X12_share_87 (v_X12_think hK  q29) (by omega) ml_X12_275 jJ_X12_think rfl rfl (oLt hK (a := 59) (Nat.le_of_ble_eq_true rfl)) (oSho hK (a := 59) (Nat.le_of_ble_eq_true rfl) rfl) ock12 rfl (Nat.le_of_ble_eq_true rfl) ⟨Nat.le_refl _, Nat.le_refl _⟩ ⟨Nat.le_refl _, Nat.le_refl _⟩ ?_
                refine oe_aload_n (pc := 90) d_X12_share_90 rfl ?_
                refine oe_iload_n (pc := 91) d_X12_share_91 rfl ?_
                obtain ⟨v30, M31, q32, h⟩ := oB2_some h
                refine oe_callV (pc := 92) (ci := 12) d_X12_share_92 (v_X12_flowNow hK  q32) (by omega) ml_X12_286 jJ_X12_flowNow rfl rfl (oLt hK (a := 59) (Nat.le_of_ble_eq_true rfl)) (oSho hK (a := 59) (Nat.le_of_ble_eq_true rfl) rfl) ock12 rfl (Nat.le_of_ble_eq_true rfl) ⟨Nat.le_refl _, Nat.le_refl _⟩ ⟨Nat.le_refl _, Nat.le_refl _⟩ ?_
                obtain ⟨v33, M34, q35, h⟩ := oB2_some h
                refine oe_callS (pc := 95) d_X12_share_95 (v_X12_orNone hK  q35) (by omega) ml_X12_327 jJ_X12_orNone rfl rfl (Nat.le_of_ble_eq_true rfl) ⟨Nat.le_refl _, Nat.le_refl _⟩ ⟨Nat.le_refl _, Nat.le_refl _⟩ ?_
                refine oe_istore (pc := 98) (L2 := [_, _, _, _, _, _, _, _, _, _, _, _, _]) d_X12_share_98 rfl (Nat.le_of_ble_eq_true rfl) rfl ?_
                refine oe_iconst (pc := 100) (v := 0) d_X12_share_100 rfl ?_
                refine oe_istore (pc := 101) (L2 := [_, _, _, _, _, _, _, _, _, _, _, _, _]) d_X12_share_101 rfl (Nat.le_of_ble_eq_true rfl) rfl ?_
                refine oe_iconst (pc := 103) (v := 0) d_X12_share_103 rfl ?_
                refine oe_istore (pc := 104) (L2 := [_, _, _, _, _, _, _, _, _, _, _, _, _]) d_X12_share_104 rfl (Nat.le_of_ble_eq_true rfl) rfl ?_
                refine oe_iconst (pc := 106) (v := 0) d_X12_share_106 rfl ?_
                refine oe_istore (pc := 107) (L2 := [_, _, _, _, _, _, _, _, _, _, _, _, _]) d_X12_share_107 rfl (Nat.le_of_ble_eq_true rfl) rfl ?_
                refine oEv.fg [false, false, false, true, true, true, true, true, true, true, false, false, false] ?_
                exact v_X12_share_109 hd hK   h
              | false =>
                replace h := oCf h
                refine oe_callS (pc := 56) d_X12_share_56 (v_X12_within hK  q17) (by omega) ml_X12_145 jJ_X12_within rfl rfl (Nat.le_of_ble_eq_true rfl) ⟨Nat.le_refl _, Nat.le_refl _⟩ ⟨Nat.le_refl _, Nat.le_refl _⟩ ?_
                refine oe_if_ne (pc := 59) (tgt := 64) d_X12_share_59 (by decide) (fun c => absurd (by decide) c) (fun _ => ?_)
                refine oe_iconst (pc := 62) (v := (-1)) d_X12_share_62 rfl ?_
                obtain ⟨rfl, rfl⟩ := oRes h
                exact oe_iret (pc := 63) d_X12_share_63 ⟨_, rfl, rfl⟩
            | false =>
              replace h := oCf h
              refine oe_callS (pc := 45) d_X12_share_45 (v_X12_isFlow hK  q14) (by omega) ml_X12_210 jJ_X12_isFlow rfl rfl (Nat.le_of_ble_eq_true rfl) ⟨Nat.le_refl _, Nat.le_refl _⟩ ⟨Nat.le_refl _, Nat.le_refl _⟩ ?_
              refine oe_if_eq (pc := 48) (tgt := 62) d_X12_share_48 (by decide) (fun _ => ?_) (fun c => absurd (by decide) c)
              refine oe_iconst (pc := 62) (v := (-1)) d_X12_share_62 rfl ?_
              obtain ⟨rfl, rfl⟩ := oRes h
              exact oe_iret (pc := 63) d_X12_share_63 ⟨_, rfl, rfl⟩
          | false =>
            replace h := oCf h
            refine oe_callS (pc := 38) d_X12_share_38 (v_X12_isNeed hK  q11) (by omega) ml_X12_283 jJ_X12_isNeed rfl rfl (Nat.le_of_ble_eq_true rfl) ⟨Nat.le_refl _, Nat.le_refl _⟩ ⟨Nat.le_refl _, Nat.le_refl _⟩ ?_
            refine oe_if_eq (pc := 41) (tgt := 62) d_X12_share_41 (by decide) (fun _ => ?_) (fun c => absurd (by decide) c)
            refine oe_iconst (pc := 62) (v := (-1)) d_X12_share_62 rfl ?_
            obtain ⟨rfl, rfl⟩ := oRes h
            exact oe_iret (pc := 63) d_X12_share_63 ⟨_, rfl, rfl⟩
      | false =>
        replace h := oCf h
        refine oe_callV (pc := 20) (ci := 12) d_X12_share_20 (v_X12_isLaying hK  q7) (by omega) ml_X12_230 jJ_X12_isLaying rfl rfl (oLt hK (a := 59) (Nat.le_of_ble_eq_true rfl)) (oSho hK (a := 59) (Nat.le_of_ble_eq_true rfl) rfl) ock12 rfl (Nat.le_of_ble_eq_true rfl) ⟨Nat.le_refl _, Nat.le_refl _⟩ ⟨Nat.le_refl _, Nat.le_refl _⟩ ?_
        refine oe_if_eq (pc := 23) (tgt := 62) d_X12_share_23 (by decide) (fun _ => ?_) (fun c => absurd (by decide) c)
        refine oe_iconst (pc := 62) (v := (-1)) d_X12_share_62 rfl ?_
        obtain ⟨rfl, rfl⟩ := oRes h
        exact oe_iret (pc := 63) d_X12_share_63 ⟨_, rfl, rfl⟩
    | false =>
      replace h := oCf h
      refine oe_callV (pc := 9) (ci := 12) d_X12_share_9 (v_X12_isLaying hK  q4) (by omega) ml_X12_230 jJ_X12_isLaying rfl rfl (oLt hK (a := 59) (Nat.le_of_ble_eq_true rfl)) (oSho hK (a := 59) (Nat.le_of_ble_eq_true rfl) rfl) ock12 rfl (Nat.le_of_ble_eq_true rfl) ⟨Nat.le_refl _, Nat.le_refl _⟩ ⟨Nat.le_refl _, Nat.le_refl _⟩ ?_
      refine oe_if_eq (pc := 12) (tgt := 62) d_X12_share_12 (by decide) (fun _ => ?_) (fun c => absurd (by decide) c)
      refine oe_iconst (pc := 62) (v := (-1)) d_X12_share_62 rfl ?_
      obtain ⟨rfl, rfl⟩ := oRes h
      exact oe_iret (pc := 63) d_X12_share_63 ⟨_, rfl, rfl⟩
theorem d_X12_thing_0 : decode J_X12_thing.2.1 0 = .ok (.iload_n 1, 1) := by decide +kernel
theorem d_X12_thing_1 : decode J_X12_thing.2.1 1 = .ok (.i2l, 1) := by decide +kernel
theorem d_X12_thing_2 : decode J_X12_thing.2.1 2 = .ok (.lconst 1, 1) := by decide +kernel
theorem d_X12_thing_3 : decode J_X12_thing.2.1 3 = .ok (.ldc2_w 174, 3) := by decide +kernel
theorem d_X12_thing_6 : decode J_X12_thing.2.1 6 = .ok (.invokestatic 145, 3) := by decide +kernel
theorem d_X12_thing_9 : decode J_X12_thing.2.1 9 = .ok (.ifCond .eq 15, 3) := by decide +kernel
theorem d_X12_thing_12 : decode J_X12_thing.2.1 12 = .ok (.iload_n 2, 1) := by decide +kernel
theorem d_X12_thing_13 : decode J_X12_thing.2.1 13 = .ok (.i2l, 1) := by decide +kernel
theorem d_X12_thing_14 : decode J_X12_thing.2.1 14 = .ok (.lconst 0, 1) := by decide +kernel
theorem d_X12_thing_15 : decode J_X12_thing.2.1 15 = .ok (.ldc2_w 347, 3) := by decide +kernel
theorem d_X12_thing_18 : decode J_X12_thing.2.1 18 = .ok (.invokestatic 145, 3) := by decide +kernel
theorem d_X12_thing_21 : decode J_X12_thing.2.1 21 = .ok (.ifCond .ne 5, 3) := by decide +kernel
theorem d_X12_thing_24 : decode J_X12_thing.2.1 24 = .ok (.iconst (-1), 1) := by decide +kernel
theorem d_X12_thing_25 : decode J_X12_thing.2.1 25 = .ok (.ireturn, 1) := by decide +kernel
theorem d_X12_thing_26 : decode J_X12_thing.2.1 26 = .ok (.aload_n 0, 1) := by decide +kernel
theorem d_X12_thing_27 : decode J_X12_thing.2.1 27 = .ok (.getfield 349, 3) := by decide +kernel
theorem d_X12_thing_30 : decode J_X12_thing.2.1 30 = .ok (.bipush 9, 2) := by decide +kernel
theorem d_X12_thing_32 : decode J_X12_thing.2.1 32 = .ok (.if_icmp .ne 6, 3) := by decide +kernel
theorem d_X12_thing_35 : decode J_X12_thing.2.1 35 = .ok (.bipush (-3), 2) := by decide +kernel
theorem d_X12_thing_37 : decode J_X12_thing.2.1 37 = .ok (.ireturn, 1) := by decide +kernel
theorem d_X12_thing_38 : decode J_X12_thing.2.1 38 = .ok (.aload_n 0, 1) := by decide +kernel
theorem d_X12_thing_39 : decode J_X12_thing.2.1 39 = .ok (.getfield 113, 3) := by decide +kernel
theorem d_X12_thing_42 : decode J_X12_thing.2.1 42 = .ok (.aload_n 0, 1) := by decide +kernel
theorem d_X12_thing_43 : decode J_X12_thing.2.1 43 = .ok (.getfield 349, 3) := by decide +kernel
theorem d_X12_thing_46 : decode J_X12_thing.2.1 46 = .ok (.iload_n 1, 1) := by decide +kernel
theorem d_X12_thing_47 : decode J_X12_thing.2.1 47 = .ok (.iastore, 1) := by decide +kernel
theorem d_X12_thing_48 : decode J_X12_thing.2.1 48 = .ok (.aload_n 0, 1) := by decide +kernel
theorem d_X12_thing_49 : decode J_X12_thing.2.1 49 = .ok (.getfield 116, 3) := by decide +kernel
theorem d_X12_thing_52 : decode J_X12_thing.2.1 52 = .ok (.aload_n 0, 1) := by decide +kernel
theorem d_X12_thing_53 : decode J_X12_thing.2.1 53 = .ok (.getfield 349, 3) := by decide +kernel
theorem d_X12_thing_56 : decode J_X12_thing.2.1 56 = .ok (.iload_n 2, 1) := by decide +kernel
theorem d_X12_thing_57 : decode J_X12_thing.2.1 57 = .ok (.iastore, 1) := by decide +kernel
theorem d_X12_thing_58 : decode J_X12_thing.2.1 58 = .ok (.aload_n 0, 1) := by decide +kernel
theorem d_X12_thing_59 : decode J_X12_thing.2.1 59 = .ok (.dup, 1) := by decide +kernel
theorem d_X12_thing_60 : decode J_X12_thing.2.1 60 = .ok (.getfield 349, 3) := by decide +kernel
theorem d_X12_thing_63 : decode J_X12_thing.2.1 63 = .ok (.iconst 1, 1) := by decide +kernel
theorem d_X12_thing_64 : decode J_X12_thing.2.1 64 = .ok (.iadd, 1) := by decide +kernel
theorem d_X12_thing_65 : decode J_X12_thing.2.1 65 = .ok (.putfield 349, 3) := by decide +kernel
theorem d_X12_thing_68 : decode J_X12_thing.2.1 68 = .ok (.aload_n 0, 1) := by decide +kernel
theorem d_X12_thing_69 : decode J_X12_thing.2.1 69 = .ok (.getfield 349, 3) := by decide +kernel
theorem d_X12_thing_72 : decode J_X12_thing.2.1 72 = .ok (.ireturn, 1) := by decide +kernel
def f_X12_thing (N : Nat) (K : oK) (p1 : Int32) (p2 : Int32) (M : oM) : Option (Int32 × oM) :=
  oB2 (f_X12_within N K ((p1 : Int32).toInt64) 1 99 M) (fun v1 M2 => cond v1 (oB2 (f_X12_within N K ((p2 : Int32).toInt64) 0 999999 M2) (fun v4 M5 => cond v4 ((if (M5.1 59 55) = 9 then some ((-3), M5) else oIx ((M5.1 59 55)) 9 (oIx (((oUp M5 94 ((M5.1 59 55) : Int32).toNatClampNeg p1).1 59 55)) 9 (some (((oUp (oUp (oUp M5 94 ((M5.1 59 55) : Int32).toNatClampNeg p1) 95 (((oUp M5 94 ((M5.1 59 55) : Int32).toNatClampNeg p1).1 59 55) : Int32).toNatClampNeg p2) 59 55 (((oUp (oUp M5 94 ((M5.1 59 55) : Int32).toNatClampNeg p1) 95 (((oUp M5 94 ((M5.1 59 55) : Int32).toNatClampNeg p1).1 59 55) : Int32).toNatClampNeg p2).1 59 55) + 1)).1 59 55), (oUp (oUp (oUp M5 94 ((M5.1 59 55) : Int32).toNatClampNeg p1) 95 (((oUp M5 94 ((M5.1 59 55) : Int32).toNatClampNeg p1).1 59 55) : Int32).toNatClampNeg p2) 59 55 (((oUp (oUp M5 94 ((M5.1 59 55) : Int32).toNatClampNeg p1) 95 (((oUp M5 94 ((M5.1 59 55) : Int32).toNatClampNeg p1).1 59 55) : Int32).toNatClampNeg p2).1 59 55) + 1))))))) (some ((-1), M5)))) (some ((-1), M2)))
set_option maxRecDepth 20000 in
theorem v_X12_thing {X : oX} {N : Nat} {K : oK} {p1 : Int32} {p2 : Int32} {M : oM} {v : Int32} {M' : oM} (hK : oSR K)  (h : f_X12_thing N K p1 p2 M = some (v, M')) : oMet X 2 J_X12_thing [(.ref 59), (.int p1), (.int p2)] K M (some (.int v)) K M' := by
  unfold f_X12_thing at h
  refine oMet_of (L := [some (.ref 59), some (.int p1), some (.int p2)]) jJ_X12_thing.1 rfl (Nat.le_of_ble_eq_true rfl) rfl (Nat.le_refl _) (Nat.le_refl _) ?_
  have hd : 2 ≤ 2 := Nat.le_refl _
  refine oe_iload_n (pc := 0) d_X12_thing_0 rfl ?_
  refine oe_i2l (pc := 1) d_X12_thing_1 ?_
  refine oe_lconst (pc := 2) (v := 1) d_X12_thing_2 rfl ?_
  refine oe_ldc2 (pc := 3) d_X12_thing_3 co_X12_174 ?_
  obtain ⟨v1, M2, q3, h⟩ := oB2_some h
  cases v1 with
  | true =>
    replace h := oCt h
    refine oe_callS (pc := 6) d_X12_thing_6 (v_X12_within hK  q3) (by omega) ml_X12_145 jJ_X12_within rfl rfl (Nat.le_of_ble_eq_true rfl) ⟨Nat.le_refl _, Nat.le_refl _⟩ ⟨Nat.le_refl _, Nat.le_refl _⟩ ?_
    refine oe_if_eq (pc := 9) (tgt := 24) d_X12_thing_9 (by decide) (fun c => absurd c (by decide)) (fun _ => ?_)
    refine oe_iload_n (pc := 12) d_X12_thing_12 rfl ?_
    refine oe_i2l (pc := 13) d_X12_thing_13 ?_
    refine oe_lconst (pc := 14) (v := 0) d_X12_thing_14 rfl ?_
    refine oe_ldc2 (pc := 15) d_X12_thing_15 co_X12_347 ?_
    obtain ⟨v4, M5, q6, h⟩ := oB2_some h
    cases v4 with
    | true =>
      replace h := oCt h
      refine oe_callS (pc := 18) d_X12_thing_18 (v_X12_within hK  q6) (by omega) ml_X12_145 jJ_X12_within rfl rfl (Nat.le_of_ble_eq_true rfl) ⟨Nat.le_refl _, Nat.le_refl _⟩ ⟨Nat.le_refl _, Nat.le_refl _⟩ ?_
      refine oe_if_ne (pc := 21) (tgt := 26) d_X12_thing_21 (by decide) (fun _ => ?_) (fun c => absurd c (by decide))
      refine oe_aload_n (pc := 26) d_X12_thing_26 rfl ?_
      refine oe_getf (pc := 27) d_X12_thing_27 fl_X12_349 ock12 (k := 55) (Nat.le_of_ble_eq_true rfl) rfl (oLt hK (a := 59) (Nat.le_of_ble_eq_true rfl)) (oSho hK (a := 59) (Nat.le_of_ble_eq_true rfl) rfl) ?_
      refine oe_bipush (pc := 30) (v := 9) d_X12_thing_30 rfl ?_
      refine oe_icmp_ne (pc := 32) (tgt := 38) d_X12_thing_32 (by decide) (fun c7 => ?_) (fun c7 => ?_)
      · replace h := (if_neg c7).symm.trans h
        refine oe_aload_n (pc := 38) d_X12_thing_38 rfl ?_
        refine oe_getr (pc := 39) d_X12_thing_39 fl_X12_113 ock12 (k := 56) (b := 94) (Nat.le_of_ble_eq_true rfl) (by decide) (oLt hK (a := 59) (Nat.le_of_ble_eq_true rfl)) (oSho hK (a := 59) (Nat.le_of_ble_eq_true rfl) rfl) (oRfK hK rfl) ?_
        refine oe_aload_n (pc := 42) d_X12_thing_42 rfl ?_
        refine oe_getf (pc := 43) d_X12_thing_43 fl_X12_349 ock12 (k := 55) (Nat.le_of_ble_eq_true rfl) rfl (oLt hK (a := 59) (Nat.le_of_ble_eq_true rfl)) (oSho hK (a := 59) (Nat.le_of_ble_eq_true rfl) rfl) ?_
        refine oe_iload_n (pc := 46) d_X12_thing_46 rfl ?_
        obtain ⟨i8, h⟩ := oIx_some h
        refine oe_iast (pc := 47) d_X12_thing_47 (oLt hK (a := 94) (Nat.le_of_ble_eq_true rfl)) (oSha hK (a := 94) (Nat.le_of_ble_eq_true rfl) rfl) i8 ?_
        refine oe_aload_n (pc := 48) d_X12_thing_48 rfl ?_
        refine oe_getr (pc := 49) d_X12_thing_49 fl_X12_116 ock12 (k := 57) (b := 95) (Nat.le_of_ble_eq_true rfl) (by decide) (oLt hK (a := 59) (Nat.le_of_ble_eq_true rfl)) (oSho hK (a := 59) (Nat.le_of_ble_eq_true rfl) rfl) (oRfK hK rfl) ?_
        refine oe_aload_n (pc := 52) d_X12_thing_52 rfl ?_
        refine oe_getf (pc := 53) d_X12_thing_53 fl_X12_349 ock12 (k := 55) (Nat.le_of_ble_eq_true rfl) rfl (oLt hK (a := 59) (Nat.le_of_ble_eq_true rfl)) (oSho hK (a := 59) (Nat.le_of_ble_eq_true rfl) rfl) ?_
        refine oe_iload_n (pc := 56) d_X12_thing_56 rfl ?_
        obtain ⟨i9, h⟩ := oIx_some h
        refine oe_iast (pc := 57) d_X12_thing_57 (oLt hK (a := 95) (Nat.le_of_ble_eq_true rfl)) (oSha hK (a := 95) (Nat.le_of_ble_eq_true rfl) rfl) i9 ?_
        refine oe_aload_n (pc := 58) d_X12_thing_58 rfl ?_
        refine oe_dup (pc := 59) d_X12_thing_59 rfl ?_
        refine oe_getf (pc := 60) d_X12_thing_60 fl_X12_349 ock12 (k := 55) (Nat.le_of_ble_eq_true rfl) rfl (oLt hK (a := 59) (Nat.le_of_ble_eq_true rfl)) (oSho hK (a := 59) (Nat.le_of_ble_eq_true rfl) rfl) ?_
        refine oe_iconst (pc := 63) (v := 1) d_X12_thing_63 rfl ?_
        refine oe_iadd (pc := 64) d_X12_thing_64 ?_
        refine oe_putf (pc := 65) d_X12_thing_65 fl_X12_349 ock12 (k := 55) (Nat.le_of_ble_eq_true rfl) rfl rfl (oLt hK (a := 59) (Nat.le_of_ble_eq_true rfl)) (oSho hK (a := 59) (Nat.le_of_ble_eq_true rfl) rfl) ?_
        refine oe_aload_n (pc := 68) d_X12_thing_68 rfl ?_
        refine oe_getf (pc := 69) d_X12_thing_69 fl_X12_349 ock12 (k := 55) (Nat.le_of_ble_eq_true rfl) rfl (oLt hK (a := 59) (Nat.le_of_ble_eq_true rfl)) (oSho hK (a := 59) (Nat.le_of_ble_eq_true rfl) rfl) ?_
        obtain ⟨rfl, rfl⟩ := oRes h
        exact oe_iret (pc := 72) d_X12_thing_72 ⟨_, rfl, rfl⟩
      · replace h := (if_pos c7).symm.trans h
        refine oe_bipush (pc := 35) (v := (-3)) d_X12_thing_35 rfl ?_
        obtain ⟨rfl, rfl⟩ := oRes h
        exact oe_iret (pc := 37) d_X12_thing_37 ⟨_, rfl, rfl⟩
    | false =>
      replace h := oCf h
      refine oe_callS (pc := 18) d_X12_thing_18 (v_X12_within hK  q6) (by omega) ml_X12_145 jJ_X12_within rfl rfl (Nat.le_of_ble_eq_true rfl) ⟨Nat.le_refl _, Nat.le_refl _⟩ ⟨Nat.le_refl _, Nat.le_refl _⟩ ?_
      refine oe_if_ne (pc := 21) (tgt := 26) d_X12_thing_21 (by decide) (fun c => absurd (by decide) c) (fun _ => ?_)
      refine oe_iconst (pc := 24) (v := (-1)) d_X12_thing_24 rfl ?_
      obtain ⟨rfl, rfl⟩ := oRes h
      exact oe_iret (pc := 25) d_X12_thing_25 ⟨_, rfl, rfl⟩
  | false =>
    replace h := oCf h
    refine oe_callS (pc := 6) d_X12_thing_6 (v_X12_within hK  q3) (by omega) ml_X12_145 jJ_X12_within rfl rfl (Nat.le_of_ble_eq_true rfl) ⟨Nat.le_refl _, Nat.le_refl _⟩ ⟨Nat.le_refl _, Nat.le_refl _⟩ ?_
    refine oe_if_eq (pc := 9) (tgt := 24) d_X12_thing_9 (by decide) (fun _ => ?_) (fun c => absurd (by decide) c)
    refine oe_iconst (pc := 24) (v := (-1)) d_X12_thing_24 rfl ?_
    obtain ⟨rfl, rfl⟩ := oRes h
    exact oe_iret (pc := 25) d_X12_thing_25 ⟨_, rfl, rfl⟩
theorem d_X12_unthing_0 : decode J_X12_unthing.2.1 0 = .ok (.aload_n 0, 1) := by decide +kernel
theorem d_X12_unthing_1 : decode J_X12_unthing.2.1 1 = .ok (.getfield 349, 3) := by decide +kernel
theorem d_X12_unthing_4 : decode J_X12_unthing.2.1 4 = .ok (.istore_n 1, 1) := by decide +kernel
theorem d_X12_unthing_5 : decode J_X12_unthing.2.1 5 = .ok (.aload_n 0, 1) := by decide +kernel
theorem d_X12_unthing_6 : decode J_X12_unthing.2.1 6 = .ok (.iconst 0, 1) := by decide +kernel
theorem d_X12_unthing_7 : decode J_X12_unthing.2.1 7 = .ok (.putfield 349, 3) := by decide +kernel
theorem d_X12_unthing_10 : decode J_X12_unthing.2.1 10 = .ok (.iload_n 1, 1) := by decide +kernel
theorem d_X12_unthing_11 : decode J_X12_unthing.2.1 11 = .ok (.ireturn, 1) := by decide +kernel
def f_X12_unthing (N : Nat) (K : oK)  (M : oM) : Option (Int32 × oM) :=
  some ((M.1 59 55), (oUp M 59 55 (0 : Int32)))
set_option maxRecDepth 20000 in
theorem v_X12_unthing {X : oX} {N : Nat} {K : oK}  {M : oM} {v : Int32} {M' : oM} (hK : oSR K)  (h : f_X12_unthing N K  M = some (v, M')) : oMet X 1 J_X12_unthing [(.ref 59)] K M (some (.int v)) K M' := by
  unfold f_X12_unthing at h
  refine oMet_of (L := [some (.ref 59), none]) jJ_X12_unthing.1 rfl (Nat.le_of_ble_eq_true rfl) rfl (Nat.le_refl _) (Nat.le_refl _) ?_
  have hd : 1 ≤ 1 := Nat.le_refl _
  refine oe_aload_n (pc := 0) d_X12_unthing_0 rfl ?_
  refine oe_getf (pc := 1) d_X12_unthing_1 fl_X12_349 ock12 (k := 55) (Nat.le_of_ble_eq_true rfl) rfl (oLt hK (a := 59) (Nat.le_of_ble_eq_true rfl)) (oSho hK (a := 59) (Nat.le_of_ble_eq_true rfl) rfl) ?_
  refine oe_istore_n (pc := 4) (L2 := [_, _]) d_X12_unthing_4 rfl rfl (Nat.le_of_ble_eq_true rfl) rfl ?_
  refine oe_aload_n (pc := 5) d_X12_unthing_5 rfl ?_
  refine oe_iconst (pc := 6) (v := 0) d_X12_unthing_6 rfl ?_
  refine oe_putf (pc := 7) d_X12_unthing_7 fl_X12_349 ock12 (k := 55) (Nat.le_of_ble_eq_true rfl) rfl rfl (oLt hK (a := 59) (Nat.le_of_ble_eq_true rfl)) (oSho hK (a := 59) (Nat.le_of_ble_eq_true rfl) rfl) ?_
  refine oe_iload_n (pc := 10) d_X12_unthing_10 rfl ?_
  obtain ⟨rfl, rfl⟩ := oRes h
  exact oe_iret (pc := 11) d_X12_unthing_11 ⟨_, rfl, rfl⟩
theorem d_X12_worthBy_0 : decode J_X12_worthBy.2.1 0 = .ok (.aload_n 0, 1) := by decide +kernel
theorem d_X12_worthBy_1 : decode J_X12_worthBy.2.1 1 = .ok (.getfield 116, 3) := by decide +kernel
theorem d_X12_worthBy_4 : decode J_X12_worthBy.2.1 4 = .ok (.iload_n 1, 1) := by decide +kernel
theorem d_X12_worthBy_5 : decode J_X12_worthBy.2.1 5 = .ok (.iaload, 1) := by decide +kernel
theorem d_X12_worthBy_6 : decode J_X12_worthBy.2.1 6 = .ok (.sipush 10000, 3) := by decide +kernel
theorem d_X12_worthBy_9 : decode J_X12_worthBy.2.1 9 = .ok (.idiv, 1) := by decide +kernel
theorem d_X12_worthBy_10 : decode J_X12_worthBy.2.1 10 = .ok (.istore_n 3, 1) := by decide +kernel
theorem d_X12_worthBy_11 : decode J_X12_worthBy.2.1 11 = .ok (.aload_n 0, 1) := by decide +kernel
theorem d_X12_worthBy_12 : decode J_X12_worthBy.2.1 12 = .ok (.getfield 116, 3) := by decide +kernel
theorem d_X12_worthBy_15 : decode J_X12_worthBy.2.1 15 = .ok (.iload_n 1, 1) := by decide +kernel
theorem d_X12_worthBy_16 : decode J_X12_worthBy.2.1 16 = .ok (.iaload, 1) := by decide +kernel
theorem d_X12_worthBy_17 : decode J_X12_worthBy.2.1 17 = .ok (.bipush 100, 2) := by decide +kernel
theorem d_X12_worthBy_19 : decode J_X12_worthBy.2.1 19 = .ok (.idiv, 1) := by decide +kernel
theorem d_X12_worthBy_20 : decode J_X12_worthBy.2.1 20 = .ok (.bipush 100, 2) := by decide +kernel
theorem d_X12_worthBy_22 : decode J_X12_worthBy.2.1 22 = .ok (.irem, 1) := by decide +kernel
theorem d_X12_worthBy_23 : decode J_X12_worthBy.2.1 23 = .ok (.istore 4, 2) := by decide +kernel
theorem d_X12_worthBy_25 : decode J_X12_worthBy.2.1 25 = .ok (.aload_n 0, 1) := by decide +kernel
theorem d_X12_worthBy_26 : decode J_X12_worthBy.2.1 26 = .ok (.getfield 116, 3) := by decide +kernel
theorem d_X12_worthBy_29 : decode J_X12_worthBy.2.1 29 = .ok (.iload_n 1, 1) := by decide +kernel
theorem d_X12_worthBy_30 : decode J_X12_worthBy.2.1 30 = .ok (.iaload, 1) := by decide +kernel
theorem d_X12_worthBy_31 : decode J_X12_worthBy.2.1 31 = .ok (.bipush 100, 2) := by decide +kernel
theorem d_X12_worthBy_33 : decode J_X12_worthBy.2.1 33 = .ok (.irem, 1) := by decide +kernel
theorem d_X12_worthBy_34 : decode J_X12_worthBy.2.1 34 = .ok (.istore 5, 2) := by decide +kernel
theorem d_X12_worthBy_36 : decode J_X12_worthBy.2.1 36 = .ok (.iload_n 3, 1) := by decide +kernel
theorem d_X12_worthBy_37 : decode J_X12_worthBy.2.1 37 = .ok (.iload_n 2, 1) := by decide +kernel
theorem d_X12_worthBy_38 : decode J_X12_worthBy.2.1 38 = .ok (.sipush 10201, 3) := by decide +kernel
theorem d_X12_worthBy_41 : decode J_X12_worthBy.2.1 41 = .ok (.idiv, 1) := by decide +kernel
theorem d_X12_worthBy_42 : decode J_X12_worthBy.2.1 42 = .ok (.imul, 1) := by decide +kernel
theorem d_X12_worthBy_43 : decode J_X12_worthBy.2.1 43 = .ok (.iload 4, 2) := by decide +kernel
theorem d_X12_worthBy_45 : decode J_X12_worthBy.2.1 45 = .ok (.iload_n 2, 1) := by decide +kernel
theorem d_X12_worthBy_46 : decode J_X12_worthBy.2.1 46 = .ok (.bipush 101, 2) := by decide +kernel
theorem d_X12_worthBy_48 : decode J_X12_worthBy.2.1 48 = .ok (.idiv, 1) := by decide +kernel
theorem d_X12_worthBy_49 : decode J_X12_worthBy.2.1 49 = .ok (.bipush 101, 2) := by decide +kernel
theorem d_X12_worthBy_51 : decode J_X12_worthBy.2.1 51 = .ok (.irem, 1) := by decide +kernel
theorem d_X12_worthBy_52 : decode J_X12_worthBy.2.1 52 = .ok (.imul, 1) := by decide +kernel
theorem d_X12_worthBy_53 : decode J_X12_worthBy.2.1 53 = .ok (.iadd, 1) := by decide +kernel
theorem d_X12_worthBy_54 : decode J_X12_worthBy.2.1 54 = .ok (.iload 5, 2) := by decide +kernel
theorem d_X12_worthBy_56 : decode J_X12_worthBy.2.1 56 = .ok (.iload_n 2, 1) := by decide +kernel
theorem d_X12_worthBy_57 : decode J_X12_worthBy.2.1 57 = .ok (.bipush 101, 2) := by decide +kernel
theorem d_X12_worthBy_59 : decode J_X12_worthBy.2.1 59 = .ok (.irem, 1) := by decide +kernel
theorem d_X12_worthBy_60 : decode J_X12_worthBy.2.1 60 = .ok (.imul, 1) := by decide +kernel
theorem d_X12_worthBy_61 : decode J_X12_worthBy.2.1 61 = .ok (.iadd, 1) := by decide +kernel
theorem d_X12_worthBy_62 : decode J_X12_worthBy.2.1 62 = .ok (.ireturn, 1) := by decide +kernel
def f_X12_worthBy (N : Nat) (K : oK) (p1 : Int32) (p2 : Int32) (M : oM) : Option (Int32 × oM) :=
  oIx (p1) 9 (oIx (p1) 9 (oIx (p1) 9 (some ((((((M.1 95 (p1 : Int32).toNatClampNeg) / 10000) * (p2 / 10201)) + ((((M.1 95 (p1 : Int32).toNatClampNeg) / 100) - ((M.1 95 (p1 : Int32).toNatClampNeg) / 100) / 100 * 100) * ((p2 / 101) - (p2 / 101) / 101 * 101))) + (((M.1 95 (p1 : Int32).toNatClampNeg) - (M.1 95 (p1 : Int32).toNatClampNeg) / 100 * 100) * (p2 - p2 / 101 * 101))), M))))
set_option maxRecDepth 20000 in
theorem v_X12_worthBy {X : oX} {N : Nat} {K : oK} {p1 : Int32} {p2 : Int32} {M : oM} {v : Int32} {M' : oM} (hK : oSR K)  (h : f_X12_worthBy N K p1 p2 M = some (v, M')) : oMet X 1 J_X12_worthBy [(.ref 59), (.int p1), (.int p2)] K M (some (.int v)) K M' := by
  unfold f_X12_worthBy at h
  refine oMet_of (L := [some (.ref 59), some (.int p1), some (.int p2), none, none, none]) jJ_X12_worthBy.1 rfl (Nat.le_of_ble_eq_true rfl) rfl (Nat.le_refl _) (Nat.le_refl _) ?_
  have hd : 1 ≤ 1 := Nat.le_refl _
  refine oe_aload_n (pc := 0) d_X12_worthBy_0 rfl ?_
  refine oe_getr (pc := 1) d_X12_worthBy_1 fl_X12_116 ock12 (k := 57) (b := 95) (Nat.le_of_ble_eq_true rfl) (by decide) (oLt hK (a := 59) (Nat.le_of_ble_eq_true rfl)) (oSho hK (a := 59) (Nat.le_of_ble_eq_true rfl) rfl) (oRfK hK rfl) ?_
  refine oe_iload_n (pc := 4) d_X12_worthBy_4 rfl ?_
  obtain ⟨i1, h⟩ := oIx_some h
  refine oe_iald (pc := 5) d_X12_worthBy_5 (oLt hK (a := 95) (Nat.le_of_ble_eq_true rfl)) (oSha hK (a := 95) (Nat.le_of_ble_eq_true rfl) rfl) i1 ?_
  refine oe_sipush (pc := 6) (v := 10000) d_X12_worthBy_6 rfl ?_
  refine oe_idiv (pc := 9) d_X12_worthBy_9 (by decide) ?_
  refine oe_istore_n (pc := 10) (L2 := [_, _, _, _, _, _]) d_X12_worthBy_10 rfl rfl (Nat.le_of_ble_eq_true rfl) rfl ?_
  refine oe_aload_n (pc := 11) d_X12_worthBy_11 rfl ?_
  refine oe_getr (pc := 12) d_X12_worthBy_12 fl_X12_116 ock12 (k := 57) (b := 95) (Nat.le_of_ble_eq_true rfl) (by decide) (oLt hK (a := 59) (Nat.le_of_ble_eq_true rfl)) (oSho hK (a := 59) (Nat.le_of_ble_eq_true rfl) rfl) (oRfK hK rfl) ?_
  refine oe_iload_n (pc := 15) d_X12_worthBy_15 rfl ?_
  obtain ⟨i2, h⟩ := oIx_some h
  refine oe_iald (pc := 16) d_X12_worthBy_16 (oLt hK (a := 95) (Nat.le_of_ble_eq_true rfl)) (oSha hK (a := 95) (Nat.le_of_ble_eq_true rfl) rfl) i2 ?_
  refine oe_bipush (pc := 17) (v := 100) d_X12_worthBy_17 rfl ?_
  refine oe_idiv (pc := 19) d_X12_worthBy_19 (by decide) ?_
  refine oe_bipush (pc := 20) (v := 100) d_X12_worthBy_20 rfl ?_
  refine oe_irem (pc := 22) d_X12_worthBy_22 (by decide) ?_
  refine oe_istore (pc := 23) (L2 := [_, _, _, _, _, _]) d_X12_worthBy_23 rfl (Nat.le_of_ble_eq_true rfl) rfl ?_
  refine oe_aload_n (pc := 25) d_X12_worthBy_25 rfl ?_
  refine oe_getr (pc := 26) d_X12_worthBy_26 fl_X12_116 ock12 (k := 57) (b := 95) (Nat.le_of_ble_eq_true rfl) (by decide) (oLt hK (a := 59) (Nat.le_of_ble_eq_true rfl)) (oSho hK (a := 59) (Nat.le_of_ble_eq_true rfl) rfl) (oRfK hK rfl) ?_
  refine oe_iload_n (pc := 29) d_X12_worthBy_29 rfl ?_
  obtain ⟨i3, h⟩ := oIx_some h
  refine oe_iald (pc := 30) d_X12_worthBy_30 (oLt hK (a := 95) (Nat.le_of_ble_eq_true rfl)) (oSha hK (a := 95) (Nat.le_of_ble_eq_true rfl) rfl) i3 ?_
  refine oe_bipush (pc := 31) (v := 100) d_X12_worthBy_31 rfl ?_
  refine oe_irem (pc := 33) d_X12_worthBy_33 (by decide) ?_
  refine oe_istore (pc := 34) (L2 := [_, _, _, _, _, _]) d_X12_worthBy_34 rfl (Nat.le_of_ble_eq_true rfl) rfl ?_
  refine oe_iload_n (pc := 36) d_X12_worthBy_36 rfl ?_
  refine oe_iload_n (pc := 37) d_X12_worthBy_37 rfl ?_
  refine oe_sipush (pc := 38) (v := 10201) d_X12_worthBy_38 rfl ?_
  refine oe_idiv (pc := 41) d_X12_worthBy_41 (by decide) ?_
  refine oe_imul (pc := 42) d_X12_worthBy_42 ?_
  refine oe_iload (pc := 43) d_X12_worthBy_43 rfl ?_
  refine oe_iload_n (pc := 45) d_X12_worthBy_45 rfl ?_
  refine oe_bipush (pc := 46) (v := 101) d_X12_worthBy_46 rfl ?_
  refine oe_idiv (pc := 48) d_X12_worthBy_48 (by decide) ?_
  refine oe_bipush (pc := 49) (v := 101) d_X12_worthBy_49 rfl ?_
  refine oe_irem (pc := 51) d_X12_worthBy_51 (by decide) ?_
  refine oe_imul (pc := 52) d_X12_worthBy_52 ?_
  refine oe_iadd (pc := 53) d_X12_worthBy_53 ?_
  refine oe_iload (pc := 54) d_X12_worthBy_54 rfl ?_
  refine oe_iload_n (pc := 56) d_X12_worthBy_56 rfl ?_
  refine oe_bipush (pc := 57) (v := 101) d_X12_worthBy_57 rfl ?_
  refine oe_irem (pc := 59) d_X12_worthBy_59 (by decide) ?_
  refine oe_imul (pc := 60) d_X12_worthBy_60 ?_
  refine oe_iadd (pc := 61) d_X12_worthBy_61 ?_
  obtain ⟨rfl, rfl⟩ := oRes h
  exact oe_iret (pc := 62) d_X12_worthBy_62 ⟨_, rfl, rfl⟩
theorem d_X12_cart_0 : decode J_X12_cart.2.1 0 = .ok (.iload_n 1, 1) := by decide +kernel
theorem d_X12_cart_1 : decode J_X12_cart.2.1 1 = .ok (.ifCond .lt 27, 3) := by decide +kernel
theorem d_X12_cart_4 : decode J_X12_cart.2.1 4 = .ok (.iload_n 2, 1) := by decide +kernel
theorem d_X12_cart_5 : decode J_X12_cart.2.1 5 = .ok (.ifCond .lt 23, 3) := by decide +kernel
theorem d_X12_cart_8 : decode J_X12_cart.2.1 8 = .ok (.iload_n 2, 1) := by decide +kernel
theorem d_X12_cart_9 : decode J_X12_cart.2.1 9 = .ok (.sipush 10201, 3) := by decide +kernel
theorem d_X12_cart_12 : decode J_X12_cart.2.1 12 = .ok (.idiv, 1) := by decide +kernel
theorem d_X12_cart_13 : decode J_X12_cart.2.1 13 = .ok (.bipush 100, 2) := by decide +kernel
theorem d_X12_cart_15 : decode J_X12_cart.2.1 15 = .ok (.if_icmp .gt 13, 3) := by decide +kernel
theorem d_X12_cart_18 : decode J_X12_cart.2.1 18 = .ok (.iload_n 3, 1) := by decide +kernel
theorem d_X12_cart_19 : decode J_X12_cart.2.1 19 = .ok (.i2l, 1) := by decide +kernel
theorem d_X12_cart_20 : decode J_X12_cart.2.1 20 = .ok (.lconst 0, 1) := by decide +kernel
theorem d_X12_cart_21 : decode J_X12_cart.2.1 21 = .ok (.lconst 1, 1) := by decide +kernel
theorem d_X12_cart_22 : decode J_X12_cart.2.1 22 = .ok (.invokestatic 145, 3) := by decide +kernel
theorem d_X12_cart_25 : decode J_X12_cart.2.1 25 = .ok (.ifCond .ne 5, 3) := by decide +kernel
theorem d_X12_cart_28 : decode J_X12_cart.2.1 28 = .ok (.iconst (-1), 1) := by decide +kernel
theorem d_X12_cart_29 : decode J_X12_cart.2.1 29 = .ok (.ireturn, 1) := by decide +kernel
theorem d_X12_cart_30 : decode J_X12_cart.2.1 30 = .ok (.aload_n 0, 1) := by decide +kernel
theorem d_X12_cart_31 : decode J_X12_cart.2.1 31 = .ok (.getfield 349, 3) := by decide +kernel
theorem d_X12_cart_34 : decode J_X12_cart.2.1 34 = .ok (.ifCond .ne 6, 3) := by decide +kernel
theorem d_X12_cart_37 : decode J_X12_cart.2.1 37 = .ok (.bipush (-5), 2) := by decide +kernel
theorem d_X12_cart_39 : decode J_X12_cart.2.1 39 = .ok (.ireturn, 1) := by decide +kernel
theorem d_X12_cart_40 : decode J_X12_cart.2.1 40 = .ok (.iconst 0, 1) := by decide +kernel
theorem d_X12_cart_41 : decode J_X12_cart.2.1 41 = .ok (.istore 4, 2) := by decide +kernel
theorem d_X12_cart_43 : decode J_X12_cart.2.1 43 = .ok (.iconst 0, 1) := by decide +kernel
theorem d_X12_cart_44 : decode J_X12_cart.2.1 44 = .ok (.istore 5, 2) := by decide +kernel
theorem d_X12_cart_46 : decode J_X12_cart.2.1 46 = .ok (.iconst 0, 1) := by decide +kernel
theorem d_X12_cart_47 : decode J_X12_cart.2.1 47 = .ok (.istore 6, 2) := by decide +kernel
theorem d_X12_cart_49 : decode J_X12_cart.2.1 49 = .ok (.iconst 1, 1) := by decide +kernel
theorem d_X12_cart_50 : decode J_X12_cart.2.1 50 = .ok (.istore 7, 2) := by decide +kernel
theorem d_X12_cart_52 : decode J_X12_cart.2.1 52 = .ok (.iload 7, 2) := by decide +kernel
theorem d_X12_cart_54 : decode J_X12_cart.2.1 54 = .ok (.iconst 1, 1) := by decide +kernel
theorem d_X12_cart_55 : decode J_X12_cart.2.1 55 = .ok (.aload_n 0, 1) := by decide +kernel
theorem d_X12_cart_56 : decode J_X12_cart.2.1 56 = .ok (.getfield 349, 3) := by decide +kernel
theorem d_X12_cart_59 : decode J_X12_cart.2.1 59 = .ok (.ishl, 1) := by decide +kernel
theorem d_X12_cart_60 : decode J_X12_cart.2.1 60 = .ok (.if_icmp .ge 126, 3) := by decide +kernel
theorem d_X12_cart_63 : decode J_X12_cart.2.1 63 = .ok (.iconst 0, 1) := by decide +kernel
theorem d_X12_cart_64 : decode J_X12_cart.2.1 64 = .ok (.istore 8, 2) := by decide +kernel
theorem d_X12_cart_66 : decode J_X12_cart.2.1 66 = .ok (.iconst 0, 1) := by decide +kernel
theorem d_X12_cart_67 : decode J_X12_cart.2.1 67 = .ok (.istore 9, 2) := by decide +kernel
theorem d_X12_cart_69 : decode J_X12_cart.2.1 69 = .ok (.iconst 0, 1) := by decide +kernel
theorem d_X12_cart_70 : decode J_X12_cart.2.1 70 = .ok (.istore 10, 2) := by decide +kernel
theorem d_X12_cart_72 : decode J_X12_cart.2.1 72 = .ok (.iload 10, 2) := by decide +kernel
theorem d_X12_cart_74 : decode J_X12_cart.2.1 74 = .ok (.aload_n 0, 1) := by decide +kernel
theorem d_X12_cart_75 : decode J_X12_cart.2.1 75 = .ok (.getfield 349, 3) := by decide +kernel
theorem d_X12_cart_78 : decode J_X12_cart.2.1 78 = .ok (.if_icmp .ge 63, 3) := by decide +kernel
theorem d_X12_cart_81 : decode J_X12_cart.2.1 81 = .ok (.iload 8, 2) := by decide +kernel
theorem d_X12_cart_83 : decode J_X12_cart.2.1 83 = .ok (.iload 7, 2) := by decide +kernel
theorem d_X12_cart_85 : decode J_X12_cart.2.1 85 = .ok (.iload 10, 2) := by decide +kernel
theorem d_X12_cart_87 : decode J_X12_cart.2.1 87 = .ok (.ishr, 1) := by decide +kernel
theorem d_X12_cart_88 : decode J_X12_cart.2.1 88 = .ok (.iconst 1, 1) := by decide +kernel
theorem d_X12_cart_89 : decode J_X12_cart.2.1 89 = .ok (.iand, 1) := by decide +kernel
theorem d_X12_cart_90 : decode J_X12_cart.2.1 90 = .ok (.iconst 1, 1) := by decide +kernel
theorem d_X12_cart_91 : decode J_X12_cart.2.1 91 = .ok (.if_icmp .ne 13, 3) := by decide +kernel
theorem d_X12_cart_94 : decode J_X12_cart.2.1 94 = .ok (.aload_n 0, 1) := by decide +kernel
theorem d_X12_cart_95 : decode J_X12_cart.2.1 95 = .ok (.getfield 113, 3) := by decide +kernel
theorem d_X12_cart_98 : decode J_X12_cart.2.1 98 = .ok (.iload 10, 2) := by decide +kernel
theorem d_X12_cart_100 : decode J_X12_cart.2.1 100 = .ok (.iaload, 1) := by decide +kernel
theorem d_X12_cart_101 : decode J_X12_cart.2.1 101 = .ok (.goto 4, 3) := by decide +kernel
theorem d_X12_cart_104 : decode J_X12_cart.2.1 104 = .ok (.iconst 0, 1) := by decide +kernel
theorem d_X12_cart_105 : decode J_X12_cart.2.1 105 = .ok (.iadd, 1) := by decide +kernel
theorem d_X12_cart_106 : decode J_X12_cart.2.1 106 = .ok (.istore 8, 2) := by decide +kernel
theorem d_X12_cart_108 : decode J_X12_cart.2.1 108 = .ok (.iload 9, 2) := by decide +kernel
theorem d_X12_cart_110 : decode J_X12_cart.2.1 110 = .ok (.iload 7, 2) := by decide +kernel
theorem d_X12_cart_112 : decode J_X12_cart.2.1 112 = .ok (.iload 10, 2) := by decide +kernel
theorem d_X12_cart_114 : decode J_X12_cart.2.1 114 = .ok (.ishr, 1) := by decide +kernel
theorem d_X12_cart_115 : decode J_X12_cart.2.1 115 = .ok (.iconst 1, 1) := by decide +kernel
theorem d_X12_cart_116 : decode J_X12_cart.2.1 116 = .ok (.iand, 1) := by decide +kernel
theorem d_X12_cart_117 : decode J_X12_cart.2.1 117 = .ok (.iconst 1, 1) := by decide +kernel
theorem d_X12_cart_118 : decode J_X12_cart.2.1 118 = .ok (.if_icmp .ne 13, 3) := by decide +kernel
theorem d_X12_cart_121 : decode J_X12_cart.2.1 121 = .ok (.aload_n 0, 1) := by decide +kernel
theorem d_X12_cart_122 : decode J_X12_cart.2.1 122 = .ok (.iload 10, 2) := by decide +kernel
theorem d_X12_cart_124 : decode J_X12_cart.2.1 124 = .ok (.iload_n 2, 1) := by decide +kernel
theorem d_X12_cart_125 : decode J_X12_cart.2.1 125 = .ok (.invokevirtual 352, 3) := by decide +kernel
theorem d_X12_cart_128 : decode J_X12_cart.2.1 128 = .ok (.goto 4, 3) := by decide +kernel
theorem d_X12_cart_131 : decode J_X12_cart.2.1 131 = .ok (.iconst 0, 1) := by decide +kernel
theorem d_X12_cart_132 : decode J_X12_cart.2.1 132 = .ok (.iadd, 1) := by decide +kernel
theorem d_X12_cart_133 : decode J_X12_cart.2.1 133 = .ok (.istore 9, 2) := by decide +kernel
theorem d_X12_cart_135 : decode J_X12_cart.2.1 135 = .ok (.iinc 10 1, 3) := by decide +kernel
theorem d_X12_cart_138 : decode J_X12_cart.2.1 138 = .ok (.goto (-66), 3) := by decide +kernel
theorem d_X12_cart_141 : decode J_X12_cart.2.1 141 = .ok (.iload 8, 2) := by decide +kernel
theorem d_X12_cart_143 : decode J_X12_cart.2.1 143 = .ok (.iload_n 1, 1) := by decide +kernel
theorem d_X12_cart_144 : decode J_X12_cart.2.1 144 = .ok (.if_icmp .gt 36, 3) := by decide +kernel
theorem d_X12_cart_147 : decode J_X12_cart.2.1 147 = .ok (.iload 9, 2) := by decide +kernel
theorem d_X12_cart_149 : decode J_X12_cart.2.1 149 = .ok (.iload 5, 2) := by decide +kernel
theorem d_X12_cart_151 : decode J_X12_cart.2.1 151 = .ok (.if_icmp .gt 17, 3) := by decide +kernel
theorem d_X12_cart_154 : decode J_X12_cart.2.1 154 = .ok (.iload 9, 2) := by decide +kernel
theorem d_X12_cart_156 : decode J_X12_cart.2.1 156 = .ok (.iload 5, 2) := by decide +kernel
theorem d_X12_cart_158 : decode J_X12_cart.2.1 158 = .ok (.if_icmp .ne 22, 3) := by decide +kernel
theorem d_X12_cart_161 : decode J_X12_cart.2.1 161 = .ok (.iload 8, 2) := by decide +kernel
theorem d_X12_cart_163 : decode J_X12_cart.2.1 163 = .ok (.iload 6, 2) := by decide +kernel
theorem d_X12_cart_165 : decode J_X12_cart.2.1 165 = .ok (.if_icmp .ge 15, 3) := by decide +kernel
theorem d_X12_cart_168 : decode J_X12_cart.2.1 168 = .ok (.iload 7, 2) := by decide +kernel
theorem d_X12_cart_170 : decode J_X12_cart.2.1 170 = .ok (.istore 4, 2) := by decide +kernel
theorem d_X12_cart_172 : decode J_X12_cart.2.1 172 = .ok (.iload 9, 2) := by decide +kernel
theorem d_X12_cart_174 : decode J_X12_cart.2.1 174 = .ok (.istore 5, 2) := by decide +kernel
theorem d_X12_cart_176 : decode J_X12_cart.2.1 176 = .ok (.iload 8, 2) := by decide +kernel
theorem d_X12_cart_178 : decode J_X12_cart.2.1 178 = .ok (.istore 6, 2) := by decide +kernel
theorem d_X12_cart_180 : decode J_X12_cart.2.1 180 = .ok (.iinc 7 1, 3) := by decide +kernel
theorem d_X12_cart_183 : decode J_X12_cart.2.1 183 = .ok (.goto (-131), 3) := by decide +kernel
theorem d_X12_cart_186 : decode J_X12_cart.2.1 186 = .ok (.iload_n 3, 1) := by decide +kernel
theorem d_X12_cart_187 : decode J_X12_cart.2.1 187 = .ok (.ifCond .ne 8, 3) := by decide +kernel
theorem d_X12_cart_190 : decode J_X12_cart.2.1 190 = .ok (.iload 5, 2) := by decide +kernel
theorem d_X12_cart_192 : decode J_X12_cart.2.1 192 = .ok (.goto 5, 3) := by decide +kernel
theorem d_X12_cart_195 : decode J_X12_cart.2.1 195 = .ok (.iload 4, 2) := by decide +kernel
theorem d_X12_cart_197 : decode J_X12_cart.2.1 197 = .ok (.ireturn, 1) := by decide +kernel
def f_X12_cart_180 (N : Nat) (K : oK) (r52 : (Int32 → Int32 → Int32 → Int32 → Int32 → Int32 → Int32 → oM → Option (Int32 × oM))) (p1 : Int32) (p2 : Int32) (p3 : Int32) (p4 : Int32) (p5 : Int32) (p6 : Int32) (p7 : Int32) (M : oM) : Option (Int32 × oM) :=
  (r52 p1 p2 p3 p4 p5 p6 (p7 + 1) M)
set_option maxRecDepth 20000 in
theorem v_X12_cart_180 {X : oX} {d N : Nat} {K : oK} {r52 : (Int32 → Int32 → Int32 → Int32 → Int32 → Int32 → Int32 → oM → Option (Int32 × oM))} {p1 : Int32} {p2 : Int32} {p3 : Int32} {p4 : Int32} {p5 : Int32} {p6 : Int32} {p7 : Int32} {M : oM} {v : Int32} {M' : oM}  (hd : 2 ≤ d) (hK : oSR K)  (hr52 : ∀ (p1 : Int32) (p2 : Int32) (p3 : Int32) (p4 : Int32) (p5 : Int32) (p6 : Int32) (p7 : Int32) (M : oM) (v : Int32) (M' : oM) , r52 p1 p2 p3 p4 p5 p6 p7 M = some (v, M') → oEv X d J_X12_cart 52 [some (.ref 59), some (.int p1), some (.int p2), some (.int p3), some (.int p4), some (.int p5), some (.int p6), some (.int p7), none, none, none] [] K M (some (.int v)) K M') (h : f_X12_cart_180 N K r52 p1 p2 p3 p4 p5 p6 p7 M = some (v, M')) : oEv X d J_X12_cart 180 [some (.ref 59), some (.int p1), some (.int p2), some (.int p3), some (.int p4), some (.int p5), some (.int p6), some (.int p7), none, none, none] [] K M (some (.int v)) K M' := by
  unfold f_X12_cart_180 at h
  refine oe_iinc (pc := 180) (v := (p7 + 1)) (L2 := [_, _, _, _, _, _, _, _, _, _, _]) d_X12_cart_180 rfl rfl rfl (Nat.le_of_ble_eq_true rfl) rfl ?_
  refine oe_goto (pc := 183) (tgt := 52) d_X12_cart_183 (by decide) ?_
  exact hr52 _ _ _ _ _ _ _ _ _ _ h
def f_X12_cart_168 (N : Nat) (K : oK) (r52 : (Int32 → Int32 → Int32 → Int32 → Int32 → Int32 → Int32 → oM → Option (Int32 × oM))) (p1 : Int32) (p2 : Int32) (p3 : Int32) (p7 : Int32) (p8 : Int32) (p9 : Int32) (M : oM) : Option (Int32 × oM) :=
  (f_X12_cart_180 N K r52 p1 p2 p3 p7 p9 p8 p7 M)
set_option maxRecDepth 20000 in
theorem v_X12_cart_168 {X : oX} {d N : Nat} {K : oK} {r52 : (Int32 → Int32 → Int32 → Int32 → Int32 → Int32 → Int32 → oM → Option (Int32 × oM))} {p1 : Int32} {p2 : Int32} {p3 : Int32} {p7 : Int32} {p8 : Int32} {p9 : Int32} {M : oM} {v : Int32} {M' : oM}  (hd : 2 ≤ d) (hK : oSR K)  (hr52 : ∀ (p1 : Int32) (p2 : Int32) (p3 : Int32) (p4 : Int32) (p5 : Int32) (p6 : Int32) (p7 : Int32) (M : oM) (v : Int32) (M' : oM) , r52 p1 p2 p3 p4 p5 p6 p7 M = some (v, M') → oEv X d J_X12_cart 52 [some (.ref 59), some (.int p1), some (.int p2), some (.int p3), some (.int p4), some (.int p5), some (.int p6), some (.int p7), none, none, none] [] K M (some (.int v)) K M') (h : f_X12_cart_168 N K r52 p1 p2 p3 p7 p8 p9 M = some (v, M')) : oEv X d J_X12_cart 168 [some (.ref 59), some (.int p1), some (.int p2), some (.int p3), none, none, none, some (.int p7), some (.int p8), some (.int p9), none] [] K M (some (.int v)) K M' := by
  unfold f_X12_cart_168 at h
  refine oe_iload (pc := 168) d_X12_cart_168 rfl ?_
  refine oe_istore (pc := 170) (L2 := [_, _, _, _, _, _, _, _, _, _, _]) d_X12_cart_170 rfl (Nat.le_of_ble_eq_true rfl) rfl ?_
  refine oe_iload (pc := 172) d_X12_cart_172 rfl ?_
  refine oe_istore (pc := 174) (L2 := [_, _, _, _, _, _, _, _, _, _, _]) d_X12_cart_174 rfl (Nat.le_of_ble_eq_true rfl) rfl ?_
  refine oe_iload (pc := 176) d_X12_cart_176 rfl ?_
  refine oe_istore (pc := 178) (L2 := [_, _, _, _, _, _, _, _, _, _, _]) d_X12_cart_178 rfl (Nat.le_of_ble_eq_true rfl) rfl ?_
  refine oEv.fg [true, true, true, true, true, true, true, true, false, false, false] ?_
  exact v_X12_cart_180 hd hK  hr52 h
def f_X12_cart_132 (N : Nat) (K : oK) (r52 : (Int32 → Int32 → Int32 → Int32 → Int32 → Int32 → Int32 → oM → Option (Int32 × oM))) (r72 : (Int32 → Int32 → Int32 → Int32 → Int32 → Int32 → Int32 → Int32 → Int32 → Int32 → oM → Option (Int32 × oM))) (p1 : Int32) (p2 : Int32) (p3 : Int32) (p4 : Int32) (p5 : Int32) (p6 : Int32) (p7 : Int32) (p8 : Int32) (p10 : Int32) (s0 : Int32) (s1 : Int32) (M : oM) : Option (Int32 × oM) :=
  (r72 p1 p2 p3 p4 p5 p6 p7 p8 (s1 + s0) (p10 + 1) M)
set_option maxRecDepth 20000 in
theorem v_X12_cart_132 {X : oX} {d N : Nat} {K : oK} {r52 : (Int32 → Int32 → Int32 → Int32 → Int32 → Int32 → Int32 → oM → Option (Int32 × oM))} {r72 : (Int32 → Int32 → Int32 → Int32 → Int32 → Int32 → Int32 → Int32 → Int32 → Int32 → oM → Option (Int32 × oM))} {p1 : Int32} {p2 : Int32} {p3 : Int32} {p4 : Int32} {p5 : Int32} {p6 : Int32} {p7 : Int32} {p8 : Int32} {p10 : Int32} {s0 : Int32} {s1 : Int32} {M : oM} {v : Int32} {M' : oM}  (hd : 2 ≤ d) (hK : oSR K)  (hr52 : ∀ (p1 : Int32) (p2 : Int32) (p3 : Int32) (p4 : Int32) (p5 : Int32) (p6 : Int32) (p7 : Int32) (M : oM) (v : Int32) (M' : oM) , r52 p1 p2 p3 p4 p5 p6 p7 M = some (v, M') → oEv X d J_X12_cart 52 [some (.ref 59), some (.int p1), some (.int p2), some (.int p3), some (.int p4), some (.int p5), some (.int p6), some (.int p7), none, none, none] [] K M (some (.int v)) K M') (hr72 : ∀ (p1 : Int32) (p2 : Int32) (p3 : Int32) (p4 : Int32) (p5 : Int32) (p6 : Int32) (p7 : Int32) (p8 : Int32) (p9 : Int32) (p10 : Int32) (M : oM) (v : Int32) (M' : oM) , r72 p1 p2 p3 p4 p5 p6 p7 p8 p9 p10 M = some (v, M') → oEv X d J_X12_cart 72 [some (.ref 59), some (.int p1), some (.int p2), some (.int p3), some (.int p4), some (.int p5), some (.int p6), some (.int p7), some (.int p8), some (.int p9), some (.int p10)] [] K M (some (.int v)) K M') (h : f_X12_cart_132 N K r52 r72 p1 p2 p3 p4 p5 p6 p7 p8 p10 s0 s1 M = some (v, M')) : oEv X d J_X12_cart 132 [some (.ref 59), some (.int p1), some (.int p2), some (.int p3), some (.int p4), some (.int p5), some (.int p6), some (.int p7), some (.int p8), none, some (.int p10)] [(.int s0), (.int s1)] K M (some (.int v)) K M' := by
  unfold f_X12_cart_132 at h
  refine oe_iadd (pc := 132) d_X12_cart_132 ?_
  refine oe_istore (pc := 133) (L2 := [_, _, _, _, _, _, _, _, _, _, _]) d_X12_cart_133 rfl (Nat.le_of_ble_eq_true rfl) rfl ?_
  refine oe_iinc (pc := 135) (v := (p10 + 1)) (L2 := [_, _, _, _, _, _, _, _, _, _, _]) d_X12_cart_135 rfl rfl rfl (Nat.le_of_ble_eq_true rfl) rfl ?_
  refine oe_goto (pc := 138) (tgt := 72) d_X12_cart_138 (by decide) ?_
  exact hr72 _ _ _ _ _ _ _ _ _ _ _ _ _ h
def f_X12_cart_105 (N : Nat) (K : oK) (r52 : (Int32 → Int32 → Int32 → Int32 → Int32 → Int32 → Int32 → oM → Option (Int32 × oM))) (r72 : (Int32 → Int32 → Int32 → Int32 → Int32 → Int32 → Int32 → Int32 → Int32 → Int32 → oM → Option (Int32 × oM))) (p1 : Int32) (p2 : Int32) (p3 : Int32) (p4 : Int32) (p5 : Int32) (p6 : Int32) (p7 : Int32) (p9 : Int32) (p10 : Int32) (s0 : Int32) (s1 : Int32) (M : oM) : Option (Int32 × oM) :=
  (if ((p7 >>> (p10 &&& 31)) &&& 1) = 1 then oB2 (f_X12_worthBy N K p10 p2 M) (fun v17 M18 => (f_X12_cart_132 N K r52 r72 p1 p2 p3 p4 p5 p6 p7 (s1 + s0) p10 v17 p9 M18)) else (f_X12_cart_132 N K r52 r72 p1 p2 p3 p4 p5 p6 p7 (s1 + s0) p10 0 p9 M))
set_option maxRecDepth 20000 in
theorem v_X12_cart_105 {X : oX} {d N : Nat} {K : oK} {r52 : (Int32 → Int32 → Int32 → Int32 → Int32 → Int32 → Int32 → oM → Option (Int32 × oM))} {r72 : (Int32 → Int32 → Int32 → Int32 → Int32 → Int32 → Int32 → Int32 → Int32 → Int32 → oM → Option (Int32 × oM))} {p1 : Int32} {p2 : Int32} {p3 : Int32} {p4 : Int32} {p5 : Int32} {p6 : Int32} {p7 : Int32} {p9 : Int32} {p10 : Int32} {s0 : Int32} {s1 : Int32} {M : oM} {v : Int32} {M' : oM}  (hd : 2 ≤ d) (hK : oSR K)  (hr52 : ∀ (p1 : Int32) (p2 : Int32) (p3 : Int32) (p4 : Int32) (p5 : Int32) (p6 : Int32) (p7 : Int32) (M : oM) (v : Int32) (M' : oM) , r52 p1 p2 p3 p4 p5 p6 p7 M = some (v, M') → oEv X d J_X12_cart 52 [some (.ref 59), some (.int p1), some (.int p2), some (.int p3), some (.int p4), some (.int p5), some (.int p6), some (.int p7), none, none, none] [] K M (some (.int v)) K M') (hr72 : ∀ (p1 : Int32) (p2 : Int32) (p3 : Int32) (p4 : Int32) (p5 : Int32) (p6 : Int32) (p7 : Int32) (p8 : Int32) (p9 : Int32) (p10 : Int32) (M : oM) (v : Int32) (M' : oM) , r72 p1 p2 p3 p4 p5 p6 p7 p8 p9 p10 M = some (v, M') → oEv X d J_X12_cart 72 [some (.ref 59), some (.int p1), some (.int p2), some (.int p3), some (.int p4), some (.int p5), some (.int p6), some (.int p7), some (.int p8), some (.int p9), some (.int p10)] [] K M (some (.int v)) K M') (h : f_X12_cart_105 N K r52 r72 p1 p2 p3 p4 p5 p6 p7 p9 p10 s0 s1 M = some (v, M')) : oEv X d J_X12_cart 105 [some (.ref 59), some (.int p1), some (.int p2), some (.int p3), some (.int p4), some (.int p5), some (.int p6), some (.int p7), none, some (.int p9), some (.int p10)] [(.int s0), (.int s1)] K M (some (.int v)) K M' := by
  unfold f_X12_cart_105 at h
  refine oe_iadd (pc := 105) d_X12_cart_105 ?_
  refine oe_istore (pc := 106) (L2 := [_, _, _, _, _, _, _, _, _, _, _]) d_X12_cart_106 rfl (Nat.le_of_ble_eq_true rfl) rfl ?_
  refine oe_iload (pc := 108) d_X12_cart_108 rfl ?_
  refine oe_iload (pc := 110) d_X12_cart_110 rfl ?_
  refine oe_iload (pc := 112) d_X12_cart_112 rfl ?_
  refine oe_ishr (pc := 114) d_X12_cart_114 ?_
  refine oe_iconst (pc := 115) (v := 1) d_X12_cart_115 rfl ?_
  refine oe_iand (pc := 116) d_X12_cart_116 ?_
  refine oe_iconst (pc := 117) (v := 1) d_X12_cart_117 rfl ?_
  refine oe_icmp_ne (pc := 118) (tgt := 131) d_X12_cart_118 (by decide) (fun c16 => ?_) (fun c16 => ?_)
  · replace h := (if_neg c16).symm.trans h
    refine oe_iconst (pc := 131) (v := 0) d_X12_cart_131 rfl ?_
    refine oEv.fg [true, true, true, true, true, true, true, true, true, false, true] ?_
    exact v_X12_cart_132 hd hK  hr52 hr72 h
  · replace h := (if_pos c16).symm.trans h
    refine oe_aload_n (pc := 121) d_X12_cart_121 rfl ?_
    refine oe_iload (pc := 122) d_X12_cart_122 rfl ?_
    refine oe_iload_n (pc := 124) d_X12_cart_124 rfl ?_
    obtain ⟨v17, M18, q19, h⟩ := oB2_some h
    refine oe_callV (pc := 125) (ci := 12) d_X12_cart_125 (v_X12_worthBy hK  q19) (by omega) ml_X12_352 jJ_X12_worthBy rfl rfl (oLt hK (a := 59) (Nat.le_of_ble_eq_true rfl)) (oSho hK (a := 59) (Nat.le_of_ble_eq_true rfl) rfl) ock12 rfl (Nat.le_of_ble_eq_true rfl) ⟨Nat.le_refl _, Nat.le_refl _⟩ ⟨Nat.le_refl _, Nat.le_refl _⟩ ?_
    refine oe_goto (pc := 128) (tgt := 132) d_X12_cart_128 (by decide) ?_
    refine oEv.fg [true, true, true, true, true, true, true, true, true, false, true] ?_
    exact v_X12_cart_132 hd hK  hr52 hr72 h
def f_X12_cart_72 (N : Nat) (K : oK) (r52 : (Int32 → Int32 → Int32 → Int32 → Int32 → Int32 → Int32 → oM → Option (Int32 × oM))) : Nat → Int32 → Int32 → Int32 → Int32 → Int32 → Int32 → Int32 → Int32 → Int32 → Int32 → oM → Option (Int32 × oM)
  | 0, _, _, _, _, _, _, _, _, _, _, _ => none
  | n + 1, p1, p2, p3, p4, p5, p6, p7, p8, p9, p10, M => (fun r72 => (if (M.1 59 55) ≤ p10 then (if p1 < p8 then (f_X12_cart_180 N K r52 p1 p2 p3 p4 p5 p6 p7 M) else (if p5 < p9 then (f_X12_cart_168 N K r52 p1 p2 p3 p7 p8 p9 M) else (if p9 = p5 then (if p6 ≤ p8 then (f_X12_cart_180 N K r52 p1 p2 p3 p4 p5 p6 p7 M) else (f_X12_cart_168 N K r52 p1 p2 p3 p7 p8 p9 M)) else (f_X12_cart_180 N K r52 p1 p2 p3 p4 p5 p6 p7 M)))) else (if ((p7 >>> (p10 &&& 31)) &&& 1) = 1 then oIx (p10) 9 ((f_X12_cart_105 N K r52 r72 p1 p2 p3 p4 p5 p6 p7 p9 p10 (M.1 94 (p10 : Int32).toNatClampNeg) p8 M)) else (f_X12_cart_105 N K r52 r72 p1 p2 p3 p4 p5 p6 p7 p9 p10 0 p8 M)))) (f_X12_cart_72 N K r52 n)
set_option maxRecDepth 20000 in
theorem v_X12_cart_72_L {X : oX} {d N : Nat} {K : oK} {r52 : (Int32 → Int32 → Int32 → Int32 → Int32 → Int32 → Int32 → oM → Option (Int32 × oM))} (hd : 2 ≤ d) (hK : oSR K) (hr52 : ∀ (p1 : Int32) (p2 : Int32) (p3 : Int32) (p4 : Int32) (p5 : Int32) (p6 : Int32) (p7 : Int32) (M : oM) (v : Int32) (M' : oM) , r52 p1 p2 p3 p4 p5 p6 p7 M = some (v, M') → oEv X d J_X12_cart 52 [some (.ref 59), some (.int p1), some (.int p2), some (.int p3), some (.int p4), some (.int p5), some (.int p6), some (.int p7), none, none, none] [] K M (some (.int v)) K M') : ∀ (n : Nat) (p1 : Int32) (p2 : Int32) (p3 : Int32) (p4 : Int32) (p5 : Int32) (p6 : Int32) (p7 : Int32) (p8 : Int32) (p9 : Int32) (p10 : Int32) (M : oM) (v : Int32) (M' : oM)  , f_X12_cart_72 N K r52 n p1 p2 p3 p4 p5 p6 p7 p8 p9 p10 M = some (v, M') → oEv X d J_X12_cart 72 [some (.ref 59), some (.int p1), some (.int p2), some (.int p3), some (.int p4), some (.int p5), some (.int p6), some (.int p7), some (.int p8), some (.int p9), some (.int p10)] [] K M (some (.int v)) K M' := by
  intro n
  induction n with
  | zero =>
    intro p1 p2 p3 p4 p5 p6 p7 p8 p9 p10 M v M'   h
    cases h
  | succ n hr72 =>
    intro p1 p2 p3 p4 p5 p6 p7 p8 p9 p10 M v M'   h
    refine oe_iload (pc := 72) d_X12_cart_72 rfl ?_
    refine oe_aload_n (pc := 74) d_X12_cart_74 rfl ?_
    refine oe_getf (pc := 75) d_X12_cart_75 fl_X12_349 ock12 (k := 55) (Nat.le_of_ble_eq_true rfl) rfl (oLt hK (a := 59) (Nat.le_of_ble_eq_true rfl)) (oSho hK (a := 59) (Nat.le_of_ble_eq_true rfl) rfl) ?_
    refine oe_icmp_ge (pc := 78) (tgt := 141) d_X12_cart_78 (by decide) (fun c10 => ?_) (fun c10 => ?_)
    · replace h := (if_pos c10).symm.trans h
      refine oe_iload (pc := 141) d_X12_cart_141 rfl ?_
      refine oe_iload_n (pc := 143) d_X12_cart_143 rfl ?_
      refine oe_icmp_gt (pc := 144) (tgt := 180) d_X12_cart_144 (by decide) (fun c11 => ?_) (fun c11 => ?_)
      · replace h := (if_pos c11).symm.trans h
        refine oEv.fg [true, true, true, true, true, true, true, true, false, false, false] ?_
        exact v_X12_cart_180 hd hK  hr52 h
      · replace h := (if_neg c11).symm.trans h
        refine oe_iload (pc := 147) d_X12_cart_147 rfl ?_
        refine oe_iload (pc := 149) d_X12_cart_149 rfl ?_
        refine oe_icmp_gt (pc := 151) (tgt := 168) d_X12_cart_151 (by decide) (fun c12 => ?_) (fun c12 => ?_)
        · replace h := (if_pos c12).symm.trans h
          refine oEv.fg [true, true, true, true, false, false, false, true, true, true, false] ?_
          exact v_X12_cart_168 hd hK  hr52 h
        · replace h := (if_neg c12).symm.trans h
          refine oe_iload (pc := 154) d_X12_cart_154 rfl ?_
          refine oe_iload (pc := 156) d_X12_cart_156 rfl ?_
          refine oe_icmp_ne (pc := 158) (tgt := 180) d_X12_cart_158 (by decide) (fun c13 => ?_) (fun c13 => ?_)
          · replace h := (if_neg c13).symm.trans h
            refine oEv.fg [true, true, true, true, true, true, true, true, false, false, false] ?_
            exact v_X12_cart_180 hd hK  hr52 h
          · replace h := (if_pos c13).symm.trans h
            refine oe_iload (pc := 161) d_X12_cart_161 rfl ?_
            refine oe_iload (pc := 163) d_X12_cart_163 rfl ?_
            refine oe_icmp_ge (pc := 165) (tgt := 180) d_X12_cart_165 (by decide) (fun c14 => ?_) (fun c14 => ?_)
            · replace h := (if_pos c14).symm.trans h
              refine oEv.fg [true, true, true, true, true, true, true, true, false, false, false] ?_
              exact v_X12_cart_180 hd hK  hr52 h
            · replace h := (if_neg c14).symm.trans h
              refine oEv.fg [true, true, true, true, false, false, false, true, true, true, false] ?_
              exact v_X12_cart_168 hd hK  hr52 h
    · replace h := (if_neg c10).symm.trans h
      refine oe_iload (pc := 81) d_X12_cart_81 rfl ?_
      refine oe_iload (pc := 83) d_X12_cart_83 rfl ?_
      refine oe_iload (pc := 85) d_X12_cart_85 rfl ?_
      refine oe_ishr (pc := 87) d_X12_cart_87 ?_
      refine oe_iconst (pc := 88) (v := 1) d_X12_cart_88 rfl ?_
      refine oe_iand (pc := 89) d_X12_cart_89 ?_
      refine oe_iconst (pc := 90) (v := 1) d_X12_cart_90 rfl ?_
      refine oe_icmp_ne (pc := 91) (tgt := 104) d_X12_cart_91 (by decide) (fun c15 => ?_) (fun c15 => ?_)
      · replace h := (if_neg c15).symm.trans h
        refine oe_iconst (pc := 104) (v := 0) d_X12_cart_104 rfl ?_
        refine oEv.fg [true, true, true, true, true, true, true, true, false, true, true] ?_
        exact v_X12_cart_105 hd hK  hr52 hr72 h
      · replace h := (if_pos c15).symm.trans h
        refine oe_aload_n (pc := 94) d_X12_cart_94 rfl ?_
        refine oe_getr (pc := 95) d_X12_cart_95 fl_X12_113 ock12 (k := 56) (b := 94) (Nat.le_of_ble_eq_true rfl) (by decide) (oLt hK (a := 59) (Nat.le_of_ble_eq_true rfl)) (oSho hK (a := 59) (Nat.le_of_ble_eq_true rfl) rfl) (oRfK hK rfl) ?_
        refine oe_iload (pc := 98) d_X12_cart_98 rfl ?_
        obtain ⟨i20, h⟩ := oIx_some h
        refine oe_iald (pc := 100) d_X12_cart_100 (oLt hK (a := 94) (Nat.le_of_ble_eq_true rfl)) (oSha hK (a := 94) (Nat.le_of_ble_eq_true rfl) rfl) i20 ?_
        refine oe_goto (pc := 101) (tgt := 105) d_X12_cart_101 (by decide) ?_
        refine oEv.fg [true, true, true, true, true, true, true, true, false, true, true] ?_
        exact v_X12_cart_105 hd hK  hr52 hr72 h
theorem v_X12_cart_72 {X : oX} {d N : Nat} {K : oK} {r52 : (Int32 → Int32 → Int32 → Int32 → Int32 → Int32 → Int32 → oM → Option (Int32 × oM))} {p1 : Int32} {p2 : Int32} {p3 : Int32} {p4 : Int32} {p5 : Int32} {p6 : Int32} {p7 : Int32} {p8 : Int32} {p9 : Int32} {p10 : Int32} {M : oM} {v : Int32} {M' : oM}  (hd : 2 ≤ d) (hK : oSR K)  (hr52 : ∀ (p1 : Int32) (p2 : Int32) (p3 : Int32) (p4 : Int32) (p5 : Int32) (p6 : Int32) (p7 : Int32) (M : oM) (v : Int32) (M' : oM) , r52 p1 p2 p3 p4 p5 p6 p7 M = some (v, M') → oEv X d J_X12_cart 52 [some (.ref 59), some (.int p1), some (.int p2), some (.int p3), some (.int p4), some (.int p5), some (.int p6), some (.int p7), none, none, none] [] K M (some (.int v)) K M') (h : f_X12_cart_72 N K r52 N p1 p2 p3 p4 p5 p6 p7 p8 p9 p10 M = some (v, M')) : oEv X d J_X12_cart 72 [some (.ref 59), some (.int p1), some (.int p2), some (.int p3), some (.int p4), some (.int p5), some (.int p6), some (.int p7), some (.int p8), some (.int p9), some (.int p10)] [] K M (some (.int v)) K M' := v_X12_cart_72_L hd hK hr52 N p1 p2 p3 p4 p5 p6 p7 p8 p9 p10 M v M'   h
def f_X12_cart_52 (N : Nat) (K : oK)  : Nat → Int32 → Int32 → Int32 → Int32 → Int32 → Int32 → Int32 → oM → Option (Int32 × oM)
  | 0, _, _, _, _, _, _, _, _ => none
  | n + 1, p1, p2, p3, p4, p5, p6, p7, M => (fun r52 => (if ((1 : Int32) <<< ((M.1 59 55) &&& 31)) ≤ p7 then (if p3 = 0 then some (p5, M) else some (p4, M)) else (f_X12_cart_72 N K r52 N p1 p2 p3 p4 p5 p6 p7 0 0 0 M))) (f_X12_cart_52 N K  n)
set_option maxRecDepth 20000 in
theorem v_X12_cart_52_L {X : oX} {d N : Nat} {K : oK}  (hd : 2 ≤ d) (hK : oSR K)  : ∀ (n : Nat) (p1 : Int32) (p2 : Int32) (p3 : Int32) (p4 : Int32) (p5 : Int32) (p6 : Int32) (p7 : Int32) (M : oM) (v : Int32) (M' : oM)  , f_X12_cart_52 N K  n p1 p2 p3 p4 p5 p6 p7 M = some (v, M') → oEv X d J_X12_cart 52 [some (.ref 59), some (.int p1), some (.int p2), some (.int p3), some (.int p4), some (.int p5), some (.int p6), some (.int p7), none, none, none] [] K M (some (.int v)) K M' := by
  intro n
  induction n with
  | zero =>
    intro p1 p2 p3 p4 p5 p6 p7 M v M'   h
    cases h
  | succ n hr52 =>
    intro p1 p2 p3 p4 p5 p6 p7 M v M'   h
    refine oe_iload (pc := 52) d_X12_cart_52 rfl ?_
    refine oe_iconst (pc := 54) (v := 1) d_X12_cart_54 rfl ?_
    refine oe_aload_n (pc := 55) d_X12_cart_55 rfl ?_
    refine oe_getf (pc := 56) d_X12_cart_56 fl_X12_349 ock12 (k := 55) (Nat.le_of_ble_eq_true rfl) rfl (oLt hK (a := 59) (Nat.le_of_ble_eq_true rfl)) (oSho hK (a := 59) (Nat.le_of_ble_eq_true rfl) rfl) ?_
    refine oe_ishl (pc := 59) d_X12_cart_59 ?_
    refine oe_icmp_ge (pc := 60) (tgt := 186) d_X12_cart_60 (by decide) (fun c8 => ?_) (fun c8 => ?_)
    · replace h := (if_pos c8).symm.trans h
      refine oe_iload_n (pc := 186) d_X12_cart_186 rfl ?_
      refine oe_if_ne (pc := 187) (tgt := 195) d_X12_cart_187 (by decide) (fun c9 => ?_) (fun c9 => ?_)
      · replace h := (if_neg c9).symm.trans h
        refine oe_iload (pc := 195) d_X12_cart_195 rfl ?_
        obtain ⟨rfl, rfl⟩ := oRes h
        exact oe_iret (pc := 197) d_X12_cart_197 ⟨_, rfl, rfl⟩
      · replace h := (if_pos c9).symm.trans h
        refine oe_iload (pc := 190) d_X12_cart_190 rfl ?_
        refine oe_goto (pc := 192) (tgt := 197) d_X12_cart_192 (by decide) ?_
        obtain ⟨rfl, rfl⟩ := oRes h
        exact oe_iret (pc := 197) d_X12_cart_197 ⟨_, rfl, rfl⟩
    · replace h := (if_neg c8).symm.trans h
      refine oe_iconst (pc := 63) (v := 0) d_X12_cart_63 rfl ?_
      refine oe_istore (pc := 64) (L2 := [_, _, _, _, _, _, _, _, _, _, _]) d_X12_cart_64 rfl (Nat.le_of_ble_eq_true rfl) rfl ?_
      refine oe_iconst (pc := 66) (v := 0) d_X12_cart_66 rfl ?_
      refine oe_istore (pc := 67) (L2 := [_, _, _, _, _, _, _, _, _, _, _]) d_X12_cart_67 rfl (Nat.le_of_ble_eq_true rfl) rfl ?_
      refine oe_iconst (pc := 69) (v := 0) d_X12_cart_69 rfl ?_
      refine oe_istore (pc := 70) (L2 := [_, _, _, _, _, _, _, _, _, _, _]) d_X12_cart_70 rfl (Nat.le_of_ble_eq_true rfl) rfl ?_
      exact v_X12_cart_72 hd hK  hr52 h
theorem v_X12_cart_52 {X : oX} {d N : Nat} {K : oK}  {p1 : Int32} {p2 : Int32} {p3 : Int32} {p4 : Int32} {p5 : Int32} {p6 : Int32} {p7 : Int32} {M : oM} {v : Int32} {M' : oM}  (hd : 2 ≤ d) (hK : oSR K)   (h : f_X12_cart_52 N K  N p1 p2 p3 p4 p5 p6 p7 M = some (v, M')) : oEv X d J_X12_cart 52 [some (.ref 59), some (.int p1), some (.int p2), some (.int p3), some (.int p4), some (.int p5), some (.int p6), some (.int p7), none, none, none] [] K M (some (.int v)) K M' := v_X12_cart_52_L hd hK  N p1 p2 p3 p4 p5 p6 p7 M v M'   h
def f_X12_cart (N : Nat) (K : oK) (p1 : Int32) (p2 : Int32) (p3 : Int32) (M : oM) : Option (Int32 × oM) :=
  (if p1 < 0 then some ((-1), M) else (if p2 < 0 then some ((-1), M) else (if 100 < (p2 / 10201) then some ((-1), M) else oB2 (f_X12_within N K ((p3 : Int32).toInt64) 0 1 M) (fun v4 M5 => cond v4 ((if (M5.1 59 55) = 0 then some ((-5), M5) else (f_X12_cart_52 N K  N p1 p2 p3 0 0 0 1 M5))) (some ((-1), M5))))))
set_option maxRecDepth 20000 in
theorem v_X12_cart {X : oX} {N : Nat} {K : oK} {p1 : Int32} {p2 : Int32} {p3 : Int32} {M : oM} {v : Int32} {M' : oM} (hK : oSR K)  (h : f_X12_cart N K p1 p2 p3 M = some (v, M')) : oMet X 2 J_X12_cart [(.ref 59), (.int p1), (.int p2), (.int p3)] K M (some (.int v)) K M' := by
  unfold f_X12_cart at h
  refine oMet_of (L := [some (.ref 59), some (.int p1), some (.int p2), some (.int p3), none, none, none, none, none, none, none]) jJ_X12_cart.1 rfl (Nat.le_of_ble_eq_true rfl) rfl (Nat.le_refl _) (Nat.le_refl _) ?_
  have hd : 2 ≤ 2 := Nat.le_refl _
  refine oe_iload_n (pc := 0) d_X12_cart_0 rfl ?_
  refine oe_if_lt (pc := 1) (tgt := 28) d_X12_cart_1 (by decide) (fun c1 => ?_) (fun c1 => ?_)
  · replace h := (if_pos c1).symm.trans h
    refine oe_iconst (pc := 28) (v := (-1)) d_X12_cart_28 rfl ?_
    obtain ⟨rfl, rfl⟩ := oRes h
    exact oe_iret (pc := 29) d_X12_cart_29 ⟨_, rfl, rfl⟩
  · replace h := (if_neg c1).symm.trans h
    refine oe_iload_n (pc := 4) d_X12_cart_4 rfl ?_
    refine oe_if_lt (pc := 5) (tgt := 28) d_X12_cart_5 (by decide) (fun c2 => ?_) (fun c2 => ?_)
    · replace h := (if_pos c2).symm.trans h
      refine oe_iconst (pc := 28) (v := (-1)) d_X12_cart_28 rfl ?_
      obtain ⟨rfl, rfl⟩ := oRes h
      exact oe_iret (pc := 29) d_X12_cart_29 ⟨_, rfl, rfl⟩
    · replace h := (if_neg c2).symm.trans h
      refine oe_iload_n (pc := 8) d_X12_cart_8 rfl ?_
      refine oe_sipush (pc := 9) (v := 10201) d_X12_cart_9 rfl ?_
      refine oe_idiv (pc := 12) d_X12_cart_12 (by decide) ?_
      refine oe_bipush (pc := 13) (v := 100) d_X12_cart_13 rfl ?_
      refine oe_icmp_gt (pc := 15) (tgt := 28) d_X12_cart_15 (by decide) (fun c3 => ?_) (fun c3 => ?_)
      · replace h := (if_pos c3).symm.trans h
        refine oe_iconst (pc := 28) (v := (-1)) d_X12_cart_28 rfl ?_
        obtain ⟨rfl, rfl⟩ := oRes h
        exact oe_iret (pc := 29) d_X12_cart_29 ⟨_, rfl, rfl⟩
      · replace h := (if_neg c3).symm.trans h
        refine oe_iload_n (pc := 18) d_X12_cart_18 rfl ?_
        refine oe_i2l (pc := 19) d_X12_cart_19 ?_
        refine oe_lconst (pc := 20) (v := 0) d_X12_cart_20 rfl ?_
        refine oe_lconst (pc := 21) (v := 1) d_X12_cart_21 rfl ?_
        obtain ⟨v4, M5, q6, h⟩ := oB2_some h
        cases v4 with
        | true =>
          replace h := oCt h
          refine oe_callS (pc := 22) d_X12_cart_22 (v_X12_within hK  q6) (by omega) ml_X12_145 jJ_X12_within rfl rfl (Nat.le_of_ble_eq_true rfl) ⟨Nat.le_refl _, Nat.le_refl _⟩ ⟨Nat.le_refl _, Nat.le_refl _⟩ ?_
          refine oe_if_ne (pc := 25) (tgt := 30) d_X12_cart_25 (by decide) (fun _ => ?_) (fun c => absurd c (by decide))
          refine oe_aload_n (pc := 30) d_X12_cart_30 rfl ?_
          refine oe_getf (pc := 31) d_X12_cart_31 fl_X12_349 ock12 (k := 55) (Nat.le_of_ble_eq_true rfl) rfl (oLt hK (a := 59) (Nat.le_of_ble_eq_true rfl)) (oSho hK (a := 59) (Nat.le_of_ble_eq_true rfl) rfl) ?_
          refine oe_if_ne (pc := 34) (tgt := 40) d_X12_cart_34 (by decide) (fun c7 => ?_) (fun c7 => ?_)
          · replace h := (if_neg c7).symm.trans h
            refine oe_iconst (pc := 40) (v := 0) d_X12_cart_40 rfl ?_
            refine oe_istore (pc := 41) (L2 := [_, _, _, _, _, _, _, _, _, _, _]) d_X12_cart_41 rfl (Nat.le_of_ble_eq_true rfl) rfl ?_
            refine oe_iconst (pc := 43) (v := 0) d_X12_cart_43 rfl ?_
            refine oe_istore (pc := 44) (L2 := [_, _, _, _, _, _, _, _, _, _, _]) d_X12_cart_44 rfl (Nat.le_of_ble_eq_true rfl) rfl ?_
            refine oe_iconst (pc := 46) (v := 0) d_X12_cart_46 rfl ?_
            refine oe_istore (pc := 47) (L2 := [_, _, _, _, _, _, _, _, _, _, _]) d_X12_cart_47 rfl (Nat.le_of_ble_eq_true rfl) rfl ?_
            refine oe_iconst (pc := 49) (v := 1) d_X12_cart_49 rfl ?_
            refine oe_istore (pc := 50) (L2 := [_, _, _, _, _, _, _, _, _, _, _]) d_X12_cart_50 rfl (Nat.le_of_ble_eq_true rfl) rfl ?_
            exact v_X12_cart_52 hd hK   h
          · replace h := (if_pos c7).symm.trans h
            refine oe_bipush (pc := 37) (v := (-5)) d_X12_cart_37 rfl ?_
            obtain ⟨rfl, rfl⟩ := oRes h
            exact oe_iret (pc := 39) d_X12_cart_39 ⟨_, rfl, rfl⟩
        | false =>
          replace h := oCf h
          refine oe_callS (pc := 22) d_X12_cart_22 (v_X12_within hK  q6) (by omega) ml_X12_145 jJ_X12_within rfl rfl (Nat.le_of_ble_eq_true rfl) ⟨Nat.le_refl _, Nat.le_refl _⟩ ⟨Nat.le_refl _, Nat.le_refl _⟩ ?_
          refine oe_if_ne (pc := 25) (tgt := 30) d_X12_cart_25 (by decide) (fun c => absurd (by decide) c) (fun _ => ?_)
          refine oe_iconst (pc := 28) (v := (-1)) d_X12_cart_28 rfl ?_
          obtain ⟨rfl, rfl⟩ := oRes h
          exact oe_iret (pc := 29) d_X12_cart_29 ⟨_, rfl, rfl⟩
