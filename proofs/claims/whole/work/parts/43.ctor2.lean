/-! the reference's constructor -/
set_option maxRecDepth 20000 in
theorem ct_17 {X : oX} : oMet X 1 J_X12_init [.ref 59] ck124 cm66 none ck206 cm119 := by
  refine oMet_of (L := [some (.ref 59), none]) jJ_X12_init.1 rfl (Nat.le_of_ble_eq_true rfl) rfl (Nat.le_of_ble_eq_true rfl) (Nat.le_of_ble_eq_true rfl) ?_
  refine oe_aload_n (pc := 0) d_X12_init_0 rfl ?_
  refine oe_obj (pc := 1) d_X12_init_1 mo_X12_1 (by decide) (Nat.le_of_ble_eq_true rfl) ?_
  refine oe_aload_n (pc := 4) d_X12_init_4 rfl ?_
  refine oe_bipush (pc := 5) (v := 21) d_X12_init_5 rfl ?_
  refine oe_newaI (pc := 7) (N := 21) d_X12_init_7 (by decide) rfl (Nat.le_of_ble_eq_true rfl) (Nat.le_of_ble_eq_true rfl) (Nat.le_of_ble_eq_true rfl) (Nat.le_of_ble_eq_true rfl) ?_
  refine oEv.re (K2 := ck125) (M2 := cm67) (S2 := [.ref 60, .ref 59]) rfl rfl rfl ?_
  refine oe_putrf (pc := 9) (x := some 60) d_X12_init_9 fl_X12_7 ock12 (k := 0) (Nat.le_of_ble_eq_true rfl) (by decide) rfl ⟨rfl, fun _ => ⟨rfl, rfl⟩⟩ rfl rfl rfl (Nat.le_of_ble_eq_true rfl) rfl ?_
  refine oEv.re (K2 := ck126) (M2 := cm67) (S2 := []) rfl rfl rfl ?_
  refine oe_aload_n (pc := 12) d_X12_init_12 rfl ?_
  refine oe_bipush (pc := 13) (v := 40) d_X12_init_13 rfl ?_
  refine oe_newaI (pc := 15) (N := 40) d_X12_init_15 (by decide) rfl (Nat.le_of_ble_eq_true rfl) (Nat.le_of_ble_eq_true rfl) (Nat.le_of_ble_eq_true rfl) (Nat.le_of_ble_eq_true rfl) ?_
  refine oEv.re (K2 := ck127) (M2 := cm68) (S2 := [.ref 61, .ref 59]) rfl rfl rfl ?_
  refine oe_putrf (pc := 17) (x := some 61) d_X12_init_17 fl_X12_13 ock12 (k := 1) (Nat.le_of_ble_eq_true rfl) (by decide) rfl ⟨rfl, fun _ => ⟨rfl, rfl⟩⟩ rfl rfl rfl (Nat.le_of_ble_eq_true rfl) rfl ?_
  refine oEv.re (K2 := ck128) (M2 := cm68) (S2 := []) rfl rfl rfl ?_
  refine oe_aload_n (pc := 20) d_X12_init_20 rfl ?_
  refine oe_bipush (pc := 21) (v := 40) d_X12_init_21 rfl ?_
  refine oe_newaI (pc := 23) (N := 40) d_X12_init_23 (by decide) rfl (Nat.le_of_ble_eq_true rfl) (Nat.le_of_ble_eq_true rfl) (Nat.le_of_ble_eq_true rfl) (Nat.le_of_ble_eq_true rfl) ?_
  refine oEv.re (K2 := ck129) (M2 := cm69) (S2 := [.ref 62, .ref 59]) rfl rfl rfl ?_
  refine oe_putrf (pc := 25) (x := some 62) d_X12_init_25 fl_X12_16 ock12 (k := 2) (Nat.le_of_ble_eq_true rfl) (by decide) rfl ⟨rfl, fun _ => ⟨rfl, rfl⟩⟩ rfl rfl rfl (Nat.le_of_ble_eq_true rfl) rfl ?_
  refine oEv.re (K2 := ck130) (M2 := cm69) (S2 := []) rfl rfl rfl ?_
  refine oe_aload_n (pc := 28) d_X12_init_28 rfl ?_
  refine oe_bipush (pc := 29) (v := 40) d_X12_init_29 rfl ?_
  refine oe_newaI (pc := 31) (N := 40) d_X12_init_31 (by decide) rfl (Nat.le_of_ble_eq_true rfl) (Nat.le_of_ble_eq_true rfl) (Nat.le_of_ble_eq_true rfl) (Nat.le_of_ble_eq_true rfl) ?_
  refine oEv.re (K2 := ck131) (M2 := cm70) (S2 := [.ref 63, .ref 59]) rfl rfl rfl ?_
  refine oe_putrf (pc := 33) (x := some 63) d_X12_init_33 fl_X12_19 ock12 (k := 3) (Nat.le_of_ble_eq_true rfl) (by decide) rfl ⟨rfl, fun _ => ⟨rfl, rfl⟩⟩ rfl rfl rfl (Nat.le_of_ble_eq_true rfl) rfl ?_
  refine oEv.re (K2 := ck132) (M2 := cm70) (S2 := []) rfl rfl rfl ?_
  refine oe_aload_n (pc := 36) d_X12_init_36 rfl ?_
  refine oe_bipush (pc := 37) (v := 20) d_X12_init_37 rfl ?_
  refine oe_newaI (pc := 39) (N := 20) d_X12_init_39 (by decide) rfl (Nat.le_of_ble_eq_true rfl) (Nat.le_of_ble_eq_true rfl) (Nat.le_of_ble_eq_true rfl) (Nat.le_of_ble_eq_true rfl) ?_
  refine oEv.re (K2 := ck133) (M2 := cm71) (S2 := [.ref 64, .ref 59]) rfl rfl rfl ?_
  refine oe_putrf (pc := 41) (x := some 64) d_X12_init_41 fl_X12_22 ock12 (k := 8) (Nat.le_of_ble_eq_true rfl) (by decide) rfl ⟨rfl, fun _ => ⟨rfl, rfl⟩⟩ rfl rfl rfl (Nat.le_of_ble_eq_true rfl) rfl ?_
  refine oEv.re (K2 := ck134) (M2 := cm71) (S2 := []) rfl rfl rfl ?_
  refine oe_aload_n (pc := 44) d_X12_init_44 rfl ?_
  refine oe_bipush (pc := 45) (v := 20) d_X12_init_45 rfl ?_
  refine oe_newaI (pc := 47) (N := 20) d_X12_init_47 (by decide) rfl (Nat.le_of_ble_eq_true rfl) (Nat.le_of_ble_eq_true rfl) (Nat.le_of_ble_eq_true rfl) (Nat.le_of_ble_eq_true rfl) ?_
  refine oEv.re (K2 := ck135) (M2 := cm72) (S2 := [.ref 65, .ref 59]) rfl rfl rfl ?_
  refine oe_putrf (pc := 49) (x := some 65) d_X12_init_49 fl_X12_25 ock12 (k := 9) (Nat.le_of_ble_eq_true rfl) (by decide) rfl ⟨rfl, fun _ => ⟨rfl, rfl⟩⟩ rfl rfl rfl (Nat.le_of_ble_eq_true rfl) rfl ?_
  refine oEv.re (K2 := ck136) (M2 := cm72) (S2 := []) rfl rfl rfl ?_
  refine oe_aload_n (pc := 52) d_X12_init_52 rfl ?_
  refine oe_bipush (pc := 53) (v := 20) d_X12_init_53 rfl ?_
  refine oe_newaI (pc := 55) (N := 20) d_X12_init_55 (by decide) rfl (Nat.le_of_ble_eq_true rfl) (Nat.le_of_ble_eq_true rfl) (Nat.le_of_ble_eq_true rfl) (Nat.le_of_ble_eq_true rfl) ?_
  refine oEv.re (K2 := ck137) (M2 := cm73) (S2 := [.ref 66, .ref 59]) rfl rfl rfl ?_
  refine oe_putrf (pc := 57) (x := some 66) d_X12_init_57 fl_X12_28 ock12 (k := 10) (Nat.le_of_ble_eq_true rfl) (by decide) rfl ⟨rfl, fun _ => ⟨rfl, rfl⟩⟩ rfl rfl rfl (Nat.le_of_ble_eq_true rfl) rfl ?_
  refine oEv.re (K2 := ck138) (M2 := cm73) (S2 := []) rfl rfl rfl ?_
  refine oe_aload_n (pc := 60) d_X12_init_60 rfl ?_
  refine oe_bipush (pc := 61) (v := 6) d_X12_init_61 rfl ?_
  refine oe_newaI (pc := 63) (N := 6) d_X12_init_63 (by decide) rfl (Nat.le_of_ble_eq_true rfl) (Nat.le_of_ble_eq_true rfl) (Nat.le_of_ble_eq_true rfl) (Nat.le_of_ble_eq_true rfl) ?_
  refine oEv.re (K2 := ck139) (M2 := cm74) (S2 := [.ref 67, .ref 59]) rfl rfl rfl ?_
  refine oe_putrf (pc := 65) (x := some 67) d_X12_init_65 fl_X12_31 ock12 (k := 12) (Nat.le_of_ble_eq_true rfl) (by decide) rfl ⟨rfl, fun _ => ⟨rfl, rfl⟩⟩ rfl rfl rfl (Nat.le_of_ble_eq_true rfl) rfl ?_
  refine oEv.re (K2 := ck140) (M2 := cm74) (S2 := []) rfl rfl rfl ?_
  refine oe_aload_n (pc := 68) d_X12_init_68 rfl ?_
  refine oe_bipush (pc := 69) (v := 6) d_X12_init_69 rfl ?_
  refine oe_newaI (pc := 71) (N := 6) d_X12_init_71 (by decide) rfl (Nat.le_of_ble_eq_true rfl) (Nat.le_of_ble_eq_true rfl) (Nat.le_of_ble_eq_true rfl) (Nat.le_of_ble_eq_true rfl) ?_
  refine oEv.re (K2 := ck141) (M2 := cm75) (S2 := [.ref 68, .ref 59]) rfl rfl rfl ?_
  refine oe_putrf (pc := 73) (x := some 68) d_X12_init_73 fl_X12_34 ock12 (k := 13) (Nat.le_of_ble_eq_true rfl) (by decide) rfl ⟨rfl, fun _ => ⟨rfl, rfl⟩⟩ rfl rfl rfl (Nat.le_of_ble_eq_true rfl) rfl ?_
  refine oEv.re (K2 := ck142) (M2 := cm75) (S2 := []) rfl rfl rfl ?_
  refine oe_aload_n (pc := 76) d_X12_init_76 rfl ?_
  refine oe_bipush (pc := 77) (v := 120) d_X12_init_77 rfl ?_
  refine oe_newaI (pc := 79) (N := 120) d_X12_init_79 (by decide) rfl (Nat.le_of_ble_eq_true rfl) (Nat.le_of_ble_eq_true rfl) (Nat.le_of_ble_eq_true rfl) (Nat.le_of_ble_eq_true rfl) ?_
  refine oEv.re (K2 := ck143) (M2 := cm76) (S2 := [.ref 69, .ref 59]) rfl rfl rfl ?_
  refine oe_putrf (pc := 81) (x := some 69) d_X12_init_81 fl_X12_37 ock12 (k := 14) (Nat.le_of_ble_eq_true rfl) (by decide) rfl ⟨rfl, fun _ => ⟨rfl, rfl⟩⟩ rfl rfl rfl (Nat.le_of_ble_eq_true rfl) rfl ?_
  refine oEv.re (K2 := ck144) (M2 := cm76) (S2 := []) rfl rfl rfl ?_
  refine oe_aload_n (pc := 84) d_X12_init_84 rfl ?_
  refine oe_bipush (pc := 85) (v := 9) d_X12_init_85 rfl ?_
  refine oe_newaI (pc := 87) (N := 9) d_X12_init_87 (by decide) rfl (Nat.le_of_ble_eq_true rfl) (Nat.le_of_ble_eq_true rfl) (Nat.le_of_ble_eq_true rfl) (Nat.le_of_ble_eq_true rfl) ?_
  refine oEv.re (K2 := ck145) (M2 := cm77) (S2 := [.ref 70, .ref 59]) rfl rfl rfl ?_
  refine oe_putrf (pc := 89) (x := some 70) d_X12_init_89 fl_X12_40 ock12 (k := 16) (Nat.le_of_ble_eq_true rfl) (by decide) rfl ⟨rfl, fun _ => ⟨rfl, rfl⟩⟩ rfl rfl rfl (Nat.le_of_ble_eq_true rfl) rfl ?_
  refine oEv.re (K2 := ck146) (M2 := cm77) (S2 := []) rfl rfl rfl ?_
  refine oe_aload_n (pc := 92) d_X12_init_92 rfl ?_
  refine oe_bipush (pc := 93) (v := 117) d_X12_init_93 rfl ?_
  refine oe_newaI (pc := 95) (N := 117) d_X12_init_95 (by decide) rfl (Nat.le_of_ble_eq_true rfl) (Nat.le_of_ble_eq_true rfl) (Nat.le_of_ble_eq_true rfl) (Nat.le_of_ble_eq_true rfl) ?_
  refine oEv.re (K2 := ck147) (M2 := cm78) (S2 := [.ref 71, .ref 59]) rfl rfl rfl ?_
  refine oe_putrf (pc := 97) (x := some 71) d_X12_init_97 fl_X12_43 ock12 (k := 17) (Nat.le_of_ble_eq_true rfl) (by decide) rfl ⟨rfl, fun _ => ⟨rfl, rfl⟩⟩ rfl rfl rfl (Nat.le_of_ble_eq_true rfl) rfl ?_
  refine oEv.re (K2 := ck148) (M2 := cm78) (S2 := []) rfl rfl rfl ?_
  refine oe_aload_n (pc := 100) d_X12_init_100 rfl ?_
  refine oe_bipush (pc := 101) (v := 13) d_X12_init_101 rfl ?_
  refine oe_newaI (pc := 103) (N := 13) d_X12_init_103 (by decide) rfl (Nat.le_of_ble_eq_true rfl) (Nat.le_of_ble_eq_true rfl) (Nat.le_of_ble_eq_true rfl) (Nat.le_of_ble_eq_true rfl) ?_
  refine oEv.re (K2 := ck149) (M2 := cm79) (S2 := [.ref 72, .ref 59]) rfl rfl rfl ?_
  refine oe_putrf (pc := 105) (x := some 72) d_X12_init_105 fl_X12_46 ock12 (k := 18) (Nat.le_of_ble_eq_true rfl) (by decide) rfl ⟨rfl, fun _ => ⟨rfl, rfl⟩⟩ rfl rfl rfl (Nat.le_of_ble_eq_true rfl) rfl ?_
  refine oEv.re (K2 := ck150) (M2 := cm79) (S2 := []) rfl rfl rfl ?_
  refine oe_aload_n (pc := 108) d_X12_init_108 rfl ?_
  refine oe_bipush (pc := 109) (v := 20) d_X12_init_109 rfl ?_
  refine oe_newaI (pc := 111) (N := 20) d_X12_init_111 (by decide) rfl (Nat.le_of_ble_eq_true rfl) (Nat.le_of_ble_eq_true rfl) (Nat.le_of_ble_eq_true rfl) (Nat.le_of_ble_eq_true rfl) ?_
  refine oEv.re (K2 := ck151) (M2 := cm80) (S2 := [.ref 73, .ref 59]) rfl rfl rfl ?_
  refine oe_putrf (pc := 113) (x := some 73) d_X12_init_113 fl_X12_49 ock12 (k := 21) (Nat.le_of_ble_eq_true rfl) (by decide) rfl ⟨rfl, fun _ => ⟨rfl, rfl⟩⟩ rfl rfl rfl (Nat.le_of_ble_eq_true rfl) rfl ?_
  refine oEv.re (K2 := ck152) (M2 := cm80) (S2 := []) rfl rfl rfl ?_
  refine oe_aload_n (pc := 116) d_X12_init_116 rfl ?_
  refine oe_bipush (pc := 117) (v := 20) d_X12_init_117 rfl ?_
  refine oe_newaI (pc := 119) (N := 20) d_X12_init_119 (by decide) rfl (Nat.le_of_ble_eq_true rfl) (Nat.le_of_ble_eq_true rfl) (Nat.le_of_ble_eq_true rfl) (Nat.le_of_ble_eq_true rfl) ?_
  refine oEv.re (K2 := ck153) (M2 := cm81) (S2 := [.ref 74, .ref 59]) rfl rfl rfl ?_
  refine oe_putrf (pc := 121) (x := some 74) d_X12_init_121 fl_X12_52 ock12 (k := 22) (Nat.le_of_ble_eq_true rfl) (by decide) rfl ⟨rfl, fun _ => ⟨rfl, rfl⟩⟩ rfl rfl rfl (Nat.le_of_ble_eq_true rfl) rfl ?_
  refine oEv.re (K2 := ck154) (M2 := cm81) (S2 := []) rfl rfl rfl ?_
  refine oe_aload_n (pc := 124) d_X12_init_124 rfl ?_
  refine oe_bipush (pc := 125) (v := 20) d_X12_init_125 rfl ?_
  refine oe_newaI (pc := 127) (N := 20) d_X12_init_127 (by decide) rfl (Nat.le_of_ble_eq_true rfl) (Nat.le_of_ble_eq_true rfl) (Nat.le_of_ble_eq_true rfl) (Nat.le_of_ble_eq_true rfl) ?_
  refine oEv.re (K2 := ck155) (M2 := cm82) (S2 := [.ref 75, .ref 59]) rfl rfl rfl ?_
  refine oe_putrf (pc := 129) (x := some 75) d_X12_init_129 fl_X12_55 ock12 (k := 23) (Nat.le_of_ble_eq_true rfl) (by decide) rfl ⟨rfl, fun _ => ⟨rfl, rfl⟩⟩ rfl rfl rfl (Nat.le_of_ble_eq_true rfl) rfl ?_
  refine oEv.re (K2 := ck156) (M2 := cm82) (S2 := []) rfl rfl rfl ?_
  refine oe_aload_n (pc := 132) d_X12_init_132 rfl ?_
  refine oe_bipush (pc := 133) (v := 20) d_X12_init_133 rfl ?_
  refine oe_newaI (pc := 135) (N := 20) d_X12_init_135 (by decide) rfl (Nat.le_of_ble_eq_true rfl) (Nat.le_of_ble_eq_true rfl) (Nat.le_of_ble_eq_true rfl) (Nat.le_of_ble_eq_true rfl) ?_
  refine oEv.re (K2 := ck157) (M2 := cm83) (S2 := [.ref 76, .ref 59]) rfl rfl rfl ?_
  refine oe_putrf (pc := 137) (x := some 76) d_X12_init_137 fl_X12_58 ock12 (k := 24) (Nat.le_of_ble_eq_true rfl) (by decide) rfl ⟨rfl, fun _ => ⟨rfl, rfl⟩⟩ rfl rfl rfl (Nat.le_of_ble_eq_true rfl) rfl ?_
  refine oEv.re (K2 := ck158) (M2 := cm83) (S2 := []) rfl rfl rfl ?_
  refine oe_aload_n (pc := 140) d_X12_init_140 rfl ?_
  refine oe_sipush (pc := 141) (v := 480) d_X12_init_141 rfl ?_
  refine oe_newaI (pc := 144) (N := 480) d_X12_init_144 (by decide) rfl (Nat.le_of_ble_eq_true rfl) (Nat.le_of_ble_eq_true rfl) (Nat.le_of_ble_eq_true rfl) (Nat.le_of_ble_eq_true rfl) ?_
  refine oEv.re (K2 := ck159) (M2 := cm84) (S2 := [.ref 77, .ref 59]) rfl rfl rfl ?_
  refine oe_putrf (pc := 146) (x := some 77) d_X12_init_146 fl_X12_61 ock12 (k := 25) (Nat.le_of_ble_eq_true rfl) (by decide) rfl ⟨rfl, fun _ => ⟨rfl, rfl⟩⟩ rfl rfl rfl (Nat.le_of_ble_eq_true rfl) rfl ?_
  refine oEv.re (K2 := ck160) (M2 := cm84) (S2 := []) rfl rfl rfl ?_
  refine oe_aload_n (pc := 149) d_X12_init_149 rfl ?_
  refine oe_sipush (pc := 150) (v := 480) d_X12_init_150 rfl ?_
  refine oe_newaI (pc := 153) (N := 480) d_X12_init_153 (by decide) rfl (Nat.le_of_ble_eq_true rfl) (Nat.le_of_ble_eq_true rfl) (Nat.le_of_ble_eq_true rfl) (Nat.le_of_ble_eq_true rfl) ?_
  refine oEv.re (K2 := ck161) (M2 := cm85) (S2 := [.ref 78, .ref 59]) rfl rfl rfl ?_
  refine oe_putrf (pc := 155) (x := some 78) d_X12_init_155 fl_X12_64 ock12 (k := 26) (Nat.le_of_ble_eq_true rfl) (by decide) rfl ⟨rfl, fun _ => ⟨rfl, rfl⟩⟩ rfl rfl rfl (Nat.le_of_ble_eq_true rfl) rfl ?_
  refine oEv.re (K2 := ck162) (M2 := cm85) (S2 := []) rfl rfl rfl ?_
  refine oe_aload_n (pc := 158) d_X12_init_158 rfl ?_
  refine oe_sipush (pc := 159) (v := 480) d_X12_init_159 rfl ?_
  refine oe_newaI (pc := 162) (N := 480) d_X12_init_162 (by decide) rfl (Nat.le_of_ble_eq_true rfl) (Nat.le_of_ble_eq_true rfl) (Nat.le_of_ble_eq_true rfl) (Nat.le_of_ble_eq_true rfl) ?_
  refine oEv.re (K2 := ck163) (M2 := cm86) (S2 := [.ref 79, .ref 59]) rfl rfl rfl ?_
  refine oe_putrf (pc := 164) (x := some 79) d_X12_init_164 fl_X12_67 ock12 (k := 27) (Nat.le_of_ble_eq_true rfl) (by decide) rfl ⟨rfl, fun _ => ⟨rfl, rfl⟩⟩ rfl rfl rfl (Nat.le_of_ble_eq_true rfl) rfl ?_
  refine oEv.re (K2 := ck164) (M2 := cm86) (S2 := []) rfl rfl rfl ?_
  refine oe_aload_n (pc := 167) d_X12_init_167 rfl ?_
  refine oe_bipush (pc := 168) (v := 6) d_X12_init_168 rfl ?_
  refine oe_newaZ (pc := 170) (N := 6) d_X12_init_170 (by decide) rfl (Nat.le_of_ble_eq_true rfl) (Nat.le_of_ble_eq_true rfl) (Nat.le_of_ble_eq_true rfl) (Nat.le_of_ble_eq_true rfl) ?_
  refine oEv.re (K2 := ck165) (M2 := cm87) (S2 := [.ref 80, .ref 59]) rfl rfl rfl ?_
  refine oe_putrf (pc := 172) (x := some 80) d_X12_init_172 fl_X12_70 ock12 (k := 28) (Nat.le_of_ble_eq_true rfl) (by decide) rfl ⟨rfl, fun _ => ⟨rfl, rfl⟩⟩ rfl rfl rfl (Nat.le_of_ble_eq_true rfl) rfl ?_
  refine oEv.re (K2 := ck166) (M2 := cm87) (S2 := []) rfl rfl rfl ?_
  refine oe_aload_n (pc := 175) d_X12_init_175 rfl ?_
  refine oe_bipush (pc := 176) (v := 25) d_X12_init_176 rfl ?_
  refine oe_newaI (pc := 178) (N := 25) d_X12_init_178 (by decide) rfl (Nat.le_of_ble_eq_true rfl) (Nat.le_of_ble_eq_true rfl) (Nat.le_of_ble_eq_true rfl) (Nat.le_of_ble_eq_true rfl) ?_
  refine oEv.re (K2 := ck167) (M2 := cm88) (S2 := [.ref 81, .ref 59]) rfl rfl rfl ?_
  refine oe_putrf (pc := 180) (x := some 81) d_X12_init_180 fl_X12_74 ock12 (k := 32) (Nat.le_of_ble_eq_true rfl) (by decide) rfl ⟨rfl, fun _ => ⟨rfl, rfl⟩⟩ rfl rfl rfl (Nat.le_of_ble_eq_true rfl) rfl ?_
  refine oEv.re (K2 := ck168) (M2 := cm88) (S2 := []) rfl rfl rfl ?_
  refine oe_aload_n (pc := 183) d_X12_init_183 rfl ?_
  refine oe_bipush (pc := 184) (v := 25) d_X12_init_184 rfl ?_
  refine oe_newaI (pc := 186) (N := 25) d_X12_init_186 (by decide) rfl (Nat.le_of_ble_eq_true rfl) (Nat.le_of_ble_eq_true rfl) (Nat.le_of_ble_eq_true rfl) (Nat.le_of_ble_eq_true rfl) ?_
  refine oEv.re (K2 := ck169) (M2 := cm89) (S2 := [.ref 82, .ref 59]) rfl rfl rfl ?_
  refine oe_putrf (pc := 188) (x := some 82) d_X12_init_188 fl_X12_77 ock12 (k := 33) (Nat.le_of_ble_eq_true rfl) (by decide) rfl ⟨rfl, fun _ => ⟨rfl, rfl⟩⟩ rfl rfl rfl (Nat.le_of_ble_eq_true rfl) rfl ?_
  refine oEv.re (K2 := ck170) (M2 := cm89) (S2 := []) rfl rfl rfl ?_
  refine oe_aload_n (pc := 191) d_X12_init_191 rfl ?_
  refine oe_bipush (pc := 192) (v := 25) d_X12_init_192 rfl ?_
  refine oe_newaI (pc := 194) (N := 25) d_X12_init_194 (by decide) rfl (Nat.le_of_ble_eq_true rfl) (Nat.le_of_ble_eq_true rfl) (Nat.le_of_ble_eq_true rfl) (Nat.le_of_ble_eq_true rfl) ?_
  refine oEv.re (K2 := ck171) (M2 := cm90) (S2 := [.ref 83, .ref 59]) rfl rfl rfl ?_
  refine oe_putrf (pc := 196) (x := some 83) d_X12_init_196 fl_X12_80 ock12 (k := 34) (Nat.le_of_ble_eq_true rfl) (by decide) rfl ⟨rfl, fun _ => ⟨rfl, rfl⟩⟩ rfl rfl rfl (Nat.le_of_ble_eq_true rfl) rfl ?_
  refine oEv.re (K2 := ck172) (M2 := cm90) (S2 := []) rfl rfl rfl ?_
  refine oe_aload_n (pc := 199) d_X12_init_199 rfl ?_
  refine oe_bipush (pc := 200) (v := 25) d_X12_init_200 rfl ?_
  refine oe_newaI (pc := 202) (N := 25) d_X12_init_202 (by decide) rfl (Nat.le_of_ble_eq_true rfl) (Nat.le_of_ble_eq_true rfl) (Nat.le_of_ble_eq_true rfl) (Nat.le_of_ble_eq_true rfl) ?_
  refine oEv.re (K2 := ck173) (M2 := cm91) (S2 := [.ref 84, .ref 59]) rfl rfl rfl ?_
  refine oe_putrf (pc := 204) (x := some 84) d_X12_init_204 fl_X12_83 ock12 (k := 35) (Nat.le_of_ble_eq_true rfl) (by decide) rfl ⟨rfl, fun _ => ⟨rfl, rfl⟩⟩ rfl rfl rfl (Nat.le_of_ble_eq_true rfl) rfl ?_
  refine oEv.re (K2 := ck174) (M2 := cm91) (S2 := []) rfl rfl rfl ?_
  refine oe_aload_n (pc := 207) d_X12_init_207 rfl ?_
  refine oe_bipush (pc := 208) (v := 25) d_X12_init_208 rfl ?_
  refine oe_newaI (pc := 210) (N := 25) d_X12_init_210 (by decide) rfl (Nat.le_of_ble_eq_true rfl) (Nat.le_of_ble_eq_true rfl) (Nat.le_of_ble_eq_true rfl) (Nat.le_of_ble_eq_true rfl) ?_
  refine oEv.re (K2 := ck175) (M2 := cm92) (S2 := [.ref 85, .ref 59]) rfl rfl rfl ?_
  refine oe_putrf (pc := 212) (x := some 85) d_X12_init_212 fl_X12_86 ock12 (k := 36) (Nat.le_of_ble_eq_true rfl) (by decide) rfl ⟨rfl, fun _ => ⟨rfl, rfl⟩⟩ rfl rfl rfl (Nat.le_of_ble_eq_true rfl) rfl ?_
  refine oEv.re (K2 := ck176) (M2 := cm92) (S2 := []) rfl rfl rfl ?_
  refine oe_aload_n (pc := 215) d_X12_init_215 rfl ?_
  refine oe_bipush (pc := 216) (v := 25) d_X12_init_216 rfl ?_
  refine oe_newaI (pc := 218) (N := 25) d_X12_init_218 (by decide) rfl (Nat.le_of_ble_eq_true rfl) (Nat.le_of_ble_eq_true rfl) (Nat.le_of_ble_eq_true rfl) (Nat.le_of_ble_eq_true rfl) ?_
  refine oEv.re (K2 := ck177) (M2 := cm93) (S2 := [.ref 86, .ref 59]) rfl rfl rfl ?_
  refine oe_putrf (pc := 220) (x := some 86) d_X12_init_220 fl_X12_89 ock12 (k := 37) (Nat.le_of_ble_eq_true rfl) (by decide) rfl ⟨rfl, fun _ => ⟨rfl, rfl⟩⟩ rfl rfl rfl (Nat.le_of_ble_eq_true rfl) rfl ?_
  refine oEv.re (K2 := ck178) (M2 := cm93) (S2 := []) rfl rfl rfl ?_
  refine oe_aload_n (pc := 223) d_X12_init_223 rfl ?_
  refine oe_bipush (pc := 224) (v := 6) d_X12_init_224 rfl ?_
  refine oe_newaI (pc := 226) (N := 6) d_X12_init_226 (by decide) rfl (Nat.le_of_ble_eq_true rfl) (Nat.le_of_ble_eq_true rfl) (Nat.le_of_ble_eq_true rfl) (Nat.le_of_ble_eq_true rfl) ?_
  refine oEv.re (K2 := ck179) (M2 := cm94) (S2 := [.ref 87, .ref 59]) rfl rfl rfl ?_
  refine oe_putrf (pc := 228) (x := some 87) d_X12_init_228 fl_X12_92 ock12 (k := 40) (Nat.le_of_ble_eq_true rfl) (by decide) rfl ⟨rfl, fun _ => ⟨rfl, rfl⟩⟩ rfl rfl rfl (Nat.le_of_ble_eq_true rfl) rfl ?_
  refine oEv.re (K2 := ck180) (M2 := cm94) (S2 := []) rfl rfl rfl ?_
  refine oe_aload_n (pc := 231) d_X12_init_231 rfl ?_
  refine oe_bipush (pc := 232) (v := 7) d_X12_init_232 rfl ?_
  refine oe_newaI (pc := 234) (N := 7) d_X12_init_234 (by decide) rfl (Nat.le_of_ble_eq_true rfl) (Nat.le_of_ble_eq_true rfl) (Nat.le_of_ble_eq_true rfl) (Nat.le_of_ble_eq_true rfl) ?_
  refine oEv.re (K2 := ck181) (M2 := cm95) (S2 := [.ref 88, .ref 59]) rfl rfl rfl ?_
  refine oe_putrf (pc := 236) (x := some 88) d_X12_init_236 fl_X12_95 ock12 (k := 41) (Nat.le_of_ble_eq_true rfl) (by decide) rfl ⟨rfl, fun _ => ⟨rfl, rfl⟩⟩ rfl rfl rfl (Nat.le_of_ble_eq_true rfl) rfl ?_
  refine oEv.re (K2 := ck182) (M2 := cm95) (S2 := []) rfl rfl rfl ?_
  refine oe_aload_n (pc := 239) d_X12_init_239 rfl ?_
  refine oe_iconst (pc := 240) (v := 4) d_X12_init_240 rfl ?_
  refine oe_newaI (pc := 241) (N := 4) d_X12_init_241 (by decide) rfl (Nat.le_of_ble_eq_true rfl) (Nat.le_of_ble_eq_true rfl) (Nat.le_of_ble_eq_true rfl) (Nat.le_of_ble_eq_true rfl) ?_
  refine oEv.re (K2 := ck183) (M2 := cm96) (S2 := [.ref 89, .ref 59]) rfl rfl rfl ?_
  refine oe_putrf (pc := 243) (x := some 89) d_X12_init_243 fl_X12_98 ock12 (k := 42) (Nat.le_of_ble_eq_true rfl) (by decide) rfl ⟨rfl, fun _ => ⟨rfl, rfl⟩⟩ rfl rfl rfl (Nat.le_of_ble_eq_true rfl) rfl ?_
  refine oEv.re (K2 := ck184) (M2 := cm96) (S2 := []) rfl rfl rfl ?_
  refine oe_aload_n (pc := 246) d_X12_init_246 rfl ?_
  refine oe_iconst (pc := 247) (v := 4) d_X12_init_247 rfl ?_
  refine oe_newaI (pc := 248) (N := 4) d_X12_init_248 (by decide) rfl (Nat.le_of_ble_eq_true rfl) (Nat.le_of_ble_eq_true rfl) (Nat.le_of_ble_eq_true rfl) (Nat.le_of_ble_eq_true rfl) ?_
  refine oEv.re (K2 := ck185) (M2 := cm97) (S2 := [.ref 90, .ref 59]) rfl rfl rfl ?_
  refine oe_putrf (pc := 250) (x := some 90) d_X12_init_250 fl_X12_101 ock12 (k := 43) (Nat.le_of_ble_eq_true rfl) (by decide) rfl ⟨rfl, fun _ => ⟨rfl, rfl⟩⟩ rfl rfl rfl (Nat.le_of_ble_eq_true rfl) rfl ?_
  refine oEv.re (K2 := ck186) (M2 := cm97) (S2 := []) rfl rfl rfl ?_
  refine oe_aload_n (pc := 253) d_X12_init_253 rfl ?_
  refine oe_bipush (pc := 254) (v := 8) d_X12_init_254 rfl ?_
  refine oe_newaI (pc := 256) (N := 8) d_X12_init_256 (by decide) rfl (Nat.le_of_ble_eq_true rfl) (Nat.le_of_ble_eq_true rfl) (Nat.le_of_ble_eq_true rfl) (Nat.le_of_ble_eq_true rfl) ?_
  refine oEv.re (K2 := ck187) (M2 := cm98) (S2 := [.ref 91, .ref 59]) rfl rfl rfl ?_
  refine oe_putrf (pc := 258) (x := some 91) d_X12_init_258 fl_X12_104 ock12 (k := 50) (Nat.le_of_ble_eq_true rfl) (by decide) rfl ⟨rfl, fun _ => ⟨rfl, rfl⟩⟩ rfl rfl rfl (Nat.le_of_ble_eq_true rfl) rfl ?_
  refine oEv.re (K2 := ck188) (M2 := cm98) (S2 := []) rfl rfl rfl ?_
  refine oe_aload_n (pc := 261) d_X12_init_261 rfl ?_
  refine oe_iconst (pc := 262) (v := 4) d_X12_init_262 rfl ?_
  refine oe_newaI (pc := 263) (N := 4) d_X12_init_263 (by decide) rfl (Nat.le_of_ble_eq_true rfl) (Nat.le_of_ble_eq_true rfl) (Nat.le_of_ble_eq_true rfl) (Nat.le_of_ble_eq_true rfl) ?_
  refine oEv.re (K2 := ck189) (M2 := cm99) (S2 := [.ref 92, .ref 59]) rfl rfl rfl ?_
  refine oe_putrf (pc := 265) (x := some 92) d_X12_init_265 fl_X12_107 ock12 (k := 51) (Nat.le_of_ble_eq_true rfl) (by decide) rfl ⟨rfl, fun _ => ⟨rfl, rfl⟩⟩ rfl rfl rfl (Nat.le_of_ble_eq_true rfl) rfl ?_
  refine oEv.re (K2 := ck190) (M2 := cm99) (S2 := []) rfl rfl rfl ?_
  refine oe_aload_n (pc := 268) d_X12_init_268 rfl ?_
  refine oe_bipush (pc := 269) (v := 12) d_X12_init_269 rfl ?_
  refine oe_newaI (pc := 271) (N := 12) d_X12_init_271 (by decide) rfl (Nat.le_of_ble_eq_true rfl) (Nat.le_of_ble_eq_true rfl) (Nat.le_of_ble_eq_true rfl) (Nat.le_of_ble_eq_true rfl) ?_
  refine oEv.re (K2 := ck191) (M2 := cm100) (S2 := [.ref 93, .ref 59]) rfl rfl rfl ?_
  refine oe_putrf (pc := 273) (x := some 93) d_X12_init_273 fl_X12_110 ock12 (k := 54) (Nat.le_of_ble_eq_true rfl) (by decide) rfl ⟨rfl, fun _ => ⟨rfl, rfl⟩⟩ rfl rfl rfl (Nat.le_of_ble_eq_true rfl) rfl ?_
  refine oEv.re (K2 := ck192) (M2 := cm100) (S2 := []) rfl rfl rfl ?_
  refine oe_aload_n (pc := 276) d_X12_init_276 rfl ?_
  refine oe_bipush (pc := 277) (v := 9) d_X12_init_277 rfl ?_
  refine oe_newaI (pc := 279) (N := 9) d_X12_init_279 (by decide) rfl (Nat.le_of_ble_eq_true rfl) (Nat.le_of_ble_eq_true rfl) (Nat.le_of_ble_eq_true rfl) (Nat.le_of_ble_eq_true rfl) ?_
  refine oEv.re (K2 := ck193) (M2 := cm101) (S2 := [.ref 94, .ref 59]) rfl rfl rfl ?_
  refine oe_putrf (pc := 281) (x := some 94) d_X12_init_281 fl_X12_113 ock12 (k := 56) (Nat.le_of_ble_eq_true rfl) (by decide) rfl ⟨rfl, fun _ => ⟨rfl, rfl⟩⟩ rfl rfl rfl (Nat.le_of_ble_eq_true rfl) rfl ?_
  refine oEv.re (K2 := ck194) (M2 := cm101) (S2 := []) rfl rfl rfl ?_
  refine oe_aload_n (pc := 284) d_X12_init_284 rfl ?_
  refine oe_bipush (pc := 285) (v := 9) d_X12_init_285 rfl ?_
  refine oe_newaI (pc := 287) (N := 9) d_X12_init_287 (by decide) rfl (Nat.le_of_ble_eq_true rfl) (Nat.le_of_ble_eq_true rfl) (Nat.le_of_ble_eq_true rfl) (Nat.le_of_ble_eq_true rfl) ?_
  refine oEv.re (K2 := ck195) (M2 := cm102) (S2 := [.ref 95, .ref 59]) rfl rfl rfl ?_
  refine oe_putrf (pc := 289) (x := some 95) d_X12_init_289 fl_X12_116 ock12 (k := 57) (Nat.le_of_ble_eq_true rfl) (by decide) rfl ⟨rfl, fun _ => ⟨rfl, rfl⟩⟩ rfl rfl rfl (Nat.le_of_ble_eq_true rfl) rfl ?_
  refine oEv.re (K2 := ck196) (M2 := cm102) (S2 := []) rfl rfl rfl ?_
  refine oe_aload_n (pc := 292) d_X12_init_292 rfl ?_
  refine oe_bipush (pc := 293) (v := 24) d_X12_init_293 rfl ?_
  refine oe_newaI (pc := 295) (N := 24) d_X12_init_295 (by decide) rfl (Nat.le_of_ble_eq_true rfl) (Nat.le_of_ble_eq_true rfl) (Nat.le_of_ble_eq_true rfl) (Nat.le_of_ble_eq_true rfl) ?_
  refine oEv.re (K2 := ck197) (M2 := cm103) (S2 := [.ref 96, .ref 59]) rfl rfl rfl ?_
  refine oe_putrf (pc := 297) (x := some 96) d_X12_init_297 fl_X12_119 ock12 (k := 58) (Nat.le_of_ble_eq_true rfl) (by decide) rfl ⟨rfl, fun _ => ⟨rfl, rfl⟩⟩ rfl rfl rfl (Nat.le_of_ble_eq_true rfl) rfl ?_
  refine oEv.re (K2 := ck198) (M2 := cm103) (S2 := []) rfl rfl rfl ?_
  refine oe_aload_n (pc := 300) d_X12_init_300 rfl ?_
  refine oe_bipush (pc := 301) (v := 6) d_X12_init_301 rfl ?_
  refine oe_newaI (pc := 303) (N := 6) d_X12_init_303 (by decide) rfl (Nat.le_of_ble_eq_true rfl) (Nat.le_of_ble_eq_true rfl) (Nat.le_of_ble_eq_true rfl) (Nat.le_of_ble_eq_true rfl) ?_
  refine oEv.re (K2 := ck199) (M2 := cm104) (S2 := [.ref 97, .ref 59]) rfl rfl rfl ?_
  refine oe_putrf (pc := 305) (x := some 97) d_X12_init_305 fl_X12_122 ock12 (k := 62) (Nat.le_of_ble_eq_true rfl) (by decide) rfl ⟨rfl, fun _ => ⟨rfl, rfl⟩⟩ rfl rfl rfl (Nat.le_of_ble_eq_true rfl) rfl ?_
  refine oEv.re (K2 := ck200) (M2 := cm104) (S2 := []) rfl rfl rfl ?_
  refine oe_aload_n (pc := 308) d_X12_init_308 rfl ?_
  refine oe_bipush (pc := 309) (v := 6) d_X12_init_309 rfl ?_
  refine oe_newaI (pc := 311) (N := 6) d_X12_init_311 (by decide) rfl (Nat.le_of_ble_eq_true rfl) (Nat.le_of_ble_eq_true rfl) (Nat.le_of_ble_eq_true rfl) (Nat.le_of_ble_eq_true rfl) ?_
  refine oEv.re (K2 := ck201) (M2 := cm105) (S2 := [.ref 98, .ref 59]) rfl rfl rfl ?_
  refine oe_putrf (pc := 313) (x := some 98) d_X12_init_313 fl_X12_125 ock12 (k := 63) (Nat.le_of_ble_eq_true rfl) (by decide) rfl ⟨rfl, fun _ => ⟨rfl, rfl⟩⟩ rfl rfl rfl (Nat.le_of_ble_eq_true rfl) rfl ?_
  refine oEv.re (K2 := ck202) (M2 := cm105) (S2 := []) rfl rfl rfl ?_
  refine oe_aload_n (pc := 316) d_X12_init_316 rfl ?_
  refine oe_sipush (pc := 317) (v := 360) d_X12_init_317 rfl ?_
  refine oe_newaL (pc := 320) (N := 360) d_X12_init_320 (by decide) rfl (Nat.le_of_ble_eq_true rfl) (Nat.le_of_ble_eq_true rfl) (Nat.le_of_ble_eq_true rfl) (Nat.le_of_ble_eq_true rfl) ?_
  refine oEv.re (K2 := ck203) (M2 := cm106) (S2 := [.ref 99, .ref 59]) rfl rfl rfl ?_
  refine oe_putrf (pc := 322) (x := some 99) d_X12_init_322 fl_X12_128 ock12 (k := 64) (Nat.le_of_ble_eq_true rfl) (by decide) rfl ⟨rfl, fun _ => ⟨rfl, rfl⟩⟩ rfl rfl rfl (Nat.le_of_ble_eq_true rfl) rfl ?_
  refine oEv.re (K2 := ck204) (M2 := cm106) (S2 := []) rfl rfl rfl ?_
  refine oe_aload_n (pc := 325) d_X12_init_325 rfl ?_
  refine oe_bipush (pc := 326) (v := 60) d_X12_init_326 rfl ?_
  refine oe_newaL (pc := 328) (N := 60) d_X12_init_328 (by decide) rfl (Nat.le_of_ble_eq_true rfl) (Nat.le_of_ble_eq_true rfl) (Nat.le_of_ble_eq_true rfl) (Nat.le_of_ble_eq_true rfl) ?_
  refine oEv.re (K2 := ck205) (M2 := cm107) (S2 := [.ref 100, .ref 59]) rfl rfl rfl ?_
  refine oe_putrf (pc := 330) (x := some 100) d_X12_init_330 fl_X12_132 ock12 (k := 65) (Nat.le_of_ble_eq_true rfl) (by decide) rfl ⟨rfl, fun _ => ⟨rfl, rfl⟩⟩ rfl rfl rfl (Nat.le_of_ble_eq_true rfl) rfl ?_
  refine oEv.re (K2 := ck206) (M2 := cm107) (S2 := []) rfl rfl rfl ?_
  refine oe_iconst (pc := 333) (v := 0) d_X12_init_333 rfl ?_
  refine oe_istore_n (pc := 334) (L2 := [some (.ref 59), some (.int 0)]) d_X12_init_334 rfl rfl (Nat.le_of_ble_eq_true rfl) rfl ?_
  refine oe_iload_n (pc := 335) d_X12_init_335 rfl ?_
  refine oe_bipush (pc := 336) (v := 6) d_X12_init_336 rfl ?_
  refine oe_icmp_ge (pc := 338) (tgt := 354) d_X12_init_338 (by decide) (fun c => absurd c (by decide)) (fun _ => ?_)
  refine oe_aload_n (pc := 341) d_X12_init_341 rfl ?_
  refine oe_getr (pc := 342) d_X12_init_342 fl_X12_122 ock12 (k := 62) (b := 97) (Nat.le_of_ble_eq_true rfl) (by decide) (Nat.le_of_ble_eq_true rfl) rfl rfl ?_
  refine oe_iload_n (pc := 345) d_X12_init_345 rfl ?_
  refine oe_iconst (pc := 346) (v := (-1)) d_X12_init_346 rfl ?_
  refine oe_iast (pc := 347) (n := 6) d_X12_init_347 (Nat.le_of_ble_eq_true rfl) rfl (by unfold vp_in; decide) ?_
  refine oEv.re (K2 := ck206) (M2 := cm108) (S2 := []) rfl rfl rfl ?_
  refine oe_iinc (pc := 348) (v := 1) (L2 := [some (.ref 59), some (.int 1)]) d_X12_init_348 rfl rfl rfl (Nat.le_of_ble_eq_true rfl) rfl ?_
  refine oe_goto (pc := 351) (tgt := 335) d_X12_init_351 (by decide) ?_
  refine oe_iload_n (pc := 335) d_X12_init_335 rfl ?_
  refine oe_bipush (pc := 336) (v := 6) d_X12_init_336 rfl ?_
  refine oe_icmp_ge (pc := 338) (tgt := 354) d_X12_init_338 (by decide) (fun c => absurd c (by decide)) (fun _ => ?_)
  refine oe_aload_n (pc := 341) d_X12_init_341 rfl ?_
  refine oe_getr (pc := 342) d_X12_init_342 fl_X12_122 ock12 (k := 62) (b := 97) (Nat.le_of_ble_eq_true rfl) (by decide) (Nat.le_of_ble_eq_true rfl) rfl rfl ?_
  refine oe_iload_n (pc := 345) d_X12_init_345 rfl ?_
  refine oe_iconst (pc := 346) (v := (-1)) d_X12_init_346 rfl ?_
  refine oe_iast (pc := 347) (n := 6) d_X12_init_347 (Nat.le_of_ble_eq_true rfl) rfl (by unfold vp_in; decide) ?_
  refine oEv.re (K2 := ck206) (M2 := cm109) (S2 := []) rfl rfl rfl ?_
  refine oe_iinc (pc := 348) (v := 2) (L2 := [some (.ref 59), some (.int 2)]) d_X12_init_348 rfl rfl rfl (Nat.le_of_ble_eq_true rfl) rfl ?_
  refine oe_goto (pc := 351) (tgt := 335) d_X12_init_351 (by decide) ?_
  refine oe_iload_n (pc := 335) d_X12_init_335 rfl ?_
  refine oe_bipush (pc := 336) (v := 6) d_X12_init_336 rfl ?_
  refine oe_icmp_ge (pc := 338) (tgt := 354) d_X12_init_338 (by decide) (fun c => absurd c (by decide)) (fun _ => ?_)
  refine oe_aload_n (pc := 341) d_X12_init_341 rfl ?_
  refine oe_getr (pc := 342) d_X12_init_342 fl_X12_122 ock12 (k := 62) (b := 97) (Nat.le_of_ble_eq_true rfl) (by decide) (Nat.le_of_ble_eq_true rfl) rfl rfl ?_
  refine oe_iload_n (pc := 345) d_X12_init_345 rfl ?_
  refine oe_iconst (pc := 346) (v := (-1)) d_X12_init_346 rfl ?_
  refine oe_iast (pc := 347) (n := 6) d_X12_init_347 (Nat.le_of_ble_eq_true rfl) rfl (by unfold vp_in; decide) ?_
  refine oEv.re (K2 := ck206) (M2 := cm110) (S2 := []) rfl rfl rfl ?_
  refine oe_iinc (pc := 348) (v := 3) (L2 := [some (.ref 59), some (.int 3)]) d_X12_init_348 rfl rfl rfl (Nat.le_of_ble_eq_true rfl) rfl ?_
  refine oe_goto (pc := 351) (tgt := 335) d_X12_init_351 (by decide) ?_
  refine oe_iload_n (pc := 335) d_X12_init_335 rfl ?_
  refine oe_bipush (pc := 336) (v := 6) d_X12_init_336 rfl ?_
  refine oe_icmp_ge (pc := 338) (tgt := 354) d_X12_init_338 (by decide) (fun c => absurd c (by decide)) (fun _ => ?_)
  refine oe_aload_n (pc := 341) d_X12_init_341 rfl ?_
  refine oe_getr (pc := 342) d_X12_init_342 fl_X12_122 ock12 (k := 62) (b := 97) (Nat.le_of_ble_eq_true rfl) (by decide) (Nat.le_of_ble_eq_true rfl) rfl rfl ?_
  refine oe_iload_n (pc := 345) d_X12_init_345 rfl ?_
  refine oe_iconst (pc := 346) (v := (-1)) d_X12_init_346 rfl ?_
  refine oe_iast (pc := 347) (n := 6) d_X12_init_347 (Nat.le_of_ble_eq_true rfl) rfl (by unfold vp_in; decide) ?_
  refine oEv.re (K2 := ck206) (M2 := cm111) (S2 := []) rfl rfl rfl ?_
  refine oe_iinc (pc := 348) (v := 4) (L2 := [some (.ref 59), some (.int 4)]) d_X12_init_348 rfl rfl rfl (Nat.le_of_ble_eq_true rfl) rfl ?_
  refine oe_goto (pc := 351) (tgt := 335) d_X12_init_351 (by decide) ?_
  refine oe_iload_n (pc := 335) d_X12_init_335 rfl ?_
  refine oe_bipush (pc := 336) (v := 6) d_X12_init_336 rfl ?_
  refine oe_icmp_ge (pc := 338) (tgt := 354) d_X12_init_338 (by decide) (fun c => absurd c (by decide)) (fun _ => ?_)
  refine oe_aload_n (pc := 341) d_X12_init_341 rfl ?_
  refine oe_getr (pc := 342) d_X12_init_342 fl_X12_122 ock12 (k := 62) (b := 97) (Nat.le_of_ble_eq_true rfl) (by decide) (Nat.le_of_ble_eq_true rfl) rfl rfl ?_
  refine oe_iload_n (pc := 345) d_X12_init_345 rfl ?_
  refine oe_iconst (pc := 346) (v := (-1)) d_X12_init_346 rfl ?_
  refine oe_iast (pc := 347) (n := 6) d_X12_init_347 (Nat.le_of_ble_eq_true rfl) rfl (by unfold vp_in; decide) ?_
  refine oEv.re (K2 := ck206) (M2 := cm112) (S2 := []) rfl rfl rfl ?_
  refine oe_iinc (pc := 348) (v := 5) (L2 := [some (.ref 59), some (.int 5)]) d_X12_init_348 rfl rfl rfl (Nat.le_of_ble_eq_true rfl) rfl ?_
  refine oe_goto (pc := 351) (tgt := 335) d_X12_init_351 (by decide) ?_
  refine oe_iload_n (pc := 335) d_X12_init_335 rfl ?_
  refine oe_bipush (pc := 336) (v := 6) d_X12_init_336 rfl ?_
  refine oe_icmp_ge (pc := 338) (tgt := 354) d_X12_init_338 (by decide) (fun c => absurd c (by decide)) (fun _ => ?_)
  refine oe_aload_n (pc := 341) d_X12_init_341 rfl ?_
  refine oe_getr (pc := 342) d_X12_init_342 fl_X12_122 ock12 (k := 62) (b := 97) (Nat.le_of_ble_eq_true rfl) (by decide) (Nat.le_of_ble_eq_true rfl) rfl rfl ?_
  refine oe_iload_n (pc := 345) d_X12_init_345 rfl ?_
  refine oe_iconst (pc := 346) (v := (-1)) d_X12_init_346 rfl ?_
  refine oe_iast (pc := 347) (n := 6) d_X12_init_347 (Nat.le_of_ble_eq_true rfl) rfl (by unfold vp_in; decide) ?_
  refine oEv.re (K2 := ck206) (M2 := cm113) (S2 := []) rfl rfl rfl ?_
  refine oe_iinc (pc := 348) (v := 6) (L2 := [some (.ref 59), some (.int 6)]) d_X12_init_348 rfl rfl rfl (Nat.le_of_ble_eq_true rfl) rfl ?_
  refine oe_goto (pc := 351) (tgt := 335) d_X12_init_351 (by decide) ?_
  refine oe_iload_n (pc := 335) d_X12_init_335 rfl ?_
  refine oe_bipush (pc := 336) (v := 6) d_X12_init_336 rfl ?_
  refine oe_icmp_ge (pc := 338) (tgt := 354) d_X12_init_338 (by decide) (fun _ => ?_) (fun c => absurd (by decide) c)
  refine oe_iconst (pc := 354) (v := 0) d_X12_init_354 rfl ?_
  refine oe_istore_n (pc := 355) (L2 := [some (.ref 59), some (.int 0)]) d_X12_init_355 rfl rfl (Nat.le_of_ble_eq_true rfl) rfl ?_
  refine oe_iload_n (pc := 356) d_X12_init_356 rfl ?_
  refine oe_iconst (pc := 357) (v := 3) d_X12_init_357 rfl ?_
  refine oe_icmp_ge (pc := 358) (tgt := 390) d_X12_init_358 (by decide) (fun c => absurd c (by decide)) (fun _ => ?_)
  refine oe_aload_n (pc := 361) d_X12_init_361 rfl ?_
  refine oe_getr (pc := 362) d_X12_init_362 fl_X12_7 ock12 (k := 0) (b := 60) (Nat.le_of_ble_eq_true rfl) (by decide) (Nat.le_of_ble_eq_true rfl) rfl rfl ?_
  refine oe_bipush (pc := 365) (v := 12) d_X12_init_365 rfl ?_
  refine oe_iload_n (pc := 367) d_X12_init_367 rfl ?_
  refine oe_iadd (pc := 368) d_X12_init_368 ?_
  refine oEv.re (K2 := ck206) (M2 := cm113) (S2 := [.int 12, .ref 60]) rfl rfl rfl ?_
  refine oe_sipush (pc := 369) (v := 20000) d_X12_init_369 rfl ?_
  refine oe_iast (pc := 372) (n := 21) d_X12_init_372 (Nat.le_of_ble_eq_true rfl) rfl (by unfold vp_in; decide) ?_
  refine oEv.re (K2 := ck206) (M2 := cm114) (S2 := []) rfl rfl rfl ?_
  refine oe_aload_n (pc := 373) d_X12_init_373 rfl ?_
  refine oe_getr (pc := 374) d_X12_init_374 fl_X12_7 ock12 (k := 0) (b := 60) (Nat.le_of_ble_eq_true rfl) (by decide) (Nat.le_of_ble_eq_true rfl) rfl rfl ?_
  refine oe_bipush (pc := 377) (v := 15) d_X12_init_377 rfl ?_
  refine oe_iload_n (pc := 379) d_X12_init_379 rfl ?_
  refine oe_iadd (pc := 380) d_X12_init_380 ?_
  refine oEv.re (K2 := ck206) (M2 := cm114) (S2 := [.int 15, .ref 60]) rfl rfl rfl ?_
  refine oe_bipush (pc := 381) (v := 30) d_X12_init_381 rfl ?_
  refine oe_iast (pc := 383) (n := 21) d_X12_init_383 (Nat.le_of_ble_eq_true rfl) rfl (by unfold vp_in; decide) ?_
  refine oEv.re (K2 := ck206) (M2 := cm115) (S2 := []) rfl rfl rfl ?_
  refine oe_iinc (pc := 384) (v := 1) (L2 := [some (.ref 59), some (.int 1)]) d_X12_init_384 rfl rfl rfl (Nat.le_of_ble_eq_true rfl) rfl ?_
  refine oe_goto (pc := 387) (tgt := 356) d_X12_init_387 (by decide) ?_
  refine oe_iload_n (pc := 356) d_X12_init_356 rfl ?_
  refine oe_iconst (pc := 357) (v := 3) d_X12_init_357 rfl ?_
  refine oe_icmp_ge (pc := 358) (tgt := 390) d_X12_init_358 (by decide) (fun c => absurd c (by decide)) (fun _ => ?_)
  refine oe_aload_n (pc := 361) d_X12_init_361 rfl ?_
  refine oe_getr (pc := 362) d_X12_init_362 fl_X12_7 ock12 (k := 0) (b := 60) (Nat.le_of_ble_eq_true rfl) (by decide) (Nat.le_of_ble_eq_true rfl) rfl rfl ?_
  refine oe_bipush (pc := 365) (v := 12) d_X12_init_365 rfl ?_
  refine oe_iload_n (pc := 367) d_X12_init_367 rfl ?_
  refine oe_iadd (pc := 368) d_X12_init_368 ?_
  refine oEv.re (K2 := ck206) (M2 := cm115) (S2 := [.int 13, .ref 60]) rfl rfl rfl ?_
  refine oe_sipush (pc := 369) (v := 20000) d_X12_init_369 rfl ?_
  refine oe_iast (pc := 372) (n := 21) d_X12_init_372 (Nat.le_of_ble_eq_true rfl) rfl (by unfold vp_in; decide) ?_
  refine oEv.re (K2 := ck206) (M2 := cm116) (S2 := []) rfl rfl rfl ?_
  refine oe_aload_n (pc := 373) d_X12_init_373 rfl ?_
  refine oe_getr (pc := 374) d_X12_init_374 fl_X12_7 ock12 (k := 0) (b := 60) (Nat.le_of_ble_eq_true rfl) (by decide) (Nat.le_of_ble_eq_true rfl) rfl rfl ?_
  refine oe_bipush (pc := 377) (v := 15) d_X12_init_377 rfl ?_
  refine oe_iload_n (pc := 379) d_X12_init_379 rfl ?_
  refine oe_iadd (pc := 380) d_X12_init_380 ?_
  refine oEv.re (K2 := ck206) (M2 := cm116) (S2 := [.int 16, .ref 60]) rfl rfl rfl ?_
  refine oe_bipush (pc := 381) (v := 30) d_X12_init_381 rfl ?_
  refine oe_iast (pc := 383) (n := 21) d_X12_init_383 (Nat.le_of_ble_eq_true rfl) rfl (by unfold vp_in; decide) ?_
  refine oEv.re (K2 := ck206) (M2 := cm117) (S2 := []) rfl rfl rfl ?_
  refine oe_iinc (pc := 384) (v := 2) (L2 := [some (.ref 59), some (.int 2)]) d_X12_init_384 rfl rfl rfl (Nat.le_of_ble_eq_true rfl) rfl ?_
  refine oe_goto (pc := 387) (tgt := 356) d_X12_init_387 (by decide) ?_
  refine oe_iload_n (pc := 356) d_X12_init_356 rfl ?_
  refine oe_iconst (pc := 357) (v := 3) d_X12_init_357 rfl ?_
  refine oe_icmp_ge (pc := 358) (tgt := 390) d_X12_init_358 (by decide) (fun c => absurd c (by decide)) (fun _ => ?_)
  refine oe_aload_n (pc := 361) d_X12_init_361 rfl ?_
  refine oe_getr (pc := 362) d_X12_init_362 fl_X12_7 ock12 (k := 0) (b := 60) (Nat.le_of_ble_eq_true rfl) (by decide) (Nat.le_of_ble_eq_true rfl) rfl rfl ?_
  refine oe_bipush (pc := 365) (v := 12) d_X12_init_365 rfl ?_
  refine oe_iload_n (pc := 367) d_X12_init_367 rfl ?_
  refine oe_iadd (pc := 368) d_X12_init_368 ?_
  refine oEv.re (K2 := ck206) (M2 := cm117) (S2 := [.int 14, .ref 60]) rfl rfl rfl ?_
  refine oe_sipush (pc := 369) (v := 20000) d_X12_init_369 rfl ?_
  refine oe_iast (pc := 372) (n := 21) d_X12_init_372 (Nat.le_of_ble_eq_true rfl) rfl (by unfold vp_in; decide) ?_
  refine oEv.re (K2 := ck206) (M2 := cm118) (S2 := []) rfl rfl rfl ?_
  refine oe_aload_n (pc := 373) d_X12_init_373 rfl ?_
  refine oe_getr (pc := 374) d_X12_init_374 fl_X12_7 ock12 (k := 0) (b := 60) (Nat.le_of_ble_eq_true rfl) (by decide) (Nat.le_of_ble_eq_true rfl) rfl rfl ?_
  refine oe_bipush (pc := 377) (v := 15) d_X12_init_377 rfl ?_
  refine oe_iload_n (pc := 379) d_X12_init_379 rfl ?_
  refine oe_iadd (pc := 380) d_X12_init_380 ?_
  refine oEv.re (K2 := ck206) (M2 := cm118) (S2 := [.int 17, .ref 60]) rfl rfl rfl ?_
  refine oe_bipush (pc := 381) (v := 30) d_X12_init_381 rfl ?_
  refine oe_iast (pc := 383) (n := 21) d_X12_init_383 (Nat.le_of_ble_eq_true rfl) rfl (by unfold vp_in; decide) ?_
  refine oEv.re (K2 := ck206) (M2 := cm119) (S2 := []) rfl rfl rfl ?_
  refine oe_iinc (pc := 384) (v := 3) (L2 := [some (.ref 59), some (.int 3)]) d_X12_init_384 rfl rfl rfl (Nat.le_of_ble_eq_true rfl) rfl ?_
  refine oe_goto (pc := 387) (tgt := 356) d_X12_init_387 (by decide) ?_
  refine oe_iload_n (pc := 356) d_X12_init_356 rfl ?_
  refine oe_iconst (pc := 357) (v := 3) d_X12_init_357 rfl ?_
  refine oe_icmp_ge (pc := 358) (tgt := 390) d_X12_init_358 (by decide) (fun _ => ?_) (fun c => absurd (by decide) c)
  exact oe_vret (pc := 390) d_X12_init_390 rfl
