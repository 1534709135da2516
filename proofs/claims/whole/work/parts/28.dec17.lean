/-! walked by program: X12_isStored, X12_placeFrom, X12_boresFrom, X12_most, X12_orNone, X12_isPart, X12_thinkBut -/
theorem d_X12_isStored_0 : decode J_X12_isStored.2.1 0 = .ok (.iconst 0, 1) := by decide +kernel
theorem d_X12_isStored_1 : decode J_X12_isStored.2.1 1 = .ok (.istore_n 1, 1) := by decide +kernel
theorem d_X12_isStored_2 : decode J_X12_isStored.2.1 2 = .ok (.iload_n 1, 1) := by decide +kernel
theorem d_X12_isStored_3 : decode J_X12_isStored.2.1 3 = .ok (.iconst 3, 1) := by decide +kernel
theorem d_X12_isStored_4 : decode J_X12_isStored.2.1 4 = .ok (.if_icmp .ge 87, 3) := by decide +kernel
theorem d_X12_isStored_7 : decode J_X12_isStored.2.1 7 = .ok (.iconst 0, 1) := by decide +kernel
theorem d_X12_isStored_8 : decode J_X12_isStored.2.1 8 = .ok (.istore_n 2, 1) := by decide +kernel
theorem d_X12_isStored_9 : decode J_X12_isStored.2.1 9 = .ok (.iconst 0, 1) := by decide +kernel
theorem d_X12_isStored_10 : decode J_X12_isStored.2.1 10 = .ok (.istore_n 3, 1) := by decide +kernel
theorem d_X12_isStored_11 : decode J_X12_isStored.2.1 11 = .ok (.iload_n 3, 1) := by decide +kernel
theorem d_X12_isStored_12 : decode J_X12_isStored.2.1 12 = .ok (.aload_n 0, 1) := by decide +kernel
theorem d_X12_isStored_13 : decode J_X12_isStored.2.1 13 = .ok (.getfield 246, 3) := by decide +kernel
theorem d_X12_isStored_16 : decode J_X12_isStored.2.1 16 = .ok (.if_icmp .ge 54, 3) := by decide +kernel
theorem d_X12_isStored_19 : decode J_X12_isStored.2.1 19 = .ok (.iload_n 2, 1) := by decide +kernel
theorem d_X12_isStored_20 : decode J_X12_isStored.2.1 20 = .ok (.aload_n 0, 1) := by decide +kernel
theorem d_X12_isStored_21 : decode J_X12_isStored.2.1 21 = .ok (.getfield 74, 3) := by decide +kernel
theorem d_X12_isStored_24 : decode J_X12_isStored.2.1 24 = .ok (.iload_n 3, 1) := by decide +kernel
theorem d_X12_isStored_25 : decode J_X12_isStored.2.1 25 = .ok (.iaload, 1) := by decide +kernel
theorem d_X12_isStored_26 : decode J_X12_isStored.2.1 26 = .ok (.iconst 1, 1) := by decide +kernel
theorem d_X12_isStored_27 : decode J_X12_isStored.2.1 27 = .ok (.if_icmp .ne 34, 3) := by decide +kernel
theorem d_X12_isStored_30 : decode J_X12_isStored.2.1 30 = .ok (.aload_n 0, 1) := by decide +kernel
theorem d_X12_isStored_31 : decode J_X12_isStored.2.1 31 = .ok (.getfield 80, 3) := by decide +kernel
theorem d_X12_isStored_34 : decode J_X12_isStored.2.1 34 = .ok (.iload_n 3, 1) := by decide +kernel
theorem d_X12_isStored_35 : decode J_X12_isStored.2.1 35 = .ok (.iaload, 1) := by decide +kernel
theorem d_X12_isStored_36 : decode J_X12_isStored.2.1 36 = .ok (.iload_n 1, 1) := by decide +kernel
theorem d_X12_isStored_37 : decode J_X12_isStored.2.1 37 = .ok (.if_icmp .ne 24, 3) := by decide +kernel
theorem d_X12_isStored_40 : decode J_X12_isStored.2.1 40 = .ok (.aload_n 0, 1) := by decide +kernel
theorem d_X12_isStored_41 : decode J_X12_isStored.2.1 41 = .ok (.getfield 28, 3) := by decide +kernel
theorem d_X12_isStored_44 : decode J_X12_isStored.2.1 44 = .ok (.aload_n 0, 1) := by decide +kernel
theorem d_X12_isStored_45 : decode J_X12_isStored.2.1 45 = .ok (.getfield 77, 3) := by decide +kernel
theorem d_X12_isStored_48 : decode J_X12_isStored.2.1 48 = .ok (.iload_n 3, 1) := by decide +kernel
theorem d_X12_isStored_49 : decode J_X12_isStored.2.1 49 = .ok (.iaload, 1) := by decide +kernel
theorem d_X12_isStored_50 : decode J_X12_isStored.2.1 50 = .ok (.iaload, 1) := by decide +kernel
theorem d_X12_isStored_51 : decode J_X12_isStored.2.1 51 = .ok (.aload_n 0, 1) := by decide +kernel
theorem d_X12_isStored_52 : decode J_X12_isStored.2.1 52 = .ok (.getfield 83, 3) := by decide +kernel
theorem d_X12_isStored_55 : decode J_X12_isStored.2.1 55 = .ok (.iload_n 3, 1) := by decide +kernel
theorem d_X12_isStored_56 : decode J_X12_isStored.2.1 56 = .ok (.iaload, 1) := by decide +kernel
theorem d_X12_isStored_57 : decode J_X12_isStored.2.1 57 = .ok (.imul, 1) := by decide +kernel
theorem d_X12_isStored_58 : decode J_X12_isStored.2.1 58 = .ok (.goto 4, 3) := by decide +kernel
theorem d_X12_isStored_61 : decode J_X12_isStored.2.1 61 = .ok (.iconst 0, 1) := by decide +kernel
theorem d_X12_isStored_62 : decode J_X12_isStored.2.1 62 = .ok (.iadd, 1) := by decide +kernel
theorem d_X12_isStored_63 : decode J_X12_isStored.2.1 63 = .ok (.istore_n 2, 1) := by decide +kernel
theorem d_X12_isStored_64 : decode J_X12_isStored.2.1 64 = .ok (.iinc 3 1, 3) := by decide +kernel
theorem d_X12_isStored_67 : decode J_X12_isStored.2.1 67 = .ok (.goto (-56), 3) := by decide +kernel
theorem d_X12_isStored_70 : decode J_X12_isStored.2.1 70 = .ok (.iload_n 2, 1) := by decide +kernel
theorem d_X12_isStored_71 : decode J_X12_isStored.2.1 71 = .ok (.aload_n 0, 1) := by decide +kernel
theorem d_X12_isStored_72 : decode J_X12_isStored.2.1 72 = .ok (.getfield 7, 3) := by decide +kernel
theorem d_X12_isStored_75 : decode J_X12_isStored.2.1 75 = .ok (.bipush 15, 2) := by decide +kernel
theorem d_X12_isStored_77 : decode J_X12_isStored.2.1 77 = .ok (.iload_n 1, 1) := by decide +kernel
theorem d_X12_isStored_78 : decode J_X12_isStored.2.1 78 = .ok (.iadd, 1) := by decide +kernel
theorem d_X12_isStored_79 : decode J_X12_isStored.2.1 79 = .ok (.iaload, 1) := by decide +kernel
theorem d_X12_isStored_80 : decode J_X12_isStored.2.1 80 = .ok (.if_icmp .le 5, 3) := by decide +kernel
theorem d_X12_isStored_83 : decode J_X12_isStored.2.1 83 = .ok (.iconst 0, 1) := by decide +kernel
theorem d_X12_isStored_84 : decode J_X12_isStored.2.1 84 = .ok (.ireturn, 1) := by decide +kernel
theorem d_X12_isStored_85 : decode J_X12_isStored.2.1 85 = .ok (.iinc 1 1, 3) := by decide +kernel
theorem d_X12_isStored_88 : decode J_X12_isStored.2.1 88 = .ok (.goto (-86), 3) := by decide +kernel
theorem d_X12_isStored_91 : decode J_X12_isStored.2.1 91 = .ok (.iconst 1, 1) := by decide +kernel
theorem d_X12_isStored_92 : decode J_X12_isStored.2.1 92 = .ok (.ireturn, 1) := by decide +kernel
def f_X12_isStored_62 (N : Nat) (K : oK) (r2 : (Int32 → oM → Option (Bool × oM))) (r11 : (Int32 → Int32 → Int32 → oM → Option (Bool × oM))) (p1 : Int32) (p3 : Int32) (s0 : Int32) (s1 : Int32) (M : oM) : Option (Bool × oM) :=
  (r11 p1 (s1 + s0) (p3 + 1) M)
set_option maxRecDepth 20000 in
theorem v_X12_isStored_62 {X : oX} {d N : Nat} {K : oK} {r2 : (Int32 → oM → Option (Bool × oM))} {r11 : (Int32 → Int32 → Int32 → oM → Option (Bool × oM))} {p1 : Int32} {p3 : Int32} {s0 : Int32} {s1 : Int32} {M : oM} {v : Bool} {M' : oM}  (hd : 1 ≤ d) (hK : oSR K)  (hr2 : ∀ (p1 : Int32) (M : oM) (v : Bool) (M' : oM) , r2 p1 M = some (v, M') → oEv X d J_X12_isStored 2 [some (.ref 59), some (.int p1), none, none] [] K M (some (.int (oBi v))) K M') (hr11 : ∀ (p1 : Int32) (p2 : Int32) (p3 : Int32) (M : oM) (v : Bool) (M' : oM) , r11 p1 p2 p3 M = some (v, M') → oEv X d J_X12_isStored 11 [some (.ref 59), some (.int p1), some (.int p2), some (.int p3)] [] K M (some (.int (oBi v))) K M') (h : f_X12_isStored_62 N K r2 r11 p1 p3 s0 s1 M = some (v, M')) : oEv X d J_X12_isStored 62 [some (.ref 59), some (.int p1), none, some (.int p3)] [(.int s0), (.int s1)] K M (some (.int (oBi v))) K M' := by
  unfold f_X12_isStored_62 at h
  refine oe_iadd (pc := 62) d_X12_isStored_62 ?_
  refine oe_istore_n (pc := 63) (L2 := [_, _, _, _]) d_X12_isStored_63 rfl rfl (Nat.le_of_ble_eq_true rfl) rfl ?_
  refine oe_iinc (pc := 64) (v := (p3 + 1)) (L2 := [_, _, _, _]) d_X12_isStored_64 rfl rfl rfl (Nat.le_of_ble_eq_true rfl) rfl ?_
  refine oe_goto (pc := 67) (tgt := 11) d_X12_isStored_67 (by decide) ?_
  exact hr11 _ _ _ _ _ _ h
def f_X12_isStored_61 (N : Nat) (K : oK) (r2 : (Int32 → oM → Option (Bool × oM))) (r11 : (Int32 → Int32 → Int32 → oM → Option (Bool × oM))) (p1 : Int32) (p3 : Int32) (s0 : Int32) (M : oM) : Option (Bool × oM) :=
  (f_X12_isStored_62 N K r2 r11 p1 p3 0 s0 M)
set_option maxRecDepth 20000 in
theorem v_X12_isStored_61 {X : oX} {d N : Nat} {K : oK} {r2 : (Int32 → oM → Option (Bool × oM))} {r11 : (Int32 → Int32 → Int32 → oM → Option (Bool × oM))} {p1 : Int32} {p3 : Int32} {s0 : Int32} {M : oM} {v : Bool} {M' : oM}  (hd : 1 ≤ d) (hK : oSR K)  (hr2 : ∀ (p1 : Int32) (M : oM) (v : Bool) (M' : oM) , r2 p1 M = some (v, M') → oEv X d J_X12_isStored 2 [some (.ref 59), some (.int p1), none, none] [] K M (some (.int (oBi v))) K M') (hr11 : ∀ (p1 : Int32) (p2 : Int32) (p3 : Int32) (M : oM) (v : Bool) (M' : oM) , r11 p1 p2 p3 M = some (v, M') → oEv X d J_X12_isStored 11 [some (.ref 59), some (.int p1), some (.int p2), some (.int p3)] [] K M (some (.int (oBi v))) K M') (h : f_X12_isStored_61 N K r2 r11 p1 p3 s0 M = some (v, M')) : oEv X d J_X12_isStored 61 [some (.ref 59), some (.int p1), none, some (.int p3)] [(.int s0)] K M (some (.int (oBi v))) K M' := by
  unfold f_X12_isStored_61 at h
  refine oe_iconst (pc := 61) (v := 0) d_X12_isStored_61 rfl ?_
  exact v_X12_isStored_62 hd hK  hr2 hr11 h
def f_X12_isStored_11 (N : Nat) (K : oK) (r2 : (Int32 → oM → Option (Bool × oM))) : Nat → Int32 → Int32 → Int32 → oM → Option (Bool × oM)
  | 0, _, _, _, _ => none
  | n + 1, p1, p2, p3, M => (fun r11 => (if (M.1 59 31) ≤ p3 then oIx (((15 : Int32) + p1)) 21 ((if p2 ≤ (M.1 60 (((15 : Int32) + p1) : Int32).toNatClampNeg) then (r2 (p1 + 1) M) else some (false, M))) else oIx (p3) 25 ((if (M.1 81 (p3 : Int32).toNatClampNeg) = 1 then oIx (p3) 25 ((if (M.1 83 (p3 : Int32).toNatClampNeg) = p1 then oIx (p3) 25 (oIx ((M.1 82 (p3 : Int32).toNatClampNeg)) 20 (oIx (p3) 25 ((f_X12_isStored_62 N K r2 r11 p1 p3 ((M.1 66 ((M.1 82 (p3 : Int32).toNatClampNeg) : Int32).toNatClampNeg) * (M.1 84 (p3 : Int32).toNatClampNeg)) p2 M)))) else (f_X12_isStored_61 N K r2 r11 p1 p3 p2 M))) else (f_X12_isStored_61 N K r2 r11 p1 p3 p2 M))))) (f_X12_isStored_11 N K r2 n)
set_option maxRecDepth 20000 in
theorem v_X12_isStored_11_L {X : oX} {d N : Nat} {K : oK} {r2 : (Int32 → oM → Option (Bool × oM))} (hd : 1 ≤ d) (hK : oSR K) (hr2 : ∀ (p1 : Int32) (M : oM) (v : Bool) (M' : oM) , r2 p1 M = some (v, M') → oEv X d J_X12_isStored 2 [some (.ref 59), some (.int p1), none, none] [] K M (some (.int (oBi v))) K M') : ∀ (n : Nat) (p1 : Int32) (p2 : Int32) (p3 : Int32) (M : oM) (v : Bool) (M' : oM)  , f_X12_isStored_11 N K r2 n p1 p2 p3 M = some (v, M') → oEv X d J_X12_isStored 11 [some (.ref 59), some (.int p1), some (.int p2), some (.int p3)] [] K M (some (.int (oBi v))) K M' := by
  intro n
  induction n with
  | zero =>
    intro p1 p2 p3 M v M'   h
    cases h
  | succ n hr11 =>
    intro p1 p2 p3 M v M'   h
    refine oe_iload_n (pc := 11) d_X12_isStored_11 rfl ?_
    refine oe_aload_n (pc := 12) d_X12_isStored_12 rfl ?_
    refine oe_getf (pc := 13) d_X12_isStored_13 fl_X12_246 ock12 (k := 31) (Nat.le_of_ble_eq_true rfl) rfl (oLt hK (a := 59) (Nat.le_of_ble_eq_true rfl)) (oSho hK (a := 59) (Nat.le_of_ble_eq_true rfl) rfl) ?_
    refine oe_icmp_ge (pc := 16) (tgt := 70) d_X12_isStored_16 (by decide) (fun c2 => ?_) (fun c2 => ?_)
    · replace h := (if_pos c2).symm.trans h
      refine oe_iload_n (pc := 70) d_X12_isStored_70 rfl ?_
      refine oe_aload_n (pc := 71) d_X12_isStored_71 rfl ?_
      refine oe_getr (pc := 72) d_X12_isStored_72 fl_X12_7 ock12 (k := 0) (b := 60) (Nat.le_of_ble_eq_true rfl) (by decide) (oLt hK (a := 59) (Nat.le_of_ble_eq_true rfl)) (oSho hK (a := 59) (Nat.le_of_ble_eq_true rfl) rfl) (oRfK hK rfl) ?_
      refine oe_bipush (pc := 75) (v := 15) d_X12_isStored_75 rfl ?_
      refine oe_iload_n (pc := 77) d_X12_isStored_77 rfl ?_
      refine oe_iadd (pc := 78) d_X12_isStored_78 ?_
      obtain ⟨i3, h⟩ := oIx_some h
      refine oe_iald (pc := 79) d_X12_isStored_79 (oLt hK (a := 60) (Nat.le_of_ble_eq_true rfl)) (oSha hK (a := 60) (Nat.le_of_ble_eq_true rfl) rfl) i3 ?_
      refine oe_icmp_le (pc := 80) (tgt := 85) d_X12_isStored_80 (by decide) (fun c4 => ?_) (fun c4 => ?_)
      · replace h := (if_pos c4).symm.trans h
        refine oe_iinc (pc := 85) (v := (p1 + 1)) (L2 := [_, _, _, _]) d_X12_isStored_85 rfl rfl rfl (Nat.le_of_ble_eq_true rfl) rfl ?_
        refine oe_goto (pc := 88) (tgt := 2) d_X12_isStored_88 (by decide) ?_
        refine oEv.fg [true, true, false, false] ?_
        exact hr2 _ _ _ _ h
      · replace h := (if_neg c4).symm.trans h
        refine oe_iconst (pc := 83) (v := 0) d_X12_isStored_83 rfl ?_
        obtain ⟨rfl, rfl⟩ := oRes h
        exact oe_iret (pc := 84) d_X12_isStored_84 ⟨_, rfl, rfl⟩
    · replace h := (if_neg c2).symm.trans h
      refine oe_iload_n (pc := 19) d_X12_isStored_19 rfl ?_
      refine oe_aload_n (pc := 20) d_X12_isStored_20 rfl ?_
      refine oe_getr (pc := 21) d_X12_isStored_21 fl_X12_74 ock12 (k := 32) (b := 81) (Nat.le_of_ble_eq_true rfl) (by decide) (oLt hK (a := 59) (Nat.le_of_ble_eq_true rfl)) (oSho hK (a := 59) (Nat.le_of_ble_eq_true rfl) rfl) (oRfK hK rfl) ?_
      refine oe_iload_n (pc := 24) d_X12_isStored_24 rfl ?_
      obtain ⟨i5, h⟩ := oIx_some h
      refine oe_iald (pc := 25) d_X12_isStored_25 (oLt hK (a := 81) (Nat.le_of_ble_eq_true rfl)) (oSha hK (a := 81) (Nat.le_of_ble_eq_true rfl) rfl) i5 ?_
      refine oe_iconst (pc := 26) (v := 1) d_X12_isStored_26 rfl ?_
      refine oe_icmp_ne (pc := 27) (tgt := 61) d_X12_isStored_27 (by decide) (fun c6 => ?_) (fun c6 => ?_)
      · replace h := (if_neg c6).symm.trans h
        refine oEv.fg [true, true, false, true] ?_
        exact v_X12_isStored_61 hd hK  hr2 hr11 h
      · replace h := (if_pos c6).symm.trans h
        refine oe_aload_n (pc := 30) d_X12_isStored_30 rfl ?_
        refine oe_getr (pc := 31) d_X12_isStored_31 fl_X12_80 ock12 (k := 34) (b := 83) (Nat.le_of_ble_eq_true rfl) (by decide) (oLt hK (a := 59) (Nat.le_of_ble_eq_true rfl)) (oSho hK (a := 59) (Nat.le_of_ble_eq_true rfl) rfl) (oRfK hK rfl) ?_
        refine oe_iload_n (pc := 34) d_X12_isStored_34 rfl ?_
        obtain ⟨i7, h⟩ := oIx_some h
        refine oe_iald (pc := 35) d_X12_isStored_35 (oLt hK (a := 83) (Nat.le_of_ble_eq_true rfl)) (oSha hK (a := 83) (Nat.le_of_ble_eq_true rfl) rfl) i7 ?_
        refine oe_iload_n (pc := 36) d_X12_isStored_36 rfl ?_
        refine oe_icmp_ne (pc := 37) (tgt := 61) d_X12_isStored_37 (by decide) (fun c8 => ?_) (fun c8 => ?_)
        · replace h := (if_neg c8).symm.trans h
          refine oEv.fg [true, true, false, true] ?_
          exact v_X12_isStored_61 hd hK  hr2 hr11 h
        · replace h := (if_pos c8).symm.trans h
          refine oe_aload_n (pc := 40) d_X12_isStored_40 rfl ?_
          refine oe_getr (pc := 41) d_X12_isStored_41 fl_X12_28 ock12 (k := 10) (b := 66) (Nat.le_of_ble_eq_true rfl) (by decide) (oLt hK (a := 59) (Nat.le_of_ble_eq_true rfl)) (oSho hK (a := 59) (Nat.le_of_ble_eq_true rfl) rfl) (oRfK hK rfl) ?_
          refine oe_aload_n (pc := 44) d_X12_isStored_44 rfl ?_
          refine oe_getr (pc := 45) d_X12_isStored_45 fl_X12_77 ock12 (k := 33) (b := 82) (Nat.le_of_ble_eq_true rfl) (by decide) (oLt hK (a := 59) (Nat.le_of_ble_eq_true rfl)) (oSho hK (a := 59) (Nat.le_of_ble_eq_true rfl) rfl) (oRfK hK rfl) ?_
          refine oe_iload_n (pc := 48) d_X12_isStored_48 rfl ?_
          obtain ⟨i9, h⟩ := oIx_some h
          refine oe_iald (pc := 49) d_X12_isStored_49 (oLt hK (a := 82) (Nat.le_of_ble_eq_true rfl)) (oSha hK (a := 82) (Nat.le_of_ble_eq_true rfl) rfl) i9 ?_
          obtain ⟨i10, h⟩ := oIx_some h
          refine oe_iald (pc := 50) d_X12_isStored_50 (oLt hK (a := 66) (Nat.le_of_ble_eq_true rfl)) (oSha hK (a := 66) (Nat.le_of_ble_eq_true rfl) rfl) i10 ?_
          refine oe_aload_n (pc := 51) d_X12_isStored_51 rfl ?_
          refine oe_getr (pc := 52) d_X12_isStored_52 fl_X12_83 ock12 (k := 35) (b := 84) (Nat.le_of_ble_eq_true rfl) (by decide) (oLt hK (a := 59) (Nat.le_of_ble_eq_true rfl)) (oSho hK (a := 59) (Nat.le_of_ble_eq_true rfl) rfl) (oRfK hK rfl) ?_
          refine oe_iload_n (pc := 55) d_X12_isStored_55 rfl ?_
          obtain ⟨i11, h⟩ := oIx_some h
          refine oe_iald (pc := 56) d_X12_isStored_56 (oLt hK (a := 84) (Nat.le_of_ble_eq_true rfl)) (oSha hK (a := 84) (Nat.le_of_ble_eq_true rfl) rfl) i11 ?_
          refine oe_imul (pc := 57) d_X12_isStored_57 ?_
          refine oe_goto (pc := 58) (tgt := 62) d_X12_isStored_58 (by decide) ?_
          refine oEv.fg [true, true, false, true] ?_
          exact v_X12_isStored_62 hd hK  hr2 hr11 h
theorem v_X12_isStored_11 {X : oX} {d N : Nat} {K : oK} {r2 : (Int32 → oM → Option (Bool × oM))} {p1 : Int32} {p2 : Int32} {p3 : Int32} {M : oM} {v : Bool} {M' : oM}  (hd : 1 ≤ d) (hK : oSR K)  (hr2 : ∀ (p1 : Int32) (M : oM) (v : Bool) (M' : oM) , r2 p1 M = some (v, M') → oEv X d J_X12_isStored 2 [some (.ref 59), some (.int p1), none, none] [] K M (some (.int (oBi v))) K M') (h : f_X12_isStored_11 N K r2 N p1 p2 p3 M = some (v, M')) : oEv X d J_X12_isStored 11 [some (.ref 59), some (.int p1), some (.int p2), some (.int p3)] [] K M (some (.int (oBi v))) K M' := v_X12_isStored_11_L hd hK hr2 N p1 p2 p3 M v M'   h
def f_X12_isStored_2 (N : Nat) (K : oK)  : Nat → Int32 → oM → Option (Bool × oM)
  | 0, _, _ => none
  | n + 1, p1, M => (fun r2 => (if 3 ≤ p1 then some (true, M) else (f_X12_isStored_11 N K r2 N p1 0 0 M))) (f_X12_isStored_2 N K  n)
set_option maxRecDepth 20000 in
theorem v_X12_isStored_2_L {X : oX} {d N : Nat} {K : oK}  (hd : 1 ≤ d) (hK : oSR K)  : ∀ (n : Nat) (p1 : Int32) (M : oM) (v : Bool) (M' : oM)  , f_X12_isStored_2 N K  n p1 M = some (v, M') → oEv X d J_X12_isStored 2 [some (.ref 59), some (.int p1), none, none] [] K M (some (.int (oBi v))) K M' := by
  intro n
  induction n with
  | zero =>
    intro p1 M v M'   h
    cases h
  | succ n hr2 =>
    intro p1 M v M'   h
    refine oe_iload_n (pc := 2) d_X12_isStored_2 rfl ?_
    refine oe_iconst (pc := 3) (v := 3) d_X12_isStored_3 rfl ?_
    refine oe_icmp_ge (pc := 4) (tgt := 91) d_X12_isStored_4 (by decide) (fun c1 => ?_) (fun c1 => ?_)
    · replace h := (if_pos c1).symm.trans h
      refine oe_iconst (pc := 91) (v := 1) d_X12_isStored_91 rfl ?_
      obtain ⟨rfl, rfl⟩ := oRes h
      exact oe_iret (pc := 92) d_X12_isStored_92 ⟨_, rfl, rfl⟩
    · replace h := (if_neg c1).symm.trans h
      refine oe_iconst (pc := 7) (v := 0) d_X12_isStored_7 rfl ?_
      refine oe_istore_n (pc := 8) (L2 := [_, _, _, _]) d_X12_isStored_8 rfl rfl (Nat.le_of_ble_eq_true rfl) rfl ?_
      refine oe_iconst (pc := 9) (v := 0) d_X12_isStored_9 rfl ?_
      refine oe_istore_n (pc := 10) (L2 := [_, _, _, _]) d_X12_isStored_10 rfl rfl (Nat.le_of_ble_eq_true rfl) rfl ?_
      exact v_X12_isStored_11 hd hK  hr2 h
theorem v_X12_isStored_2 {X : oX} {d N : Nat} {K : oK}  {p1 : Int32} {M : oM} {v : Bool} {M' : oM}  (hd : 1 ≤ d) (hK : oSR K)   (h : f_X12_isStored_2 N K  N p1 M = some (v, M')) : oEv X d J_X12_isStored 2 [some (.ref 59), some (.int p1), none, none] [] K M (some (.int (oBi v))) K M' := v_X12_isStored_2_L hd hK  N p1 M v M'   h
def f_X12_isStored (N : Nat) (K : oK)  (M : oM) : Option (Bool × oM) :=
  (f_X12_isStored_2 N K  N 0 M)
set_option maxRecDepth 20000 in
theorem v_X12_isStored {X : oX} {N : Nat} {K : oK}  {M : oM} {v : Bool} {M' : oM} (hK : oSR K)  (h : f_X12_isStored N K  M = some (v, M')) : oMet X 1 J_X12_isStored [(.ref 59)] K M (some (.int (oBi v))) K M' := by
  unfold f_X12_isStored at h
  refine oMet_of (L := [some (.ref 59), none, none, none]) jJ_X12_isStored.1 rfl (Nat.le_of_ble_eq_true rfl) rfl (Nat.le_refl _) (Nat.le_refl _) ?_
  have hd : 1 ≤ 1 := Nat.le_refl _
  refine oe_iconst (pc := 0) (v := 0) d_X12_isStored_0 rfl ?_
  refine oe_istore_n (pc := 1) (L2 := [_, _, _, _]) d_X12_isStored_1 rfl rfl (Nat.le_of_ble_eq_true rfl) rfl ?_
  exact v_X12_isStored_2 hd hK   h
theorem d_X12_placeFrom_0 : decode J_X12_placeFrom.2.1 0 = .ok (.iload_n 2, 1) := by decide +kernel
theorem d_X12_placeFrom_1 : decode J_X12_placeFrom.2.1 1 = .ok (.aload_n 0, 1) := by decide +kernel
theorem d_X12_placeFrom_2 : decode J_X12_placeFrom.2.1 2 = .ok (.getfield 292, 3) := by decide +kernel
theorem d_X12_placeFrom_5 : decode J_X12_placeFrom.2.1 5 = .ok (.if_icmp .ne 101, 3) := by decide +kernel
theorem d_X12_placeFrom_8 : decode J_X12_placeFrom.2.1 8 = .ok (.aload_n 0, 1) := by decide +kernel
theorem d_X12_placeFrom_9 : decode J_X12_placeFrom.2.1 9 = .ok (.iload_n 1, 1) := by decide +kernel
theorem d_X12_placeFrom_10 : decode J_X12_placeFrom.2.1 10 = .ok (.iload 4, 2) := by decide +kernel
theorem d_X12_placeFrom_12 : decode J_X12_placeFrom.2.1 12 = .ok (.invokevirtual 295, 3) := by decide +kernel
theorem d_X12_placeFrom_15 : decode J_X12_placeFrom.2.1 15 = .ok (.aload_n 0, 1) := by decide +kernel
theorem d_X12_placeFrom_16 : decode J_X12_placeFrom.2.1 16 = .ok (.invokevirtual 299, 3) := by decide +kernel
theorem d_X12_placeFrom_19 : decode J_X12_placeFrom.2.1 19 = .ok (.ifCond .eq 17, 3) := by decide +kernel
theorem d_X12_placeFrom_22 : decode J_X12_placeFrom.2.1 22 = .ok (.aload_n 0, 1) := by decide +kernel
theorem d_X12_placeFrom_23 : decode J_X12_placeFrom.2.1 23 = .ok (.iload 5, 2) := by decide +kernel
theorem d_X12_placeFrom_25 : decode J_X12_placeFrom.2.1 25 = .ok (.iconst 0, 1) := by decide +kernel
theorem d_X12_placeFrom_26 : decode J_X12_placeFrom.2.1 26 = .ok (.aload_n 0, 1) := by decide +kernel
theorem d_X12_placeFrom_27 : decode J_X12_placeFrom.2.1 27 = .ok (.getfield 303, 3) := by decide +kernel
theorem d_X12_placeFrom_30 : decode J_X12_placeFrom.2.1 30 = .ok (.invokevirtual 271, 3) := by decide +kernel
theorem d_X12_placeFrom_33 : decode J_X12_placeFrom.2.1 33 = .ok (.goto 7, 3) := by decide +kernel
theorem d_X12_placeFrom_36 : decode J_X12_placeFrom.2.1 36 = .ok (.aload_n 0, 1) := by decide +kernel
theorem d_X12_placeFrom_37 : decode J_X12_placeFrom.2.1 37 = .ok (.getfield 303, 3) := by decide +kernel
theorem d_X12_placeFrom_40 : decode J_X12_placeFrom.2.1 40 = .ok (.istore 6, 2) := by decide +kernel
theorem d_X12_placeFrom_42 : decode J_X12_placeFrom.2.1 42 = .ok (.iload 6, 2) := by decide +kernel
theorem d_X12_placeFrom_44 : decode J_X12_placeFrom.2.1 44 = .ok (.aload_n 0, 1) := by decide +kernel
theorem d_X12_placeFrom_45 : decode J_X12_placeFrom.2.1 45 = .ok (.getfield 303, 3) := by decide +kernel
theorem d_X12_placeFrom_48 : decode J_X12_placeFrom.2.1 48 = .ok (.if_icmp .le 57, 3) := by decide +kernel
theorem d_X12_placeFrom_51 : decode J_X12_placeFrom.2.1 51 = .ok (.aload_n 0, 1) := by decide +kernel
theorem d_X12_placeFrom_52 : decode J_X12_placeFrom.2.1 52 = .ok (.iload 6, 2) := by decide +kernel
theorem d_X12_placeFrom_54 : decode J_X12_placeFrom.2.1 54 = .ok (.putfield 303, 3) := by decide +kernel
theorem d_X12_placeFrom_57 : decode J_X12_placeFrom.2.1 57 = .ok (.aload_n 0, 1) := by decide +kernel
theorem d_X12_placeFrom_58 : decode J_X12_placeFrom.2.1 58 = .ok (.iload 4, 2) := by decide +kernel
theorem d_X12_placeFrom_60 : decode J_X12_placeFrom.2.1 60 = .ok (.putfield 306, 3) := by decide +kernel
theorem d_X12_placeFrom_63 : decode J_X12_placeFrom.2.1 63 = .ok (.aload_n 0, 1) := by decide +kernel
theorem d_X12_placeFrom_64 : decode J_X12_placeFrom.2.1 64 = .ok (.iconst 0, 1) := by decide +kernel
theorem d_X12_placeFrom_65 : decode J_X12_placeFrom.2.1 65 = .ok (.putfield 309, 3) := by decide +kernel
theorem d_X12_placeFrom_68 : decode J_X12_placeFrom.2.1 68 = .ok (.iconst 0, 1) := by decide +kernel
theorem d_X12_placeFrom_69 : decode J_X12_placeFrom.2.1 69 = .ok (.istore 7, 2) := by decide +kernel
theorem d_X12_placeFrom_71 : decode J_X12_placeFrom.2.1 71 = .ok (.iload 7, 2) := by decide +kernel
theorem d_X12_placeFrom_73 : decode J_X12_placeFrom.2.1 73 = .ok (.aload_n 0, 1) := by decide +kernel
theorem d_X12_placeFrom_74 : decode J_X12_placeFrom.2.1 74 = .ok (.getfield 292, 3) := by decide +kernel
theorem d_X12_placeFrom_77 : decode J_X12_placeFrom.2.1 77 = .ok (.if_icmp .ge 28, 3) := by decide +kernel
theorem d_X12_placeFrom_80 : decode J_X12_placeFrom.2.1 80 = .ok (.aload_n 0, 1) := by decide +kernel
theorem d_X12_placeFrom_81 : decode J_X12_placeFrom.2.1 81 = .ok (.bipush 10, 2) := by decide +kernel
theorem d_X12_placeFrom_83 : decode J_X12_placeFrom.2.1 83 = .ok (.aload_n 0, 1) := by decide +kernel
theorem d_X12_placeFrom_84 : decode J_X12_placeFrom.2.1 84 = .ok (.getfield 309, 3) := by decide +kernel
theorem d_X12_placeFrom_87 : decode J_X12_placeFrom.2.1 87 = .ok (.imul, 1) := by decide +kernel
theorem d_X12_placeFrom_88 : decode J_X12_placeFrom.2.1 88 = .ok (.aload_n 0, 1) := by decide +kernel
theorem d_X12_placeFrom_89 : decode J_X12_placeFrom.2.1 89 = .ok (.getfield 101, 3) := by decide +kernel
theorem d_X12_placeFrom_92 : decode J_X12_placeFrom.2.1 92 = .ok (.iload 7, 2) := by decide +kernel
theorem d_X12_placeFrom_94 : decode J_X12_placeFrom.2.1 94 = .ok (.iaload, 1) := by decide +kernel
theorem d_X12_placeFrom_95 : decode J_X12_placeFrom.2.1 95 = .ok (.iadd, 1) := by decide +kernel
theorem d_X12_placeFrom_96 : decode J_X12_placeFrom.2.1 96 = .ok (.putfield 309, 3) := by decide +kernel
theorem d_X12_placeFrom_99 : decode J_X12_placeFrom.2.1 99 = .ok (.iinc 7 1, 3) := by decide +kernel
theorem d_X12_placeFrom_102 : decode J_X12_placeFrom.2.1 102 = .ok (.goto (-31), 3) := by decide +kernel
theorem d_X12_placeFrom_105 : decode J_X12_placeFrom.2.1 105 = .ok (.return_, 1) := by decide +kernel
theorem d_X12_placeFrom_106 : decode J_X12_placeFrom.2.1 106 = .ok (.iload_n 3, 1) := by decide +kernel
theorem d_X12_placeFrom_107 : decode J_X12_placeFrom.2.1 107 = .ok (.istore 6, 2) := by decide +kernel
theorem d_X12_placeFrom_109 : decode J_X12_placeFrom.2.1 109 = .ok (.iload 6, 2) := by decide +kernel
theorem d_X12_placeFrom_111 : decode J_X12_placeFrom.2.1 111 = .ok (.iload_n 2, 1) := by decide +kernel
theorem d_X12_placeFrom_112 : decode J_X12_placeFrom.2.1 112 = .ok (.ifCond .ne 7, 3) := by decide +kernel
theorem d_X12_placeFrom_115 : decode J_X12_placeFrom.2.1 115 = .ok (.iconst 1, 1) := by decide +kernel
theorem d_X12_placeFrom_116 : decode J_X12_placeFrom.2.1 116 = .ok (.goto 7, 3) := by decide +kernel
theorem d_X12_placeFrom_119 : decode J_X12_placeFrom.2.1 119 = .ok (.aload_n 0, 1) := by decide +kernel
theorem d_X12_placeFrom_120 : decode J_X12_placeFrom.2.1 120 = .ok (.getfield 289, 3) := by decide +kernel
theorem d_X12_placeFrom_123 : decode J_X12_placeFrom.2.1 123 = .ok (.if_icmp .ge 33, 3) := by decide +kernel
theorem d_X12_placeFrom_126 : decode J_X12_placeFrom.2.1 126 = .ok (.aload_n 0, 1) := by decide +kernel
theorem d_X12_placeFrom_127 : decode J_X12_placeFrom.2.1 127 = .ok (.getfield 101, 3) := by decide +kernel
theorem d_X12_placeFrom_130 : decode J_X12_placeFrom.2.1 130 = .ok (.iload_n 2, 1) := by decide +kernel
theorem d_X12_placeFrom_131 : decode J_X12_placeFrom.2.1 131 = .ok (.iload 6, 2) := by decide +kernel
theorem d_X12_placeFrom_133 : decode J_X12_placeFrom.2.1 133 = .ok (.iastore, 1) := by decide +kernel
theorem d_X12_placeFrom_134 : decode J_X12_placeFrom.2.1 134 = .ok (.aload_n 0, 1) := by decide +kernel
theorem d_X12_placeFrom_135 : decode J_X12_placeFrom.2.1 135 = .ok (.iload_n 1, 1) := by decide +kernel
theorem d_X12_placeFrom_136 : decode J_X12_placeFrom.2.1 136 = .ok (.iload_n 2, 1) := by decide +kernel
theorem d_X12_placeFrom_137 : decode J_X12_placeFrom.2.1 137 = .ok (.iconst 1, 1) := by decide +kernel
theorem d_X12_placeFrom_138 : decode J_X12_placeFrom.2.1 138 = .ok (.iadd, 1) := by decide +kernel
theorem d_X12_placeFrom_139 : decode J_X12_placeFrom.2.1 139 = .ok (.iload 6, 2) := by decide +kernel
theorem d_X12_placeFrom_141 : decode J_X12_placeFrom.2.1 141 = .ok (.iconst 1, 1) := by decide +kernel
theorem d_X12_placeFrom_142 : decode J_X12_placeFrom.2.1 142 = .ok (.iadd, 1) := by decide +kernel
theorem d_X12_placeFrom_143 : decode J_X12_placeFrom.2.1 143 = .ok (.iload 4, 2) := by decide +kernel
theorem d_X12_placeFrom_145 : decode J_X12_placeFrom.2.1 145 = .ok (.iload 5, 2) := by decide +kernel
theorem d_X12_placeFrom_147 : decode J_X12_placeFrom.2.1 147 = .ok (.invokevirtual 312, 3) := by decide +kernel
theorem d_X12_placeFrom_150 : decode J_X12_placeFrom.2.1 150 = .ok (.iinc 6 1, 3) := by decide +kernel
theorem d_X12_placeFrom_153 : decode J_X12_placeFrom.2.1 153 = .ok (.goto (-44), 3) := by decide +kernel
theorem d_X12_placeFrom_156 : decode J_X12_placeFrom.2.1 156 = .ok (.return_, 1) := by decide +kernel
def f_X12_placeFrom_123 (N : Nat) (rS : (Int32 → Int32 → Int32 → Int32 → Int32 → oM → Option (Unit × oM))) (K : oK) (r109 : (Int32 → Int32 → Int32 → Int32 → Int32 → oM → Option (Unit × oM))) (p1 : Int32) (p2 : Int32) (p4 : Int32) (p5 : Int32) (p6 : Int32) (s0 : Int32) (s1 : Int32) (M : oM) : Option (Unit × oM) :=
  (if s0 ≤ s1 then some ((), M) else oIx (p2) 4 (oB2 (rS p1 (p2 + 1) (p6 + 1) p4 p5 (oUp M 90 (p2 : Int32).toNatClampNeg p6)) (fun v5 M6 => (r109 p1 p2 p4 p5 (p6 + 1) M6))))
set_option maxRecDepth 20000 in
theorem v_X12_placeFrom_123 {X : oX} {d N : Nat} {rS : (Int32 → Int32 → Int32 → Int32 → Int32 → oM → Option (Unit × oM))} {K : oK} {r109 : (Int32 → Int32 → Int32 → Int32 → Int32 → oM → Option (Unit × oM))} {p1 : Int32} {p2 : Int32} {p4 : Int32} {p5 : Int32} {p6 : Int32} {s0 : Int32} {s1 : Int32} {M : oM} {v : Unit} {M' : oM}  (hd : 5 ≤ d) (hK : oSR K) (hS : ∃ d', d' < d ∧ ∀ (p1 : Int32) (p2 : Int32) (p3 : Int32) (p4 : Int32) (p5 : Int32) (M : oM) (v : Unit) (M' : oM) , rS p1 p2 p3 p4 p5 M = some (v, M') → oMet X d' J_X12_placeFrom [(.ref 59), (.int p1), (.int p2), (.int p3), (.int p4), (.int p5)] K M none K M')  (hr109 : ∀ (p1 : Int32) (p2 : Int32) (p4 : Int32) (p5 : Int32) (p6 : Int32) (M : oM) (v : Unit) (M' : oM) , r109 p1 p2 p4 p5 p6 M = some (v, M') → oEv X d J_X12_placeFrom 109 [some (.ref 59), some (.int p1), some (.int p2), none, some (.int p4), some (.int p5), some (.int p6), none] [] K M none K M') (h : f_X12_placeFrom_123 N rS K r109 p1 p2 p4 p5 p6 s0 s1 M = some (v, M')) : oEv X d J_X12_placeFrom 123 [some (.ref 59), some (.int p1), some (.int p2), none, some (.int p4), some (.int p5), some (.int p6), none] [(.int s0), (.int s1)] K M none K M' := by
  unfold f_X12_placeFrom_123 at h
  refine oe_icmp_ge (pc := 123) (tgt := 156) d_X12_placeFrom_123 (by decide) (fun c3 => ?_) (fun c3 => ?_)
  · replace h := (if_pos c3).symm.trans h
    obtain ⟨rfl, rfl⟩ := oRes h
    exact oe_vret (pc := 156) d_X12_placeFrom_156 rfl
  · replace h := (if_neg c3).symm.trans h
    refine oe_aload_n (pc := 126) d_X12_placeFrom_126 rfl ?_
    refine oe_getr (pc := 127) d_X12_placeFrom_127 fl_X12_101 ock12 (k := 43) (b := 90) (Nat.le_of_ble_eq_true rfl) (by decide) (oLt hK (a := 59) (Nat.le_of_ble_eq_true rfl)) (oSho hK (a := 59) (Nat.le_of_ble_eq_true rfl) rfl) (oRfK hK rfl) ?_
    refine oe_iload_n (pc := 130) d_X12_placeFrom_130 rfl ?_
    refine oe_iload (pc := 131) d_X12_placeFrom_131 rfl ?_
    obtain ⟨i4, h⟩ := oIx_some h
    refine oe_iast (pc := 133) d_X12_placeFrom_133 (oLt hK (a := 90) (Nat.le_of_ble_eq_true rfl)) (oSha hK (a := 90) (Nat.le_of_ble_eq_true rfl) rfl) i4 ?_
    refine oe_aload_n (pc := 134) d_X12_placeFrom_134 rfl ?_
    refine oe_iload_n (pc := 135) d_X12_placeFrom_135 rfl ?_
    refine oe_iload_n (pc := 136) d_X12_placeFrom_136 rfl ?_
    refine oe_iconst (pc := 137) (v := 1) d_X12_placeFrom_137 rfl ?_
    refine oe_iadd (pc := 138) d_X12_placeFrom_138 ?_
    refine oe_iload (pc := 139) d_X12_placeFrom_139 rfl ?_
    refine oe_iconst (pc := 141) (v := 1) d_X12_placeFrom_141 rfl ?_
    refine oe_iadd (pc := 142) d_X12_placeFrom_142 ?_
    refine oe_iload (pc := 143) d_X12_placeFrom_143 rfl ?_
    refine oe_iload (pc := 145) d_X12_placeFrom_145 rfl ?_
    obtain ⟨v5, M6, q7, h⟩ := oB2_some h
    obtain ⟨d', hdl, hS9⟩ := id hS
    refine oe_callV (pc := 147) (ci := 12) d_X12_placeFrom_147 (hS9 _ _ _ _ _ _ _ _  q7) hdl ml_X12_312 jJ_X12_placeFrom rfl rfl (oLt hK (a := 59) (Nat.le_of_ble_eq_true rfl)) (oSho hK (a := 59) (Nat.le_of_ble_eq_true rfl) rfl) ock12 rfl (Nat.le_of_ble_eq_true rfl) ⟨Nat.le_refl _, Nat.le_refl _⟩ ⟨Nat.le_refl _, Nat.le_refl _⟩ ?_
    refine oe_iinc (pc := 150) (v := (p6 + 1)) (L2 := [_, _, _, _, _, _, _, _]) d_X12_placeFrom_150 rfl rfl rfl (Nat.le_of_ble_eq_true rfl) rfl ?_
    refine oe_goto (pc := 153) (tgt := 109) d_X12_placeFrom_153 (by decide) ?_
    exact hr109 _ _ _ _ _ _ _ _ h
def f_X12_placeFrom_109 (N : Nat) (rS : (Int32 → Int32 → Int32 → Int32 → Int32 → oM → Option (Unit × oM))) (K : oK)  : Nat → Int32 → Int32 → Int32 → Int32 → Int32 → oM → Option (Unit × oM)
  | 0, _, _, _, _, _, _ => none
  | n + 1, p1, p2, p4, p5, p6, M => (fun r109 => (if p2 = 0 then (f_X12_placeFrom_123 N rS K r109 p1 p2 p4 p5 p6 1 p6 M) else (f_X12_placeFrom_123 N rS K r109 p1 p2 p4 p5 p6 (M.1 59 44) p6 M))) (f_X12_placeFrom_109 N rS K  n)
set_option maxRecDepth 20000 in
theorem v_X12_placeFrom_109_L {X : oX} {d N : Nat} {rS : (Int32 → Int32 → Int32 → Int32 → Int32 → oM → Option (Unit × oM))} {K : oK}  (hd : 5 ≤ d) (hK : oSR K) (hS : ∃ d', d' < d ∧ ∀ (p1 : Int32) (p2 : Int32) (p3 : Int32) (p4 : Int32) (p5 : Int32) (M : oM) (v : Unit) (M' : oM) , rS p1 p2 p3 p4 p5 M = some (v, M') → oMet X d' J_X12_placeFrom [(.ref 59), (.int p1), (.int p2), (.int p3), (.int p4), (.int p5)] K M none K M')  : ∀ (n : Nat) (p1 : Int32) (p2 : Int32) (p4 : Int32) (p5 : Int32) (p6 : Int32) (M : oM) (v : Unit) (M' : oM)  , f_X12_placeFrom_109 N rS K  n p1 p2 p4 p5 p6 M = some (v, M') → oEv X d J_X12_placeFrom 109 [some (.ref 59), some (.int p1), some (.int p2), none, some (.int p4), some (.int p5), some (.int p6), none] [] K M none K M' := by
  intro n
  induction n with
  | zero =>
    intro p1 p2 p4 p5 p6 M v M'   h
    cases h
  | succ n hr109 =>
    intro p1 p2 p4 p5 p6 M v M'   h
    refine oe_iload (pc := 109) d_X12_placeFrom_109 rfl ?_
    refine oe_iload_n (pc := 111) d_X12_placeFrom_111 rfl ?_
    refine oe_if_ne (pc := 112) (tgt := 119) d_X12_placeFrom_112 (by decide) (fun c2 => ?_) (fun c2 => ?_)
    · replace h := (if_neg c2).symm.trans h
      refine oe_aload_n (pc := 119) d_X12_placeFrom_119 rfl ?_
      refine oe_getf (pc := 120) d_X12_placeFrom_120 fl_X12_289 ock12 (k := 44) (Nat.le_of_ble_eq_true rfl) rfl (oLt hK (a := 59) (Nat.le_of_ble_eq_true rfl)) (oSho hK (a := 59) (Nat.le_of_ble_eq_true rfl) rfl) ?_
      exact v_X12_placeFrom_123 hd hK hS  hr109 h
    · replace h := (if_pos c2).symm.trans h
      refine oe_iconst (pc := 115) (v := 1) d_X12_placeFrom_115 rfl ?_
      refine oe_goto (pc := 116) (tgt := 123) d_X12_placeFrom_116 (by decide) ?_
      exact v_X12_placeFrom_123 hd hK hS  hr109 h
theorem v_X12_placeFrom_109 {X : oX} {d N : Nat} {rS : (Int32 → Int32 → Int32 → Int32 → Int32 → oM → Option (Unit × oM))} {K : oK}  {p1 : Int32} {p2 : Int32} {p4 : Int32} {p5 : Int32} {p6 : Int32} {M : oM} {v : Unit} {M' : oM}  (hd : 5 ≤ d) (hK : oSR K) (hS : ∃ d', d' < d ∧ ∀ (p1 : Int32) (p2 : Int32) (p3 : Int32) (p4 : Int32) (p5 : Int32) (M : oM) (v : Unit) (M' : oM) , rS p1 p2 p3 p4 p5 M = some (v, M') → oMet X d' J_X12_placeFrom [(.ref 59), (.int p1), (.int p2), (.int p3), (.int p4), (.int p5)] K M none K M')   (h : f_X12_placeFrom_109 N rS K  N p1 p2 p4 p5 p6 M = some (v, M')) : oEv X d J_X12_placeFrom 109 [some (.ref 59), some (.int p1), some (.int p2), none, some (.int p4), some (.int p5), some (.int p6), none] [] K M none K M' := v_X12_placeFrom_109_L hd hK hS  N p1 p2 p4 p5 p6 M v M'   h
def f_X12_placeFrom_71 (N : Nat) (rS : (Int32 → Int32 → Int32 → Int32 → Int32 → oM → Option (Unit × oM))) (K : oK)  : Nat → Int32 → oM → Option (Unit × oM)
  | 0, _, _ => none
  | n + 1, p7, M => (fun r71 => (if (M.1 59 45) ≤ p7 then some ((), M) else oIx (p7) 4 ((r71 (p7 + 1) (oUp M 59 48 (((10 : Int32) * (M.1 59 48)) + (M.1 90 (p7 : Int32).toNatClampNeg))))))) (f_X12_placeFrom_71 N rS K  n)
set_option maxRecDepth 20000 in
theorem v_X12_placeFrom_71_L {X : oX} {d N : Nat} {rS : (Int32 → Int32 → Int32 → Int32 → Int32 → oM → Option (Unit × oM))} {K : oK}  (hd : 5 ≤ d) (hK : oSR K) (hS : ∃ d', d' < d ∧ ∀ (p1 : Int32) (p2 : Int32) (p3 : Int32) (p4 : Int32) (p5 : Int32) (M : oM) (v : Unit) (M' : oM) , rS p1 p2 p3 p4 p5 M = some (v, M') → oMet X d' J_X12_placeFrom [(.ref 59), (.int p1), (.int p2), (.int p3), (.int p4), (.int p5)] K M none K M')  : ∀ (n : Nat) (p7 : Int32) (M : oM) (v : Unit) (M' : oM)  , f_X12_placeFrom_71 N rS K  n p7 M = some (v, M') → oEv X d J_X12_placeFrom 71 [some (.ref 59), none, none, none, none, none, none, some (.int p7)] [] K M none K M' := by
  intro n
  induction n with
  | zero =>
    intro p7 M v M'   h
    cases h
  | succ n hr71 =>
    intro p7 M v M'   h
    refine oe_iload (pc := 71) d_X12_placeFrom_71 rfl ?_
    refine oe_aload_n (pc := 73) d_X12_placeFrom_73 rfl ?_
    refine oe_getf (pc := 74) d_X12_placeFrom_74 fl_X12_292 ock12 (k := 45) (Nat.le_of_ble_eq_true rfl) rfl (oLt hK (a := 59) (Nat.le_of_ble_eq_true rfl)) (oSho hK (a := 59) (Nat.le_of_ble_eq_true rfl) rfl) ?_
    refine oe_icmp_ge (pc := 77) (tgt := 105) d_X12_placeFrom_77 (by decide) (fun c18 => ?_) (fun c18 => ?_)
    · replace h := (if_pos c18).symm.trans h
      obtain ⟨rfl, rfl⟩ := oRes h
      exact oe_vret (pc := 105) d_X12_placeFrom_105 rfl
    · replace h := (if_neg c18).symm.trans h
      refine oe_aload_n (pc := 80) d_X12_placeFrom_80 rfl ?_
      refine oe_bipush (pc := 81) (v := 10) d_X12_placeFrom_81 rfl ?_
      refine oe_aload_n (pc := 83) d_X12_placeFrom_83 rfl ?_
      refine oe_getf (pc := 84) d_X12_placeFrom_84 fl_X12_309 ock12 (k := 48) (Nat.le_of_ble_eq_true rfl) rfl (oLt hK (a := 59) (Nat.le_of_ble_eq_true rfl)) (oSho hK (a := 59) (Nat.le_of_ble_eq_true rfl) rfl) ?_
      refine oe_imul (pc := 87) d_X12_placeFrom_87 ?_
      refine oe_aload_n (pc := 88) d_X12_placeFrom_88 rfl ?_
      refine oe_getr (pc := 89) d_X12_placeFrom_89 fl_X12_101 ock12 (k := 43) (b := 90) (Nat.le_of_ble_eq_true rfl) (by decide) (oLt hK (a := 59) (Nat.le_of_ble_eq_true rfl)) (oSho hK (a := 59) (Nat.le_of_ble_eq_true rfl) rfl) (oRfK hK rfl) ?_
      refine oe_iload (pc := 92) d_X12_placeFrom_92 rfl ?_
      obtain ⟨i19, h⟩ := oIx_some h
      refine oe_iald (pc := 94) d_X12_placeFrom_94 (oLt hK (a := 90) (Nat.le_of_ble_eq_true rfl)) (oSha hK (a := 90) (Nat.le_of_ble_eq_true rfl) rfl) i19 ?_
      refine oe_iadd (pc := 95) d_X12_placeFrom_95 ?_
      refine oe_putf (pc := 96) d_X12_placeFrom_96 fl_X12_309 ock12 (k := 48) (Nat.le_of_ble_eq_true rfl) rfl rfl (oLt hK (a := 59) (Nat.le_of_ble_eq_true rfl)) (oSho hK (a := 59) (Nat.le_of_ble_eq_true rfl) rfl) ?_
      refine oe_iinc (pc := 99) (v := (p7 + 1)) (L2 := [_, _, _, _, _, _, _, _]) d_X12_placeFrom_99 rfl rfl rfl (Nat.le_of_ble_eq_true rfl) rfl ?_
      refine oe_goto (pc := 102) (tgt := 71) d_X12_placeFrom_102 (by decide) ?_
      exact hr71 _ _ _ _ h
theorem v_X12_placeFrom_71 {X : oX} {d N : Nat} {rS : (Int32 → Int32 → Int32 → Int32 → Int32 → oM → Option (Unit × oM))} {K : oK}  {p7 : Int32} {M : oM} {v : Unit} {M' : oM}  (hd : 5 ≤ d) (hK : oSR K) (hS : ∃ d', d' < d ∧ ∀ (p1 : Int32) (p2 : Int32) (p3 : Int32) (p4 : Int32) (p5 : Int32) (M : oM) (v : Unit) (M' : oM) , rS p1 p2 p3 p4 p5 M = some (v, M') → oMet X d' J_X12_placeFrom [(.ref 59), (.int p1), (.int p2), (.int p3), (.int p4), (.int p5)] K M none K M')   (h : f_X12_placeFrom_71 N rS K  N p7 M = some (v, M')) : oEv X d J_X12_placeFrom 71 [some (.ref 59), none, none, none, none, none, none, some (.int p7)] [] K M none K M' := v_X12_placeFrom_71_L hd hK hS  N p7 M v M'   h
def f_X12_placeFrom_40 (N : Nat) (rS : (Int32 → Int32 → Int32 → Int32 → Int32 → oM → Option (Unit × oM))) (K : oK)  (p4 : Int32) (s0 : Int32) (M : oM) : Option (Unit × oM) :=
  (if s0 ≤ (M.1 59 46) then some ((), M) else (f_X12_placeFrom_71 N rS K  N 0 (oUp (oUp (oUp M 59 46 s0) 59 47 p4) 59 48 (0 : Int32))))
set_option maxRecDepth 20000 in
theorem v_X12_placeFrom_40 {X : oX} {d N : Nat} {rS : (Int32 → Int32 → Int32 → Int32 → Int32 → oM → Option (Unit × oM))} {K : oK}  {p4 : Int32} {s0 : Int32} {M : oM} {v : Unit} {M' : oM}  (hd : 5 ≤ d) (hK : oSR K) (hS : ∃ d', d' < d ∧ ∀ (p1 : Int32) (p2 : Int32) (p3 : Int32) (p4 : Int32) (p5 : Int32) (M : oM) (v : Unit) (M' : oM) , rS p1 p2 p3 p4 p5 M = some (v, M') → oMet X d' J_X12_placeFrom [(.ref 59), (.int p1), (.int p2), (.int p3), (.int p4), (.int p5)] K M none K M')   (h : f_X12_placeFrom_40 N rS K  p4 s0 M = some (v, M')) : oEv X d J_X12_placeFrom 40 [some (.ref 59), none, none, none, some (.int p4), none, none, none] [(.int s0)] K M none K M' := by
  unfold f_X12_placeFrom_40 at h
  refine oe_istore (pc := 40) (L2 := [_, _, _, _, _, _, _, _]) d_X12_placeFrom_40 rfl (Nat.le_of_ble_eq_true rfl) rfl ?_
  refine oe_iload (pc := 42) d_X12_placeFrom_42 rfl ?_
  refine oe_aload_n (pc := 44) d_X12_placeFrom_44 rfl ?_
  refine oe_getf (pc := 45) d_X12_placeFrom_45 fl_X12_303 ock12 (k := 46) (Nat.le_of_ble_eq_true rfl) rfl (oLt hK (a := 59) (Nat.le_of_ble_eq_true rfl)) (oSho hK (a := 59) (Nat.le_of_ble_eq_true rfl) rfl) ?_
  refine oe_icmp_le (pc := 48) (tgt := 105) d_X12_placeFrom_48 (by decide) (fun c17 => ?_) (fun c17 => ?_)
  · replace h := (if_pos c17).symm.trans h
    obtain ⟨rfl, rfl⟩ := oRes h
    exact oe_vret (pc := 105) d_X12_placeFrom_105 rfl
  · replace h := (if_neg c17).symm.trans h
    refine oe_aload_n (pc := 51) d_X12_placeFrom_51 rfl ?_
    refine oe_iload (pc := 52) d_X12_placeFrom_52 rfl ?_
    refine oe_putf (pc := 54) d_X12_placeFrom_54 fl_X12_303 ock12 (k := 46) (Nat.le_of_ble_eq_true rfl) rfl rfl (oLt hK (a := 59) (Nat.le_of_ble_eq_true rfl)) (oSho hK (a := 59) (Nat.le_of_ble_eq_true rfl) rfl) ?_
    refine oe_aload_n (pc := 57) d_X12_placeFrom_57 rfl ?_
    refine oe_iload (pc := 58) d_X12_placeFrom_58 rfl ?_
    refine oe_putf (pc := 60) d_X12_placeFrom_60 fl_X12_306 ock12 (k := 47) (Nat.le_of_ble_eq_true rfl) rfl rfl (oLt hK (a := 59) (Nat.le_of_ble_eq_true rfl)) (oSho hK (a := 59) (Nat.le_of_ble_eq_true rfl) rfl) ?_
    refine oe_aload_n (pc := 63) d_X12_placeFrom_63 rfl ?_
    refine oe_iconst (pc := 64) (v := 0) d_X12_placeFrom_64 rfl ?_
    refine oe_putf (pc := 65) d_X12_placeFrom_65 fl_X12_309 ock12 (k := 48) (Nat.le_of_ble_eq_true rfl) rfl rfl (oLt hK (a := 59) (Nat.le_of_ble_eq_true rfl)) (oSho hK (a := 59) (Nat.le_of_ble_eq_true rfl) rfl) ?_
    refine oe_iconst (pc := 68) (v := 0) d_X12_placeFrom_68 rfl ?_
    refine oe_istore (pc := 69) (L2 := [_, _, _, _, _, _, _, _]) d_X12_placeFrom_69 rfl (Nat.le_of_ble_eq_true rfl) rfl ?_
    refine oEv.fg [true, false, false, false, false, false, false, true] ?_
    exact v_X12_placeFrom_71 hd hK hS   h
def f_X12_placeFrom (N : Nat) (K : oK) : Nat → Int32 → Int32 → Int32 → Int32 → Int32 → oM → Option (Unit × oM)
  | 0, _, _, _, _, _, _ => none
  | n + 1, p1, p2, p3, p4, p5, M => (fun rS => (if p2 = (M.1 59 45) then oB2 (f_X12_lay N K p1 p4 M) (fun v8 M9 => oB2 (f_X12_isStored N K  M9) (fun v11 M12 => cond v11 (oB2 (f_X12_greatest N K p5 (0 : Int32) (M12.1 59 46) M12) (fun v14 M15 => (f_X12_placeFrom_40 N rS K  p4 v14 M15))) ((f_X12_placeFrom_40 N rS K  p4 (M12.1 59 46) M12)))) else (f_X12_placeFrom_109 N rS K  N p1 p2 p4 p5 p3 M))) (f_X12_placeFrom N K n)
set_option maxRecDepth 20000 in
theorem v_X12_placeFrom_R {X : oX} {N : Nat} {K : oK} (hK : oSR K) : ∀ (n : Nat) (p1 : Int32) (p2 : Int32) (p3 : Int32) (p4 : Int32) (p5 : Int32) (M : oM) (v : Unit) (M' : oM) , f_X12_placeFrom N K n p1 p2 p3 p4 p5 M = some (v, M') → oMet X (5 + n) J_X12_placeFrom [(.ref 59), (.int p1), (.int p2), (.int p3), (.int p4), (.int p5)] K M none K M' := by
  intro n
  induction n with
  | zero =>
    intro p1 p2 p3 p4 p5 M v M'  h
    cases h
  | succ n hS0 =>
    intro p1 p2 p3 p4 p5 M v M'  h
    refine oMet_of (L := [some (.ref 59), some (.int p1), some (.int p2), some (.int p3), some (.int p4), some (.int p5), none, none]) jJ_X12_placeFrom.1 rfl (Nat.le_of_ble_eq_true rfl) rfl (Nat.le_refl _) (Nat.le_refl _) ?_
    have hd : 5 ≤ 5 + (n + 1) := Nat.le_add_right _ _
    generalize hde : 5 + (n + 1) = d at hd ⊢
    have hS : ∃ d', d' < d ∧ ∀ (p1 : Int32) (p2 : Int32) (p3 : Int32) (p4 : Int32) (p5 : Int32) (M : oM) (v : Unit) (M' : oM) , f_X12_placeFrom N K n p1 p2 p3 p4 p5 M = some (v, M') → oMet X d' J_X12_placeFrom [(.ref 59), (.int p1), (.int p2), (.int p3), (.int p4), (.int p5)] K M none K M' := ⟨5 + n, by omega, hS0⟩
    refine oe_iload_n (pc := 0) d_X12_placeFrom_0 rfl ?_
    refine oe_aload_n (pc := 1) d_X12_placeFrom_1 rfl ?_
    refine oe_getf (pc := 2) d_X12_placeFrom_2 fl_X12_292 ock12 (k := 45) (Nat.le_of_ble_eq_true rfl) rfl (oLt hK (a := 59) (Nat.le_of_ble_eq_true rfl)) (oSho hK (a := 59) (Nat.le_of_ble_eq_true rfl) rfl) ?_
    refine oe_icmp_ne (pc := 5) (tgt := 106) d_X12_placeFrom_5 (by decide) (fun c1 => ?_) (fun c1 => ?_)
    · replace h := (if_neg c1).symm.trans h
      refine oe_iload_n (pc := 106) d_X12_placeFrom_106 rfl ?_
      refine oe_istore (pc := 107) (L2 := [_, _, _, _, _, _, _, _]) d_X12_placeFrom_107 rfl (Nat.le_of_ble_eq_true rfl) rfl ?_
      refine oEv.fg [true, true, true, false, true, true, true, false] ?_
      exact v_X12_placeFrom_109 hd hK hS   h
    · replace h := (if_pos c1).symm.trans h
      refine oe_aload_n (pc := 8) d_X12_placeFrom_8 rfl ?_
      refine oe_iload_n (pc := 9) d_X12_placeFrom_9 rfl ?_
      refine oe_iload (pc := 10) d_X12_placeFrom_10 rfl ?_
      obtain ⟨v8, M9, q10, h⟩ := oB2_some h
      refine oe_callV (pc := 12) (ci := 12) d_X12_placeFrom_12 (v_X12_lay hK  q10) (by omega) ml_X12_295 jJ_X12_lay rfl rfl (oLt hK (a := 59) (Nat.le_of_ble_eq_true rfl)) (oSho hK (a := 59) (Nat.le_of_ble_eq_true rfl) rfl) ock12 rfl (Nat.le_of_ble_eq_true rfl) ⟨Nat.le_refl _, Nat.le_refl _⟩ ⟨Nat.le_refl _, Nat.le_refl _⟩ ?_
      refine oe_aload_n (pc := 15) d_X12_placeFrom_15 rfl ?_
      obtain ⟨v11, M12, q13, h⟩ := oB2_some h
      cases v11 with
      | true =>
        replace h := oCt h
        refine oe_callV (pc := 16) (ci := 12) d_X12_placeFrom_16 (v_X12_isStored hK  q13) (by omega) ml_X12_299 jJ_X12_isStored rfl rfl (oLt hK (a := 59) (Nat.le_of_ble_eq_true rfl)) (oSho hK (a := 59) (Nat.le_of_ble_eq_true rfl) rfl) ock12 rfl (Nat.le_of_ble_eq_true rfl) ⟨Nat.le_refl _, Nat.le_refl _⟩ ⟨Nat.le_refl _, Nat.le_refl _⟩ ?_
        refine oe_if_eq (pc := 19) (tgt := 36) d_X12_placeFrom_19 (by decide) (fun c => absurd c (by decide)) (fun _ => ?_)
        refine oe_aload_n (pc := 22) d_X12_placeFrom_22 rfl ?_
        refine oe_iload (pc := 23) d_X12_placeFrom_23 rfl ?_
        refine oe_iconst (pc := 25) (v := 0) d_X12_placeFrom_25 rfl ?_
        refine oe_aload_n (pc := 26) d_X12_placeFrom_26 rfl ?_
        refine oe_getf (pc := 27) d_X12_placeFrom_27 fl_X12_303 ock12 (k := 46) (Nat.le_of_ble_eq_true rfl) rfl (oLt hK (a := 59) (Nat.le_of_ble_eq_true rfl)) (oSho hK (a := 59) (Nat.le_of_ble_eq_true rfl) rfl) ?_
        obtain ⟨v14, M15, q16, h⟩ := oB2_some h
        refine oe_callV (pc := 30) (ci := 12) d_X12_placeFrom_30 (v_X12_greatest hK  q16) (by omega) ml_X12_271 jJ_X12_greatest rfl rfl (oLt hK (a := 59) (Nat.le_of_ble_eq_true rfl)) (oSho hK (a := 59) (Nat.le_of_ble_eq_true rfl) rfl) ock12 rfl (Nat.le_of_ble_eq_true rfl) ⟨Nat.le_refl _, Nat.le_refl _⟩ ⟨Nat.le_refl _, Nat.le_refl _⟩ ?_
        refine oe_goto (pc := 33) (tgt := 40) d_X12_placeFrom_33 (by decide) ?_
        refine oEv.fg [true, false, false, false, true, false, false, false] ?_
        exact v_X12_placeFrom_40 hd hK hS   h
      | false =>
        replace h := oCf h
        refine oe_callV (pc := 16) (ci := 12) d_X12_placeFrom_16 (v_X12_isStored hK  q13) (by omega) ml_X12_299 jJ_X12_isStored rfl rfl (oLt hK (a := 59) (Nat.le_of_ble_eq_true rfl)) (oSho hK (a := 59) (Nat.le_of_ble_eq_true rfl) rfl) ock12 rfl (Nat.le_of_ble_eq_true rfl) ⟨Nat.le_refl _, Nat.le_refl _⟩ ⟨Nat.le_refl _, Nat.le_refl _⟩ ?_
        refine oe_if_eq (pc := 19) (tgt := 36) d_X12_placeFrom_19 (by decide) (fun _ => ?_) (fun c => absurd (by decide) c)
        refine oe_aload_n (pc := 36) d_X12_placeFrom_36 rfl ?_
        refine oe_getf (pc := 37) d_X12_placeFrom_37 fl_X12_303 ock12 (k := 46) (Nat.le_of_ble_eq_true rfl) rfl (oLt hK (a := 59) (Nat.le_of_ble_eq_true rfl)) (oSho hK (a := 59) (Nat.le_of_ble_eq_true rfl) rfl) ?_
        refine oEv.fg [true, false, false, false, true, false, false, false] ?_
        exact v_X12_placeFrom_40 hd hK hS   h
theorem d_X12_boresFrom_0 : decode J_X12_boresFrom.2.1 0 = .ok (.iload_n 2, 1) := by decide +kernel
theorem d_X12_boresFrom_1 : decode J_X12_boresFrom.2.1 1 = .ok (.aload_n 0, 1) := by decide +kernel
theorem d_X12_boresFrom_2 : decode J_X12_boresFrom.2.1 2 = .ok (.getfield 289, 3) := by decide +kernel
theorem d_X12_boresFrom_5 : decode J_X12_boresFrom.2.1 5 = .ok (.if_icmp .ne 14, 3) := by decide +kernel
theorem d_X12_boresFrom_8 : decode J_X12_boresFrom.2.1 8 = .ok (.aload_n 0, 1) := by decide +kernel
theorem d_X12_boresFrom_9 : decode J_X12_boresFrom.2.1 9 = .ok (.iload_n 1, 1) := by decide +kernel
theorem d_X12_boresFrom_10 : decode J_X12_boresFrom.2.1 10 = .ok (.iconst 0, 1) := by decide +kernel
theorem d_X12_boresFrom_11 : decode J_X12_boresFrom.2.1 11 = .ok (.iconst 0, 1) := by decide +kernel
theorem d_X12_boresFrom_12 : decode J_X12_boresFrom.2.1 12 = .ok (.iload_n 3, 1) := by decide +kernel
theorem d_X12_boresFrom_13 : decode J_X12_boresFrom.2.1 13 = .ok (.iload 4, 2) := by decide +kernel
theorem d_X12_boresFrom_15 : decode J_X12_boresFrom.2.1 15 = .ok (.invokevirtual 312, 3) := by decide +kernel
theorem d_X12_boresFrom_18 : decode J_X12_boresFrom.2.1 18 = .ok (.return_, 1) := by decide +kernel
theorem d_X12_boresFrom_19 : decode J_X12_boresFrom.2.1 19 = .ok (.iconst 0, 1) := by decide +kernel
theorem d_X12_boresFrom_20 : decode J_X12_boresFrom.2.1 20 = .ok (.istore 5, 2) := by decide +kernel
theorem d_X12_boresFrom_22 : decode J_X12_boresFrom.2.1 22 = .ok (.iload 5, 2) := by decide +kernel
theorem d_X12_boresFrom_24 : decode J_X12_boresFrom.2.1 24 = .ok (.iconst 3, 1) := by decide +kernel
theorem d_X12_boresFrom_25 : decode J_X12_boresFrom.2.1 25 = .ok (.if_icmp .ge 26, 3) := by decide +kernel
theorem d_X12_boresFrom_28 : decode J_X12_boresFrom.2.1 28 = .ok (.aload_n 0, 1) := by decide +kernel
theorem d_X12_boresFrom_29 : decode J_X12_boresFrom.2.1 29 = .ok (.iload_n 1, 1) := by decide +kernel
theorem d_X12_boresFrom_30 : decode J_X12_boresFrom.2.1 30 = .ok (.iload_n 2, 1) := by decide +kernel
theorem d_X12_boresFrom_31 : decode J_X12_boresFrom.2.1 31 = .ok (.iconst 1, 1) := by decide +kernel
theorem d_X12_boresFrom_32 : decode J_X12_boresFrom.2.1 32 = .ok (.iadd, 1) := by decide +kernel
theorem d_X12_boresFrom_33 : decode J_X12_boresFrom.2.1 33 = .ok (.bipush 10, 2) := by decide +kernel
theorem d_X12_boresFrom_35 : decode J_X12_boresFrom.2.1 35 = .ok (.iload_n 3, 1) := by decide +kernel
theorem d_X12_boresFrom_36 : decode J_X12_boresFrom.2.1 36 = .ok (.imul, 1) := by decide +kernel
theorem d_X12_boresFrom_37 : decode J_X12_boresFrom.2.1 37 = .ok (.iload 5, 2) := by decide +kernel
theorem d_X12_boresFrom_39 : decode J_X12_boresFrom.2.1 39 = .ok (.iadd, 1) := by decide +kernel
theorem d_X12_boresFrom_40 : decode J_X12_boresFrom.2.1 40 = .ok (.iload 4, 2) := by decide +kernel
theorem d_X12_boresFrom_42 : decode J_X12_boresFrom.2.1 42 = .ok (.invokevirtual 316, 3) := by decide +kernel
theorem d_X12_boresFrom_45 : decode J_X12_boresFrom.2.1 45 = .ok (.iinc 5 1, 3) := by decide +kernel
theorem d_X12_boresFrom_48 : decode J_X12_boresFrom.2.1 48 = .ok (.goto (-26), 3) := by decide +kernel
theorem d_X12_boresFrom_51 : decode J_X12_boresFrom.2.1 51 = .ok (.return_, 1) := by decide +kernel
def f_X12_boresFrom_22 (N : Nat) (rS : (Int32 → Int32 → Int32 → Int32 → oM → Option (Unit × oM))) (K : oK)  : Nat → Int32 → Int32 → Int32 → Int32 → Int32 → oM → Option (Unit × oM)
  | 0, _, _, _, _, _, _ => none
  | n + 1, p1, p2, p3, p4, p5, M => (fun r22 => (if 3 ≤ p5 then some ((), M) else oB2 (rS p1 (p2 + 1) (((10 : Int32) * p3) + p5) p4 M) (fun v3 M4 => (r22 p1 p2 p3 p4 (p5 + 1) M4)))) (f_X12_boresFrom_22 N rS K  n)
set_option maxRecDepth 20000 in
theorem v_X12_boresFrom_22_L {X : oX} {d N : Nat} {rS : (Int32 → Int32 → Int32 → Int32 → oM → Option (Unit × oM))} {K : oK}  (hd : 12 ≤ d) (hK : oSR K) (hS : ∃ d', d' < d ∧ ∀ (p1 : Int32) (p2 : Int32) (p3 : Int32) (p4 : Int32) (M : oM) (v : Unit) (M' : oM) , rS p1 p2 p3 p4 M = some (v, M') → oMet X d' J_X12_boresFrom [(.ref 59), (.int p1), (.int p2), (.int p3), (.int p4)] K M none K M')  : ∀ (n : Nat) (p1 : Int32) (p2 : Int32) (p3 : Int32) (p4 : Int32) (p5 : Int32) (M : oM) (v : Unit) (M' : oM)  , f_X12_boresFrom_22 N rS K  n p1 p2 p3 p4 p5 M = some (v, M') → oEv X d J_X12_boresFrom 22 [some (.ref 59), some (.int p1), some (.int p2), some (.int p3), some (.int p4), some (.int p5)] [] K M none K M' := by
  intro n
  induction n with
  | zero =>
    intro p1 p2 p3 p4 p5 M v M'   h
    cases h
  | succ n hr22 =>
    intro p1 p2 p3 p4 p5 M v M'   h
    refine oe_iload (pc := 22) d_X12_boresFrom_22 rfl ?_
    refine oe_iconst (pc := 24) (v := 3) d_X12_boresFrom_24 rfl ?_
    refine oe_icmp_ge (pc := 25) (tgt := 51) d_X12_boresFrom_25 (by decide) (fun c2 => ?_) (fun c2 => ?_)
    · replace h := (if_pos c2).symm.trans h
      obtain ⟨rfl, rfl⟩ := oRes h
      exact oe_vret (pc := 51) d_X12_boresFrom_51 rfl
    · replace h := (if_neg c2).symm.trans h
      refine oe_aload_n (pc := 28) d_X12_boresFrom_28 rfl ?_
      refine oe_iload_n (pc := 29) d_X12_boresFrom_29 rfl ?_
      refine oe_iload_n (pc := 30) d_X12_boresFrom_30 rfl ?_
      refine oe_iconst (pc := 31) (v := 1) d_X12_boresFrom_31 rfl ?_
      refine oe_iadd (pc := 32) d_X12_boresFrom_32 ?_
      refine oe_bipush (pc := 33) (v := 10) d_X12_boresFrom_33 rfl ?_
      refine oe_iload_n (pc := 35) d_X12_boresFrom_35 rfl ?_
      refine oe_imul (pc := 36) d_X12_boresFrom_36 ?_
      refine oe_iload (pc := 37) d_X12_boresFrom_37 rfl ?_
      refine oe_iadd (pc := 39) d_X12_boresFrom_39 ?_
      refine oe_iload (pc := 40) d_X12_boresFrom_40 rfl ?_
      obtain ⟨v3, M4, q5, h⟩ := oB2_some h
      obtain ⟨d', hdl, hS9⟩ := id hS
      refine oe_callV (pc := 42) (ci := 12) d_X12_boresFrom_42 (hS9 _ _ _ _ _ _ _  q5) hdl ml_X12_316 jJ_X12_boresFrom rfl rfl (oLt hK (a := 59) (Nat.le_of_ble_eq_true rfl)) (oSho hK (a := 59) (Nat.le_of_ble_eq_true rfl) rfl) ock12 rfl (Nat.le_of_ble_eq_true rfl) ⟨Nat.le_refl _, Nat.le_refl _⟩ ⟨Nat.le_refl _, Nat.le_refl _⟩ ?_
      refine oe_iinc (pc := 45) (v := (p5 + 1)) (L2 := [_, _, _, _, _, _]) d_X12_boresFrom_45 rfl rfl rfl (Nat.le_of_ble_eq_true rfl) rfl ?_
      refine oe_goto (pc := 48) (tgt := 22) d_X12_boresFrom_48 (by decide) ?_
      exact hr22 _ _ _ _ _ _ _ _ h
theorem v_X12_boresFrom_22 {X : oX} {d N : Nat} {rS : (Int32 → Int32 → Int32 → Int32 → oM → Option (Unit × oM))} {K : oK}  {p1 : Int32} {p2 : Int32} {p3 : Int32} {p4 : Int32} {p5 : Int32} {M : oM} {v : Unit} {M' : oM}  (hd : 12 ≤ d) (hK : oSR K) (hS : ∃ d', d' < d ∧ ∀ (p1 : Int32) (p2 : Int32) (p3 : Int32) (p4 : Int32) (M : oM) (v : Unit) (M' : oM) , rS p1 p2 p3 p4 M = some (v, M') → oMet X d' J_X12_boresFrom [(.ref 59), (.int p1), (.int p2), (.int p3), (.int p4)] K M none K M')   (h : f_X12_boresFrom_22 N rS K  N p1 p2 p3 p4 p5 M = some (v, M')) : oEv X d J_X12_boresFrom 22 [some (.ref 59), some (.int p1), some (.int p2), some (.int p3), some (.int p4), some (.int p5)] [] K M none K M' := v_X12_boresFrom_22_L hd hK hS  N p1 p2 p3 p4 p5 M v M'   h
def f_X12_boresFrom (N : Nat) (K : oK) : Nat → Int32 → Int32 → Int32 → Int32 → oM → Option (Unit × oM)
  | 0, _, _, _, _, _ => none
  | n + 1, p1, p2, p3, p4, M => (fun rS => (if p2 = (M.1 59 44) then oB2 (f_X12_placeFrom N K 6 p1 (0 : Int32) (0 : Int32) p3 p4 M) (fun v6 M7 => some ((), M7)) else (f_X12_boresFrom_22 N rS K  N p1 p2 p3 p4 0 M))) (f_X12_boresFrom N K n)
set_option maxRecDepth 20000 in
theorem v_X12_boresFrom_R {X : oX} {N : Nat} {K : oK} (hK : oSR K) : ∀ (n : Nat) (p1 : Int32) (p2 : Int32) (p3 : Int32) (p4 : Int32) (M : oM) (v : Unit) (M' : oM) , f_X12_boresFrom N K n p1 p2 p3 p4 M = some (v, M') → oMet X (12 + n) J_X12_boresFrom [(.ref 59), (.int p1), (.int p2), (.int p3), (.int p4)] K M none K M' := by
  intro n
  induction n with
  | zero =>
    intro p1 p2 p3 p4 M v M'  h
    cases h
  | succ n hS0 =>
    intro p1 p2 p3 p4 M v M'  h
    refine oMet_of (L := [some (.ref 59), some (.int p1), some (.int p2), some (.int p3), some (.int p4), none]) jJ_X12_boresFrom.1 rfl (Nat.le_of_ble_eq_true rfl) rfl (Nat.le_refl _) (Nat.le_refl _) ?_
    have hd : 12 ≤ 12 + (n + 1) := Nat.le_add_right _ _
    generalize hde : 12 + (n + 1) = d at hd ⊢
    have hS : ∃ d', d' < d ∧ ∀ (p1 : Int32) (p2 : Int32) (p3 : Int32) (p4 : Int32) (M : oM) (v : Unit) (M' : oM) , f_X12_boresFrom N K n p1 p2 p3 p4 M = some (v, M') → oMet X d' J_X12_boresFrom [(.ref 59), (.int p1), (.int p2), (.int p3), (.int p4)] K M none K M' := ⟨12 + n, by omega, hS0⟩
    refine oe_iload_n (pc := 0) d_X12_boresFrom_0 rfl ?_
    refine oe_aload_n (pc := 1) d_X12_boresFrom_1 rfl ?_
    refine oe_getf (pc := 2) d_X12_boresFrom_2 fl_X12_289 ock12 (k := 44) (Nat.le_of_ble_eq_true rfl) rfl (oLt hK (a := 59) (Nat.le_of_ble_eq_true rfl)) (oSho hK (a := 59) (Nat.le_of_ble_eq_true rfl) rfl) ?_
    refine oe_icmp_ne (pc := 5) (tgt := 19) d_X12_boresFrom_5 (by decide) (fun c1 => ?_) (fun c1 => ?_)
    · replace h := (if_neg c1).symm.trans h
      refine oe_iconst (pc := 19) (v := 0) d_X12_boresFrom_19 rfl ?_
      refine oe_istore (pc := 20) (L2 := [_, _, _, _, _, _]) d_X12_boresFrom_20 rfl (Nat.le_of_ble_eq_true rfl) rfl ?_
      exact v_X12_boresFrom_22 hd hK hS   h
    · replace h := (if_pos c1).symm.trans h
      refine oe_aload_n (pc := 8) d_X12_boresFrom_8 rfl ?_
      refine oe_iload_n (pc := 9) d_X12_boresFrom_9 rfl ?_
      refine oe_iconst (pc := 10) (v := 0) d_X12_boresFrom_10 rfl ?_
      refine oe_iconst (pc := 11) (v := 0) d_X12_boresFrom_11 rfl ?_
      refine oe_iload_n (pc := 12) d_X12_boresFrom_12 rfl ?_
      refine oe_iload (pc := 13) d_X12_boresFrom_13 rfl ?_
      obtain ⟨v6, M7, q8, h⟩ := oB2_some h
      refine oe_callV (pc := 15) (ci := 12) d_X12_boresFrom_15 (v_X12_placeFrom_R hK 6 _ _ _ _ _ _ _ _  q8) (by omega) ml_X12_312 jJ_X12_placeFrom rfl rfl (oLt hK (a := 59) (Nat.le_of_ble_eq_true rfl)) (oSho hK (a := 59) (Nat.le_of_ble_eq_true rfl) rfl) ock12 rfl (Nat.le_of_ble_eq_true rfl) ⟨Nat.le_refl _, Nat.le_refl _⟩ ⟨Nat.le_refl _, Nat.le_refl _⟩ ?_
      obtain ⟨rfl, rfl⟩ := oRes h
      exact oe_vret (pc := 18) d_X12_boresFrom_18 rfl
theorem d_X12_most_0 : decode J_X12_most.2.1 0 = .ok (.aload_n 0, 1) := by decide +kernel
theorem d_X12_most_1 : decode J_X12_most.2.1 1 = .ok (.iload_n 1, 1) := by decide +kernel
theorem d_X12_most_2 : decode J_X12_most.2.1 2 = .ok (.invokevirtual 230, 3) := by decide +kernel
theorem d_X12_most_5 : decode J_X12_most.2.1 5 = .ok (.ifCond .eq 22, 3) := by decide +kernel
theorem d_X12_most_8 : decode J_X12_most.2.1 8 = .ok (.iload_n 2, 1) := by decide +kernel
theorem d_X12_most_9 : decode J_X12_most.2.1 9 = .ok (.invokestatic 283, 3) := by decide +kernel
theorem d_X12_most_12 : decode J_X12_most.2.1 12 = .ok (.ifCond .eq 15, 3) := by decide +kernel
theorem d_X12_most_15 : decode J_X12_most.2.1 15 = .ok (.iload_n 3, 1) := by decide +kernel
theorem d_X12_most_16 : decode J_X12_most.2.1 16 = .ok (.i2l, 1) := by decide +kernel
theorem d_X12_most_17 : decode J_X12_most.2.1 17 = .ok (.lconst 0, 1) := by decide +kernel
theorem d_X12_most_18 : decode J_X12_most.2.1 18 = .ok (.ldc2_w 152, 3) := by decide +kernel
theorem d_X12_most_21 : decode J_X12_most.2.1 21 = .ok (.invokestatic 145, 3) := by decide +kernel
theorem d_X12_most_24 : decode J_X12_most.2.1 24 = .ok (.ifCond .ne 5, 3) := by decide +kernel
theorem d_X12_most_27 : decode J_X12_most.2.1 27 = .ok (.iconst (-1), 1) := by decide +kernel
theorem d_X12_most_28 : decode J_X12_most.2.1 28 = .ok (.ireturn, 1) := by decide +kernel
theorem d_X12_most_29 : decode J_X12_most.2.1 29 = .ok (.aload_n 0, 1) := by decide +kernel
theorem d_X12_most_30 : decode J_X12_most.2.1 30 = .ok (.iload_n 1, 1) := by decide +kernel
theorem d_X12_most_31 : decode J_X12_most.2.1 31 = .ok (.invokevirtual 320, 3) := by decide +kernel
theorem d_X12_most_34 : decode J_X12_most.2.1 34 = .ok (.ifCond .ne 6, 3) := by decide +kernel
theorem d_X12_most_37 : decode J_X12_most.2.1 37 = .ok (.bipush (-4), 2) := by decide +kernel
theorem d_X12_most_39 : decode J_X12_most.2.1 39 = .ok (.ireturn, 1) := by decide +kernel
theorem d_X12_most_40 : decode J_X12_most.2.1 40 = .ok (.aload_n 0, 1) := by decide +kernel
theorem d_X12_most_41 : decode J_X12_most.2.1 41 = .ok (.iconst (-1), 1) := by decide +kernel
theorem d_X12_most_42 : decode J_X12_most.2.1 42 = .ok (.putfield 303, 3) := by decide +kernel
theorem d_X12_most_45 : decode J_X12_most.2.1 45 = .ok (.aload_n 0, 1) := by decide +kernel
theorem d_X12_most_46 : decode J_X12_most.2.1 46 = .ok (.iconst 0, 1) := by decide +kernel
theorem d_X12_most_47 : decode J_X12_most.2.1 47 = .ok (.putfield 306, 3) := by decide +kernel
theorem d_X12_most_50 : decode J_X12_most.2.1 50 = .ok (.aload_n 0, 1) := by decide +kernel
theorem d_X12_most_51 : decode J_X12_most.2.1 51 = .ok (.iconst 0, 1) := by decide +kernel
theorem d_X12_most_52 : decode J_X12_most.2.1 52 = .ok (.putfield 309, 3) := by decide +kernel
theorem d_X12_most_55 : decode J_X12_most.2.1 55 = .ok (.aload_n 0, 1) := by decide +kernel
theorem d_X12_most_56 : decode J_X12_most.2.1 56 = .ok (.getfield 292, 3) := by decide +kernel
theorem d_X12_most_59 : decode J_X12_most.2.1 59 = .ok (.aload_n 0, 1) := by decide +kernel
theorem d_X12_most_60 : decode J_X12_most.2.1 60 = .ok (.getfield 289, 3) := by decide +kernel
theorem d_X12_most_63 : decode J_X12_most.2.1 63 = .ok (.if_icmp .gt 11, 3) := by decide +kernel
theorem d_X12_most_66 : decode J_X12_most.2.1 66 = .ok (.aload_n 0, 1) := by decide +kernel
theorem d_X12_most_67 : decode J_X12_most.2.1 67 = .ok (.iload_n 1, 1) := by decide +kernel
theorem d_X12_most_68 : decode J_X12_most.2.1 68 = .ok (.iconst 0, 1) := by decide +kernel
theorem d_X12_most_69 : decode J_X12_most.2.1 69 = .ok (.iconst 0, 1) := by decide +kernel
theorem d_X12_most_70 : decode J_X12_most.2.1 70 = .ok (.iload_n 2, 1) := by decide +kernel
theorem d_X12_most_71 : decode J_X12_most.2.1 71 = .ok (.invokevirtual 316, 3) := by decide +kernel
theorem d_X12_most_74 : decode J_X12_most.2.1 74 = .ok (.aload_n 0, 1) := by decide +kernel
theorem d_X12_most_75 : decode J_X12_most.2.1 75 = .ok (.getfield 303, 3) := by decide +kernel
theorem d_X12_most_78 : decode J_X12_most.2.1 78 = .ok (.ifCond .ge 8, 3) := by decide +kernel
theorem d_X12_most_81 : decode J_X12_most.2.1 81 = .ok (.bipush (-2), 2) := by decide +kernel
theorem d_X12_most_83 : decode J_X12_most.2.1 83 = .ok (.goto 30, 3) := by decide +kernel
theorem d_X12_most_86 : decode J_X12_most.2.1 86 = .ok (.iload_n 3, 1) := by decide +kernel
theorem d_X12_most_87 : decode J_X12_most.2.1 87 = .ok (.ifCond .ne 10, 3) := by decide +kernel
theorem d_X12_most_90 : decode J_X12_most.2.1 90 = .ok (.aload_n 0, 1) := by decide +kernel
theorem d_X12_most_91 : decode J_X12_most.2.1 91 = .ok (.getfield 303, 3) := by decide +kernel
theorem d_X12_most_94 : decode J_X12_most.2.1 94 = .ok (.goto 19, 3) := by decide +kernel
theorem d_X12_most_97 : decode J_X12_most.2.1 97 = .ok (.iload_n 3, 1) := by decide +kernel
theorem d_X12_most_98 : decode J_X12_most.2.1 98 = .ok (.iconst 1, 1) := by decide +kernel
theorem d_X12_most_99 : decode J_X12_most.2.1 99 = .ok (.if_icmp .ne 10, 3) := by decide +kernel
theorem d_X12_most_102 : decode J_X12_most.2.1 102 = .ok (.aload_n 0, 1) := by decide +kernel
theorem d_X12_most_103 : decode J_X12_most.2.1 103 = .ok (.getfield 306, 3) := by decide +kernel
theorem d_X12_most_106 : decode J_X12_most.2.1 106 = .ok (.goto 7, 3) := by decide +kernel
theorem d_X12_most_109 : decode J_X12_most.2.1 109 = .ok (.aload_n 0, 1) := by decide +kernel
theorem d_X12_most_110 : decode J_X12_most.2.1 110 = .ok (.getfield 309, 3) := by decide +kernel
theorem d_X12_most_113 : decode J_X12_most.2.1 113 = .ok (.ireturn, 1) := by decide +kernel
def f_X12_most_74 (N : Nat) (K : oK)  (p3 : Int32) (M : oM) : Option (Int32 × oM) :=
  (if 0 ≤ (M.1 59 46) then (if p3 = 0 then some ((M.1 59 46), M) else (if p3 = 1 then some ((M.1 59 47), M) else some ((M.1 59 48), M))) else some ((-2), M))
set_option maxRecDepth 20000 in
theorem v_X12_most_74 {X : oX} {d N : Nat} {K : oK}  {p3 : Int32} {M : oM} {v : Int32} {M' : oM}  (hd : 21 ≤ d) (hK : oSR K)   (h : f_X12_most_74 N K  p3 M = some (v, M')) : oEv X d J_X12_most 74 [some (.ref 59), none, none, some (.int p3)] [] K M (some (.int v)) K M' := by
  unfold f_X12_most_74 at h
  refine oe_aload_n (pc := 74) d_X12_most_74 rfl ?_
  refine oe_getf (pc := 75) d_X12_most_75 fl_X12_303 ock12 (k := 46) (Nat.le_of_ble_eq_true rfl) rfl (oLt hK (a := 59) (Nat.le_of_ble_eq_true rfl)) (oSho hK (a := 59) (Nat.le_of_ble_eq_true rfl) rfl) ?_
  refine oe_if_ge (pc := 78) (tgt := 86) d_X12_most_78 (by decide) (fun c14 => ?_) (fun c14 => ?_)
  · replace h := (if_pos c14).symm.trans h
    refine oe_iload_n (pc := 86) d_X12_most_86 rfl ?_
    refine oe_if_ne (pc := 87) (tgt := 97) d_X12_most_87 (by decide) (fun c15 => ?_) (fun c15 => ?_)
    · replace h := (if_neg c15).symm.trans h
      refine oe_iload_n (pc := 97) d_X12_most_97 rfl ?_
      refine oe_iconst (pc := 98) (v := 1) d_X12_most_98 rfl ?_
      refine oe_icmp_ne (pc := 99) (tgt := 109) d_X12_most_99 (by decide) (fun c16 => ?_) (fun c16 => ?_)
      · replace h := (if_neg c16).symm.trans h
        refine oe_aload_n (pc := 109) d_X12_most_109 rfl ?_
        refine oe_getf (pc := 110) d_X12_most_110 fl_X12_309 ock12 (k := 48) (Nat.le_of_ble_eq_true rfl) rfl (oLt hK (a := 59) (Nat.le_of_ble_eq_true rfl)) (oSho hK (a := 59) (Nat.le_of_ble_eq_true rfl) rfl) ?_
        obtain ⟨rfl, rfl⟩ := oRes h
        exact oe_iret (pc := 113) d_X12_most_113 ⟨_, rfl, rfl⟩
      · replace h := (if_pos c16).symm.trans h
        refine oe_aload_n (pc := 102) d_X12_most_102 rfl ?_
        refine oe_getf (pc := 103) d_X12_most_103 fl_X12_306 ock12 (k := 47) (Nat.le_of_ble_eq_true rfl) rfl (oLt hK (a := 59) (Nat.le_of_ble_eq_true rfl)) (oSho hK (a := 59) (Nat.le_of_ble_eq_true rfl) rfl) ?_
        refine oe_goto (pc := 106) (tgt := 113) d_X12_most_106 (by decide) ?_
        obtain ⟨rfl, rfl⟩ := oRes h
        exact oe_iret (pc := 113) d_X12_most_113 ⟨_, rfl, rfl⟩
    · replace h := (if_pos c15).symm.trans h
      refine oe_aload_n (pc := 90) d_X12_most_90 rfl ?_
      refine oe_getf (pc := 91) d_X12_most_91 fl_X12_303 ock12 (k := 46) (Nat.le_of_ble_eq_true rfl) rfl (oLt hK (a := 59) (Nat.le_of_ble_eq_true rfl)) (oSho hK (a := 59) (Nat.le_of_ble_eq_true rfl) rfl) ?_
      refine oe_goto (pc := 94) (tgt := 113) d_X12_most_94 (by decide) ?_
      obtain ⟨rfl, rfl⟩ := oRes h
      exact oe_iret (pc := 113) d_X12_most_113 ⟨_, rfl, rfl⟩
  · replace h := (if_neg c14).symm.trans h
    refine oe_bipush (pc := 81) (v := (-2)) d_X12_most_81 rfl ?_
    refine oe_goto (pc := 83) (tgt := 113) d_X12_most_83 (by decide) ?_
    obtain ⟨rfl, rfl⟩ := oRes h
    exact oe_iret (pc := 113) d_X12_most_113 ⟨_, rfl, rfl⟩
def f_X12_most (N : Nat) (K : oK) (p1 : Int32) (p2 : Int32) (p3 : Int32) (M : oM) : Option (Int32 × oM) :=
  oB2 (f_X12_isLaying N K p1 M) (fun v1 M2 => cond v1 (oB2 (f_X12_isNeed N K p2 M2) (fun v4 M5 => cond v4 (oB2 (f_X12_within N K ((p3 : Int32).toInt64) 0 2 M5) (fun v7 M8 => cond v7 (oB2 (f_X12_sums N K p1 M8) (fun v10 M11 => cond v10 ((if ((oUp (oUp (oUp M11 59 46 ((-1) : Int32)) 59 47 (0 : Int32)) 59 48 (0 : Int32)).1 59 44) < ((oUp (oUp (oUp M11 59 46 ((-1) : Int32)) 59 47 (0 : Int32)) 59 48 (0 : Int32)).1 59 45) then (f_X12_most_74 N K  p3 (oUp (oUp (oUp M11 59 46 ((-1) : Int32)) 59 47 (0 : Int32)) 59 48 (0 : Int32))) else oB2 (f_X12_boresFrom N K 8 p1 (0 : Int32) (0 : Int32) p2 (oUp (oUp (oUp M11 59 46 ((-1) : Int32)) 59 47 (0 : Int32)) 59 48 (0 : Int32))) (fun v17 M18 => (f_X12_most_74 N K  p3 M18)))) (some ((-4), M11)))) (some ((-1), M8)))) (some ((-1), M5)))) (some ((-1), M2)))
set_option maxRecDepth 20000 in
theorem v_X12_most {X : oX} {N : Nat} {K : oK} {p1 : Int32} {p2 : Int32} {p3 : Int32} {M : oM} {v : Int32} {M' : oM} (hK : oSR K)  (h : f_X12_most N K p1 p2 p3 M = some (v, M')) : oMet X 21 J_X12_most [(.ref 59), (.int p1), (.int p2), (.int p3)] K M (some (.int v)) K M' := by
  unfold f_X12_most at h
  refine oMet_of (L := [some (.ref 59), some (.int p1), some (.int p2), some (.int p3)]) jJ_X12_most.1 rfl (Nat.le_of_ble_eq_true rfl) rfl (Nat.le_refl _) (Nat.le_refl _) ?_
  have hd : 21 ≤ 21 := Nat.le_refl _
  refine oe_aload_n (pc := 0) d_X12_most_0 rfl ?_
  refine oe_iload_n (pc := 1) d_X12_most_1 rfl ?_
  obtain ⟨v1, M2, q3, h⟩ := oB2_some h
  cases v1 with
  | true =>
    replace h := oCt h
    refine oe_callV (pc := 2) (ci := 12) d_X12_most_2 (v_X12_isLaying hK  q3) (by omega) ml_X12_230 jJ_X12_isLaying rfl rfl (oLt hK (a := 59) (Nat.le_of_ble_eq_true rfl)) (oSho hK (a := 59) (Nat.le_of_ble_eq_true rfl) rfl) ock12 rfl (Nat.le_of_ble_eq_true rfl) ⟨Nat.le_refl _, Nat.le_refl _⟩ ⟨Nat.le_refl _, Nat.le_refl _⟩ ?_
    refine oe_if_eq (pc := 5) (tgt := 27) d_X12_most_5 (by decide) (fun c => absurd c (by decide)) (fun _ => ?_)
    refine oe_iload_n (pc := 8) d_X12_most_8 rfl ?_
    obtain ⟨v4, M5, q6, h⟩ := oB2_some h
    cases v4 with
    | true =>
      replace h := oCt h
      refine oe_callS (pc := 9) d_X12_most_9 (v_X12_isNeed hK  q6) (by omega) ml_X12_283 jJ_X12_isNeed rfl rfl (Nat.le_of_ble_eq_true rfl) ⟨Nat.le_refl _, Nat.le_refl _⟩ ⟨Nat.le_refl _, Nat.le_refl _⟩ ?_
      refine oe_if_eq (pc := 12) (tgt := 27) d_X12_most_12 (by decide) (fun c => absurd c (by decide)) (fun _ => ?_)
      refine oe_iload_n (pc := 15) d_X12_most_15 rfl ?_
      refine oe_i2l (pc := 16) d_X12_most_16 ?_
      refine oe_lconst (pc := 17) (v := 0) d_X12_most_17 rfl ?_
      refine oe_ldc2 (pc := 18) d_X12_most_18 co_X12_152 ?_
      obtain ⟨v7, M8, q9, h⟩ := oB2_some h
      cases v7 with
      | true =>
        replace h := oCt h
        refine oe_callS (pc := 21) d_X12_most_21 (v_X12_within hK  q9) (by omega) ml_X12_145 jJ_X12_within rfl rfl (Nat.le_of_ble_eq_true rfl) ⟨Nat.le_refl _, Nat.le_refl _⟩ ⟨Nat.le_refl _, Nat.le_refl _⟩ ?_
        refine oe_if_ne (pc := 24) (tgt := 29) d_X12_most_24 (by decide) (fun _ => ?_) (fun c => absurd c (by decide))
        refine oe_aload_n (pc := 29) d_X12_most_29 rfl ?_
        refine oe_iload_n (pc := 30) d_X12_most_30 rfl ?_
        obtain ⟨v10, M11, q12, h⟩ := oB2_some h
        cases v10 with
        | true =>
          replace h := oCt h
          refine oe_callV (pc := 31) (ci := 12) d_X12_most_31 (v_X12_sums hK  q12) (by omega) ml_X12_320 jJ_X12_sums rfl rfl (oLt hK (a := 59) (Nat.le_of_ble_eq_true rfl)) (oSho hK (a := 59) (Nat.le_of_ble_eq_true rfl) rfl) ock12 rfl (Nat.le_of_ble_eq_true rfl) ⟨Nat.le_refl _, Nat.le_refl _⟩ ⟨Nat.le_refl _, Nat.le_refl _⟩ ?_
          refine oe_if_ne (pc := 34) (tgt := 40) d_X12_most_34 (by decide) (fun _ => ?_) (fun c => absurd c (by decide))
          refine oe_aload_n (pc := 40) d_X12_most_40 rfl ?_
          refine oe_iconst (pc := 41) (v := (-1)) d_X12_most_41 rfl ?_
          refine oe_putf (pc := 42) d_X12_most_42 fl_X12_303 ock12 (k := 46) (Nat.le_of_ble_eq_true rfl) rfl rfl (oLt hK (a := 59) (Nat.le_of_ble_eq_true rfl)) (oSho hK (a := 59) (Nat.le_of_ble_eq_true rfl) rfl) ?_
          refine oe_aload_n (pc := 45) d_X12_most_45 rfl ?_
          refine oe_iconst (pc := 46) (v := 0) d_X12_most_46 rfl ?_
          refine oe_putf (pc := 47) d_X12_most_47 fl_X12_306 ock12 (k := 47) (Nat.le_of_ble_eq_true rfl) rfl rfl (oLt hK (a := 59) (Nat.le_of_ble_eq_true rfl)) (oSho hK (a := 59) (Nat.le_of_ble_eq_true rfl) rfl) ?_
          refine oe_aload_n (pc := 50) d_X12_most_50 rfl ?_
          refine oe_iconst (pc := 51) (v := 0) d_X12_most_51 rfl ?_
          refine oe_putf (pc := 52) d_X12_most_52 fl_X12_309 ock12 (k := 48) (Nat.le_of_ble_eq_true rfl) rfl rfl (oLt hK (a := 59) (Nat.le_of_ble_eq_true rfl)) (oSho hK (a := 59) (Nat.le_of_ble_eq_true rfl) rfl) ?_
          refine oe_aload_n (pc := 55) d_X12_most_55 rfl ?_
          refine oe_getf (pc := 56) d_X12_most_56 fl_X12_292 ock12 (k := 45) (Nat.le_of_ble_eq_true rfl) rfl (oLt hK (a := 59) (Nat.le_of_ble_eq_true rfl)) (oSho hK (a := 59) (Nat.le_of_ble_eq_true rfl) rfl) ?_
          refine oe_aload_n (pc := 59) d_X12_most_59 rfl ?_
          refine oe_getf (pc := 60) d_X12_most_60 fl_X12_289 ock12 (k := 44) (Nat.le_of_ble_eq_true rfl) rfl (oLt hK (a := 59) (Nat.le_of_ble_eq_true rfl)) (oSho hK (a := 59) (Nat.le_of_ble_eq_true rfl) rfl) ?_
          refine oe_icmp_gt (pc := 63) (tgt := 74) d_X12_most_63 (by decide) (fun c13 => ?_) (fun c13 => ?_)
          · replace h := (if_pos c13).symm.trans h
            refine oEv.fg [true, false, false, true] ?_
            exact v_X12_most_74 hd hK   h
          · replace h := (if_neg c13).symm.trans h
            refine oe_aload_n (pc := 66) d_X12_most_66 rfl ?_
            refine oe_iload_n (pc := 67) d_X12_most_67 rfl ?_
            refine oe_iconst (pc := 68) (v := 0) d_X12_most_68 rfl ?_
            refine oe_iconst (pc := 69) (v := 0) d_X12_most_69 rfl ?_
            refine oe_iload_n (pc := 70) d_X12_most_70 rfl ?_
            obtain ⟨v17, M18, q19, h⟩ := oB2_some h
            refine oe_callV (pc := 71) (ci := 12) d_X12_most_71 (v_X12_boresFrom_R hK 8 _ _ _ _ _ _ _  q19) (by omega) ml_X12_316 jJ_X12_boresFrom rfl rfl (oLt hK (a := 59) (Nat.le_of_ble_eq_true rfl)) (oSho hK (a := 59) (Nat.le_of_ble_eq_true rfl) rfl) ock12 rfl (Nat.le_of_ble_eq_true rfl) ⟨Nat.le_refl _, Nat.le_refl _⟩ ⟨Nat.le_refl _, Nat.le_refl _⟩ ?_
            refine oEv.fg [true, false, false, true] ?_
            exact v_X12_most_74 hd hK   h
        | false =>
          replace h := oCf h
          refine oe_callV (pc := 31) (ci := 12) d_X12_most_31 (v_X12_sums hK  q12) (by omega) ml_X12_320 jJ_X12_sums rfl rfl (oLt hK (a := 59) (Nat.le_of_ble_eq_true rfl)) (oSho hK (a := 59) (Nat.le_of_ble_eq_true rfl) rfl) ock12 rfl (Nat.le_of_ble_eq_true rfl) ⟨Nat.le_refl _, Nat.le_refl _⟩ ⟨Nat.le_refl _, Nat.le_refl _⟩ ?_
          refine oe_if_ne (pc := 34) (tgt := 40) d_X12_most_34 (by decide) (fun c => absurd (by decide) c) (fun _ => ?_)
          refine oe_bipush (pc := 37) (v := (-4)) d_X12_most_37 rfl ?_
          obtain ⟨rfl, rfl⟩ := oRes h
          exact oe_iret (pc := 39) d_X12_most_39 ⟨_, rfl, rfl⟩
      | false =>
        replace h := oCf h
        refine oe_callS (pc := 21) d_X12_most_21 (v_X12_within hK  q9) (by omega) ml_X12_145 jJ_X12_within rfl rfl (Nat.le_of_ble_eq_true rfl) ⟨Nat.le_refl _, Nat.le_refl _⟩ ⟨Nat.le_refl _, Nat.le_refl _⟩ ?_
        refine oe_if_ne (pc := 24) (tgt := 29) d_X12_most_24 (by decide) (fun c => absurd (by decide) c) (fun _ => ?_)
        refine oe_iconst (pc := 27) (v := (-1)) d_X12_most_27 rfl ?_
        obtain ⟨rfl, rfl⟩ := oRes h
        exact oe_iret (pc := 28) d_X12_most_28 ⟨_, rfl, rfl⟩
    | false =>
      replace h := oCf h
      refine oe_callS (pc := 9) d_X12_most_9 (v_X12_isNeed hK  q6) (by omega) ml_X12_283 jJ_X12_isNeed rfl rfl (Nat.le_of_ble_eq_true rfl) ⟨Nat.le_refl _, Nat.le_refl _⟩ ⟨Nat.le_refl _, Nat.le_refl _⟩ ?_
      refine oe_if_eq (pc := 12) (tgt := 27) d_X12_most_12 (by decide) (fun _ => ?_) (fun c => absurd (by decide) c)
      refine oe_iconst (pc := 27) (v := (-1)) d_X12_most_27 rfl ?_
      obtain ⟨rfl, rfl⟩ := oRes h
      exact oe_iret (pc := 28) d_X12_most_28 ⟨_, rfl, rfl⟩
  | false =>
    replace h := oCf h
    refine oe_callV (pc := 2) (ci := 12) d_X12_most_2 (v_X12_isLaying hK  q3) (by omega) ml_X12_230 jJ_X12_isLaying rfl rfl (oLt hK (a := 59) (Nat.le_of_ble_eq_true rfl)) (oSho hK (a := 59) (Nat.le_of_ble_eq_true rfl) rfl) ock12 rfl (Nat.le_of_ble_eq_true rfl) ⟨Nat.le_refl _, Nat.le_refl _⟩ ⟨Nat.le_refl _, Nat.le_refl _⟩ ?_
    refine oe_if_eq (pc := 5) (tgt := 27) d_X12_most_5 (by decide) (fun _ => ?_) (fun c => absurd (by decide) c)
    refine oe_iconst (pc := 27) (v := (-1)) d_X12_most_27 rfl ?_
    obtain ⟨rfl, rfl⟩ := oRes h
    exact oe_iret (pc := 28) d_X12_most_28 ⟨_, rfl, rfl⟩
theorem d_X12_orNone_0 : decode J_X12_orNone.2.1 0 = .ok (.iload_n 0, 1) := by decide +kernel
theorem d_X12_orNone_1 : decode J_X12_orNone.2.1 1 = .ok (.ifCond .ge 7, 3) := by decide +kernel
theorem d_X12_orNone_4 : decode J_X12_orNone.2.1 4 = .ok (.iconst 0, 1) := by decide +kernel
theorem d_X12_orNone_5 : decode J_X12_orNone.2.1 5 = .ok (.goto 4, 3) := by decide +kernel
theorem d_X12_orNone_8 : decode J_X12_orNone.2.1 8 = .ok (.iload_n 0, 1) := by decide +kernel
theorem d_X12_orNone_9 : decode J_X12_orNone.2.1 9 = .ok (.ireturn, 1) := by decide +kernel
def f_X12_orNone (N : Nat) (K : oK) (p0 : Int32) (M : oM) : Option (Int32 × oM) :=
  (if 0 ≤ p0 then some (p0, M) else some (0, M))
set_option maxRecDepth 20000 in
theorem v_X12_orNone {X : oX} {N : Nat} {K : oK} {p0 : Int32} {M : oM} {v : Int32} {M' : oM} (hK : oSR K)  (h : f_X12_orNone N K p0 M = some (v, M')) : oMet X 1 J_X12_orNone [(.int p0)] K M (some (.int v)) K M' := by
  unfold f_X12_orNone at h
  refine oMet_of (L := [some (.int p0)]) jJ_X12_orNone.1 rfl (Nat.le_of_ble_eq_true rfl) rfl (Nat.le_refl _) (Nat.le_refl _) ?_
  have hd : 1 ≤ 1 := Nat.le_refl _
  refine oe_iload_n (pc := 0) d_X12_orNone_0 rfl ?_
  refine oe_if_ge (pc := 1) (tgt := 8) d_X12_orNone_1 (by decide) (fun c1 => ?_) (fun c1 => ?_)
  · replace h := (if_pos c1).symm.trans h
    refine oe_iload_n (pc := 8) d_X12_orNone_8 rfl ?_
    obtain ⟨rfl, rfl⟩ := oRes h
    exact oe_iret (pc := 9) d_X12_orNone_9 ⟨_, rfl, rfl⟩
  · replace h := (if_neg c1).symm.trans h
    refine oe_iconst (pc := 4) (v := 0) d_X12_orNone_4 rfl ?_
    refine oe_goto (pc := 5) (tgt := 9) d_X12_orNone_5 (by decide) ?_
    obtain ⟨rfl, rfl⟩ := oRes h
    exact oe_iret (pc := 9) d_X12_orNone_9 ⟨_, rfl, rfl⟩
theorem d_X12_isPart_0 : decode J_X12_isPart.2.1 0 = .ok (.aload_n 0, 1) := by decide +kernel
theorem d_X12_isPart_1 : decode J_X12_isPart.2.1 1 = .ok (.iload_n 1, 1) := by decide +kernel
theorem d_X12_isPart_2 : decode J_X12_isPart.2.1 2 = .ok (.invokevirtual 230, 3) := by decide +kernel
theorem d_X12_isPart_5 : decode J_X12_isPart.2.1 5 = .ok (.ifCond .eq 40, 3) := by decide +kernel
theorem d_X12_isPart_8 : decode J_X12_isPart.2.1 8 = .ok (.iload_n 2, 1) := by decide +kernel
theorem d_X12_isPart_9 : decode J_X12_isPart.2.1 9 = .ok (.i2l, 1) := by decide +kernel
theorem d_X12_isPart_10 : decode J_X12_isPart.2.1 10 = .ok (.lconst 0, 1) := by decide +kernel
theorem d_X12_isPart_11 : decode J_X12_isPart.2.1 11 = .ok (.aload_n 0, 1) := by decide +kernel
theorem d_X12_isPart_12 : decode J_X12_isPart.2.1 12 = .ok (.getfield 58, 3) := by decide +kernel
theorem d_X12_isPart_15 : decode J_X12_isPart.2.1 15 = .ok (.iload_n 1, 1) := by decide +kernel
theorem d_X12_isPart_16 : decode J_X12_isPart.2.1 16 = .ok (.iaload, 1) := by decide +kernel
theorem d_X12_isPart_17 : decode J_X12_isPart.2.1 17 = .ok (.iconst 1, 1) := by decide +kernel
theorem d_X12_isPart_18 : decode J_X12_isPart.2.1 18 = .ok (.isub, 1) := by decide +kernel
theorem d_X12_isPart_19 : decode J_X12_isPart.2.1 19 = .ok (.i2l, 1) := by decide +kernel
theorem d_X12_isPart_20 : decode J_X12_isPart.2.1 20 = .ok (.invokestatic 145, 3) := by decide +kernel
theorem d_X12_isPart_23 : decode J_X12_isPart.2.1 23 = .ok (.ifCond .eq 22, 3) := by decide +kernel
theorem d_X12_isPart_26 : decode J_X12_isPart.2.1 26 = .ok (.aload_n 0, 1) := by decide +kernel
theorem d_X12_isPart_27 : decode J_X12_isPart.2.1 27 = .ok (.getfield 61, 3) := by decide +kernel
theorem d_X12_isPart_30 : decode J_X12_isPart.2.1 30 = .ok (.bipush 24, 2) := by decide +kernel
theorem d_X12_isPart_32 : decode J_X12_isPart.2.1 32 = .ok (.iload_n 1, 1) := by decide +kernel
theorem d_X12_isPart_33 : decode J_X12_isPart.2.1 33 = .ok (.imul, 1) := by decide +kernel
theorem d_X12_isPart_34 : decode J_X12_isPart.2.1 34 = .ok (.iload_n 2, 1) := by decide +kernel
theorem d_X12_isPart_35 : decode J_X12_isPart.2.1 35 = .ok (.iadd, 1) := by decide +kernel
theorem d_X12_isPart_36 : decode J_X12_isPart.2.1 36 = .ok (.iaload, 1) := by decide +kernel
theorem d_X12_isPart_37 : decode J_X12_isPart.2.1 37 = .ok (.iload_n 3, 1) := by decide +kernel
theorem d_X12_isPart_38 : decode J_X12_isPart.2.1 38 = .ok (.if_icmp .ne 7, 3) := by decide +kernel
theorem d_X12_isPart_41 : decode J_X12_isPart.2.1 41 = .ok (.iconst 1, 1) := by decide +kernel
theorem d_X12_isPart_42 : decode J_X12_isPart.2.1 42 = .ok (.goto 4, 3) := by decide +kernel
theorem d_X12_isPart_45 : decode J_X12_isPart.2.1 45 = .ok (.iconst 0, 1) := by decide +kernel
theorem d_X12_isPart_46 : decode J_X12_isPart.2.1 46 = .ok (.ireturn, 1) := by decide +kernel
def f_X12_isPart (N : Nat) (K : oK) (p1 : Int32) (p2 : Int32) (p3 : Int32) (M : oM) : Option (Bool × oM) :=
  oB2 (f_X12_isLaying N K p1 M) (fun v1 M2 => cond v1 (oIx (p1) 20 (oB2 (f_X12_within N K ((p2 : Int32).toInt64) 0 ((((M2.1 76 (p1 : Int32).toNatClampNeg) - 1) : Int32).toInt64) M2) (fun v5 M6 => cond v5 (oIx ((((24 : Int32) * p1) + p2)) 480 ((if (M6.1 77 ((((24 : Int32) * p1) + p2) : Int32).toNatClampNeg) = p3 then some (true, M6) else some (false, M6)))) (some (false, M6))))) (some (false, M2)))
set_option maxRecDepth 20000 in
theorem v_X12_isPart {X : oX} {N : Nat} {K : oK} {p1 : Int32} {p2 : Int32} {p3 : Int32} {M : oM} {v : Bool} {M' : oM} (hK : oSR K)  (h : f_X12_isPart N K p1 p2 p3 M = some (v, M')) : oMet X 3 J_X12_isPart [(.ref 59), (.int p1), (.int p2), (.int p3)] K M (some (.int (oBi v))) K M' := by
  unfold f_X12_isPart at h
  refine oMet_of (L := [some (.ref 59), some (.int p1), some (.int p2), some (.int p3)]) jJ_X12_isPart.1 rfl (Nat.le_of_ble_eq_true rfl) rfl (Nat.le_refl _) (Nat.le_refl _) ?_
  have hd : 3 ≤ 3 := Nat.le_refl _
  refine oe_aload_n (pc := 0) d_X12_isPart_0 rfl ?_
  refine oe_iload_n (pc := 1) d_X12_isPart_1 rfl ?_
  obtain ⟨v1, M2, q3, h⟩ := oB2_some h
  cases v1 with
  | true =>
    replace h := oCt h
    refine oe_callV (pc := 2) (ci := 12) d_X12_isPart_2 (v_X12_isLaying hK  q3) (by omega) ml_X12_230 jJ_X12_isLaying rfl rfl (oLt hK (a := 59) (Nat.le_of_ble_eq_true rfl)) (oSho hK (a := 59) (Nat.le_of_ble_eq_true rfl) rfl) ock12 rfl (Nat.le_of_ble_eq_true rfl) ⟨Nat.le_refl _, Nat.le_refl _⟩ ⟨Nat.le_refl _, Nat.le_refl _⟩ ?_
    refine oe_if_eq (pc := 5) (tgt := 45) d_X12_isPart_5 (by decide) (fun c => absurd c (by decide)) (fun _ => ?_)
    refine oe_iload_n (pc := 8) d_X12_isPart_8 rfl ?_
    refine oe_i2l (pc := 9) d_X12_isPart_9 ?_
    refine oe_lconst (pc := 10) (v := 0) d_X12_isPart_10 rfl ?_
    refine oe_aload_n (pc := 11) d_X12_isPart_11 rfl ?_
    refine oe_getr (pc := 12) d_X12_isPart_12 fl_X12_58 ock12 (k := 24) (b := 76) (Nat.le_of_ble_eq_true rfl) (by decide) (oLt hK (a := 59) (Nat.le_of_ble_eq_true rfl)) (oSho hK (a := 59) (Nat.le_of_ble_eq_true rfl) rfl) (oRfK hK rfl) ?_
    refine oe_iload_n (pc := 15) d_X12_isPart_15 rfl ?_
    obtain ⟨i4, h⟩ := oIx_some h
    refine oe_iald (pc := 16) d_X12_isPart_16 (oLt hK (a := 76) (Nat.le_of_ble_eq_true rfl)) (oSha hK (a := 76) (Nat.le_of_ble_eq_true rfl) rfl) i4 ?_
    refine oe_iconst (pc := 17) (v := 1) d_X12_isPart_17 rfl ?_
    refine oe_isub (pc := 18) d_X12_isPart_18 ?_
    refine oe_i2l (pc := 19) d_X12_isPart_19 ?_
    obtain ⟨v5, M6, q7, h⟩ := oB2_some h
    cases v5 with
    | true =>
      replace h := oCt h
      refine oe_callS (pc := 20) d_X12_isPart_20 (v_X12_within hK  q7) (by omega) ml_X12_145 jJ_X12_within rfl rfl (Nat.le_of_ble_eq_true rfl) ⟨Nat.le_refl _, Nat.le_refl _⟩ ⟨Nat.le_refl _, Nat.le_refl _⟩ ?_
      refine oe_if_eq (pc := 23) (tgt := 45) d_X12_isPart_23 (by decide) (fun c => absurd c (by decide)) (fun _ => ?_)
      refine oe_aload_n (pc := 26) d_X12_isPart_26 rfl ?_
      refine oe_getr (pc := 27) d_X12_isPart_27 fl_X12_61 ock12 (k := 25) (b := 77) (Nat.le_of_ble_eq_true rfl) (by decide) (oLt hK (a := 59) (Nat.le_of_ble_eq_true rfl)) (oSho hK (a := 59) (Nat.le_of_ble_eq_true rfl) rfl) (oRfK hK rfl) ?_
      refine oe_bipush (pc := 30) (v := 24) d_X12_isPart_30 rfl ?_
      refine oe_iload_n (pc := 32) d_X12_isPart_32 rfl ?_
      refine oe_imul (pc := 33) d_X12_isPart_33 ?_
      refine oe_iload_n (pc := 34) d_X12_isPart_34 rfl ?_
      refine oe_iadd (pc := 35) d_X12_isPart_35 ?_
      obtain ⟨i8, h⟩ := oIx_some h
      refine oe_iald (pc := 36) d_X12_isPart_36 (oLt hK (a := 77) (Nat.le_of_ble_eq_true rfl)) (oSha hK (a := 77) (Nat.le_of_ble_eq_true rfl) rfl) i8 ?_
      refine oe_iload_n (pc := 37) d_X12_isPart_37 rfl ?_
      refine oe_icmp_ne (pc := 38) (tgt := 45) d_X12_isPart_38 (by decide) (fun c9 => ?_) (fun c9 => ?_)
      · replace h := (if_neg c9).symm.trans h
        refine oe_iconst (pc := 45) (v := 0) d_X12_isPart_45 rfl ?_
        obtain ⟨rfl, rfl⟩ := oRes h
        exact oe_iret (pc := 46) d_X12_isPart_46 ⟨_, rfl, rfl⟩
      · replace h := (if_pos c9).symm.trans h
        refine oe_iconst (pc := 41) (v := 1) d_X12_isPart_41 rfl ?_
        refine oe_goto (pc := 42) (tgt := 46) d_X12_isPart_42 (by decide) ?_
        obtain ⟨rfl, rfl⟩ := oRes h
        exact oe_iret (pc := 46) d_X12_isPart_46 ⟨_, rfl, rfl⟩
    | false =>
      replace h := oCf h
      refine oe_callS (pc := 20) d_X12_isPart_20 (v_X12_within hK  q7) (by omega) ml_X12_145 jJ_X12_within rfl rfl (Nat.le_of_ble_eq_true rfl) ⟨Nat.le_refl _, Nat.le_refl _⟩ ⟨Nat.le_refl _, Nat.le_refl _⟩ ?_
      refine oe_if_eq (pc := 23) (tgt := 45) d_X12_isPart_23 (by decide) (fun _ => ?_) (fun c => absurd (by decide) c)
      refine oe_iconst (pc := 45) (v := 0) d_X12_isPart_45 rfl ?_
      obtain ⟨rfl, rfl⟩ := oRes h
      exact oe_iret (pc := 46) d_X12_isPart_46 ⟨_, rfl, rfl⟩
  | false =>
    replace h := oCf h
    refine oe_callV (pc := 2) (ci := 12) d_X12_isPart_2 (v_X12_isLaying hK  q3) (by omega) ml_X12_230 jJ_X12_isLaying rfl rfl (oLt hK (a := 59) (Nat.le_of_ble_eq_true rfl)) (oSho hK (a := 59) (Nat.le_of_ble_eq_true rfl) rfl) ock12 rfl (Nat.le_of_ble_eq_true rfl) ⟨Nat.le_refl _, Nat.le_refl _⟩ ⟨Nat.le_refl _, Nat.le_refl _⟩ ?_
    refine oe_if_eq (pc := 5) (tgt := 45) d_X12_isPart_5 (by decide) (fun _ => ?_) (fun c => absurd (by decide) c)
    refine oe_iconst (pc := 45) (v := 0) d_X12_isPart_45 rfl ?_
    obtain ⟨rfl, rfl⟩ := oRes h
    exact oe_iret (pc := 46) d_X12_isPart_46 ⟨_, rfl, rfl⟩
theorem d_X12_thinkBut_0 : decode J_X12_thinkBut.2.1 0 = .ok (.aload_n 0, 1) := by decide +kernel
theorem d_X12_thinkBut_1 : decode J_X12_thinkBut.2.1 1 = .ok (.aload_n 0, 1) := by decide +kernel
theorem d_X12_thinkBut_2 : decode J_X12_thinkBut.2.1 2 = .ok (.getfield 49, 3) := by decide +kernel
theorem d_X12_thinkBut_5 : decode J_X12_thinkBut.2.1 5 = .ok (.iload_n 1, 1) := by decide +kernel
theorem d_X12_thinkBut_6 : decode J_X12_thinkBut.2.1 6 = .ok (.iaload, 1) := by decide +kernel
theorem d_X12_thinkBut_7 : decode J_X12_thinkBut.2.1 7 = .ok (.putfield 252, 3) := by decide +kernel
theorem d_X12_thinkBut_10 : decode J_X12_thinkBut.2.1 10 = .ok (.aload_n 0, 1) := by decide +kernel
theorem d_X12_thinkBut_11 : decode J_X12_thinkBut.2.1 11 = .ok (.aload_n 0, 1) := by decide +kernel
theorem d_X12_thinkBut_12 : decode J_X12_thinkBut.2.1 12 = .ok (.getfield 52, 3) := by decide +kernel
theorem d_X12_thinkBut_15 : decode J_X12_thinkBut.2.1 15 = .ok (.iload_n 1, 1) := by decide +kernel
theorem d_X12_thinkBut_16 : decode J_X12_thinkBut.2.1 16 = .ok (.iaload, 1) := by decide +kernel
theorem d_X12_thinkBut_17 : decode J_X12_thinkBut.2.1 17 = .ok (.putfield 249, 3) := by decide +kernel
theorem d_X12_thinkBut_20 : decode J_X12_thinkBut.2.1 20 = .ok (.aload_n 0, 1) := by decide +kernel
theorem d_X12_thinkBut_21 : decode J_X12_thinkBut.2.1 21 = .ok (.iconst 0, 1) := by decide +kernel
theorem d_X12_thinkBut_22 : decode J_X12_thinkBut.2.1 22 = .ok (.putfield 246, 3) := by decide +kernel
theorem d_X12_thinkBut_25 : decode J_X12_thinkBut.2.1 25 = .ok (.iconst 0, 1) := by decide +kernel
theorem d_X12_thinkBut_26 : decode J_X12_thinkBut.2.1 26 = .ok (.istore 4, 2) := by decide +kernel
theorem d_X12_thinkBut_28 : decode J_X12_thinkBut.2.1 28 = .ok (.iload 4, 2) := by decide +kernel
theorem d_X12_thinkBut_30 : decode J_X12_thinkBut.2.1 30 = .ok (.aload_n 0, 1) := by decide +kernel
theorem d_X12_thinkBut_31 : decode J_X12_thinkBut.2.1 31 = .ok (.getfield 58, 3) := by decide +kernel
theorem d_X12_thinkBut_34 : decode J_X12_thinkBut.2.1 34 = .ok (.iload_n 1, 1) := by decide +kernel
theorem d_X12_thinkBut_35 : decode J_X12_thinkBut.2.1 35 = .ok (.iaload, 1) := by decide +kernel
theorem d_X12_thinkBut_36 : decode J_X12_thinkBut.2.1 36 = .ok (.if_icmp .ge 76, 3) := by decide +kernel
theorem d_X12_thinkBut_39 : decode J_X12_thinkBut.2.1 39 = .ok (.iload 4, 2) := by decide +kernel
theorem d_X12_thinkBut_41 : decode J_X12_thinkBut.2.1 41 = .ok (.iload_n 2, 1) := by decide +kernel
theorem d_X12_thinkBut_42 : decode J_X12_thinkBut.2.1 42 = .ok (.if_icmp .ne 14, 3) := by decide +kernel
theorem d_X12_thinkBut_45 : decode J_X12_thinkBut.2.1 45 = .ok (.iload_n 3, 1) := by decide +kernel
theorem d_X12_thinkBut_46 : decode J_X12_thinkBut.2.1 46 = .ok (.ifCond .eq 10, 3) := by decide +kernel
theorem d_X12_thinkBut_49 : decode J_X12_thinkBut.2.1 49 = .ok (.aload_n 0, 1) := by decide +kernel
theorem d_X12_thinkBut_50 : decode J_X12_thinkBut.2.1 50 = .ok (.iconst 2, 1) := by decide +kernel
theorem d_X12_thinkBut_51 : decode J_X12_thinkBut.2.1 51 = .ok (.iconst (-1), 1) := by decide +kernel
theorem d_X12_thinkBut_52 : decode J_X12_thinkBut.2.1 52 = .ok (.iconst (-1), 1) := by decide +kernel
theorem d_X12_thinkBut_53 : decode J_X12_thinkBut.2.1 53 = .ok (.invokevirtual 255, 3) := by decide +kernel
theorem d_X12_thinkBut_56 : decode J_X12_thinkBut.2.1 56 = .ok (.iload 4, 2) := by decide +kernel
theorem d_X12_thinkBut_58 : decode J_X12_thinkBut.2.1 58 = .ok (.iload_n 2, 1) := by decide +kernel
theorem d_X12_thinkBut_59 : decode J_X12_thinkBut.2.1 59 = .ok (.if_icmp .ne 7, 3) := by decide +kernel
theorem d_X12_thinkBut_62 : decode J_X12_thinkBut.2.1 62 = .ok (.iload_n 3, 1) := by decide +kernel
theorem d_X12_thinkBut_63 : decode J_X12_thinkBut.2.1 63 = .ok (.ifCond .eq 43, 3) := by decide +kernel
theorem d_X12_thinkBut_66 : decode J_X12_thinkBut.2.1 66 = .ok (.aload_n 0, 1) := by decide +kernel
theorem d_X12_thinkBut_67 : decode J_X12_thinkBut.2.1 67 = .ok (.aload_n 0, 1) := by decide +kernel
theorem d_X12_thinkBut_68 : decode J_X12_thinkBut.2.1 68 = .ok (.getfield 61, 3) := by decide +kernel
theorem d_X12_thinkBut_71 : decode J_X12_thinkBut.2.1 71 = .ok (.bipush 24, 2) := by decide +kernel
theorem d_X12_thinkBut_73 : decode J_X12_thinkBut.2.1 73 = .ok (.iload_n 1, 1) := by decide +kernel
theorem d_X12_thinkBut_74 : decode J_X12_thinkBut.2.1 74 = .ok (.imul, 1) := by decide +kernel
theorem d_X12_thinkBut_75 : decode J_X12_thinkBut.2.1 75 = .ok (.iload 4, 2) := by decide +kernel
theorem d_X12_thinkBut_77 : decode J_X12_thinkBut.2.1 77 = .ok (.iadd, 1) := by decide +kernel
theorem d_X12_thinkBut_78 : decode J_X12_thinkBut.2.1 78 = .ok (.iaload, 1) := by decide +kernel
theorem d_X12_thinkBut_79 : decode J_X12_thinkBut.2.1 79 = .ok (.aload_n 0, 1) := by decide +kernel
theorem d_X12_thinkBut_80 : decode J_X12_thinkBut.2.1 80 = .ok (.getfield 64, 3) := by decide +kernel
theorem d_X12_thinkBut_83 : decode J_X12_thinkBut.2.1 83 = .ok (.bipush 24, 2) := by decide +kernel
theorem d_X12_thinkBut_85 : decode J_X12_thinkBut.2.1 85 = .ok (.iload_n 1, 1) := by decide +kernel
theorem d_X12_thinkBut_86 : decode J_X12_thinkBut.2.1 86 = .ok (.imul, 1) := by decide +kernel
theorem d_X12_thinkBut_87 : decode J_X12_thinkBut.2.1 87 = .ok (.iload 4, 2) := by decide +kernel
theorem d_X12_thinkBut_89 : decode J_X12_thinkBut.2.1 89 = .ok (.iadd, 1) := by decide +kernel
theorem d_X12_thinkBut_90 : decode J_X12_thinkBut.2.1 90 = .ok (.iaload, 1) := by decide +kernel
theorem d_X12_thinkBut_91 : decode J_X12_thinkBut.2.1 91 = .ok (.aload_n 0, 1) := by decide +kernel
theorem d_X12_thinkBut_92 : decode J_X12_thinkBut.2.1 92 = .ok (.getfield 67, 3) := by decide +kernel
theorem d_X12_thinkBut_95 : decode J_X12_thinkBut.2.1 95 = .ok (.bipush 24, 2) := by decide +kernel
theorem d_X12_thinkBut_97 : decode J_X12_thinkBut.2.1 97 = .ok (.iload_n 1, 1) := by decide +kernel
theorem d_X12_thinkBut_98 : decode J_X12_thinkBut.2.1 98 = .ok (.imul, 1) := by decide +kernel
theorem d_X12_thinkBut_99 : decode J_X12_thinkBut.2.1 99 = .ok (.iload 4, 2) := by decide +kernel
theorem d_X12_thinkBut_101 : decode J_X12_thinkBut.2.1 101 = .ok (.iadd, 1) := by decide +kernel
theorem d_X12_thinkBut_102 : decode J_X12_thinkBut.2.1 102 = .ok (.iaload, 1) := by decide +kernel
theorem d_X12_thinkBut_103 : decode J_X12_thinkBut.2.1 103 = .ok (.invokevirtual 255, 3) := by decide +kernel
theorem d_X12_thinkBut_106 : decode J_X12_thinkBut.2.1 106 = .ok (.iinc 4 1, 3) := by decide +kernel
theorem d_X12_thinkBut_109 : decode J_X12_thinkBut.2.1 109 = .ok (.goto (-81), 3) := by decide +kernel
theorem d_X12_thinkBut_112 : decode J_X12_thinkBut.2.1 112 = .ok (.aload_n 0, 1) := by decide +kernel
theorem d_X12_thinkBut_113 : decode J_X12_thinkBut.2.1 113 = .ok (.invokevirtual 259, 3) := by decide +kernel
theorem d_X12_thinkBut_116 : decode J_X12_thinkBut.2.1 116 = .ok (.return_, 1) := by decide +kernel
def f_X12_thinkBut_106 (N : Nat) (K : oK) (r28 : (Int32 → Int32 → Int32 → Int32 → oM → Option (Unit × oM))) (p1 : Int32) (p2 : Int32) (p3 : Int32) (p4 : Int32) (M : oM) : Option (Unit × oM) :=
  (r28 p1 p2 p3 (p4 + 1) M)
set_option maxRecDepth 20000 in
theorem v_X12_thinkBut_106 {X : oX} {d N : Nat} {K : oK} {r28 : (Int32 → Int32 → Int32 → Int32 → oM → Option (Unit × oM))} {p1 : Int32} {p2 : Int32} {p3 : Int32} {p4 : Int32} {M : oM} {v : Unit} {M' : oM}  (hd : 2 ≤ d) (hK : oSR K)  (hr28 : ∀ (p1 : Int32) (p2 : Int32) (p3 : Int32) (p4 : Int32) (M : oM) (v : Unit) (M' : oM) , r28 p1 p2 p3 p4 M = some (v, M') → oEv X d J_X12_thinkBut 28 [some (.ref 59), some (.int p1), some (.int p2), some (.int p3), some (.int p4)] [] K M none K M') (h : f_X12_thinkBut_106 N K r28 p1 p2 p3 p4 M = some (v, M')) : oEv X d J_X12_thinkBut 106 [some (.ref 59), some (.int p1), some (.int p2), some (.int p3), some (.int p4)] [] K M none K M' := by
  unfold f_X12_thinkBut_106 at h
  refine oe_iinc (pc := 106) (v := (p4 + 1)) (L2 := [_, _, _, _, _]) d_X12_thinkBut_106 rfl rfl rfl (Nat.le_of_ble_eq_true rfl) rfl ?_
  refine oe_goto (pc := 109) (tgt := 28) d_X12_thinkBut_109 (by decide) ?_
  exact hr28 _ _ _ _ _ _ _ h
def f_X12_thinkBut_66 (N : Nat) (K : oK) (r28 : (Int32 → Int32 → Int32 → Int32 → oM → Option (Unit × oM))) (p1 : Int32) (p2 : Int32) (p3 : Int32) (p4 : Int32) (M : oM) : Option (Unit × oM) :=
  oIx ((((24 : Int32) * p1) + p4)) 480 (oIx ((((24 : Int32) * p1) + p4)) 480 (oIx ((((24 : Int32) * p1) + p4)) 480 (oB2 (f_X12_adds N K (M.1 77 ((((24 : Int32) * p1) + p4) : Int32).toNatClampNeg) (M.1 78 ((((24 : Int32) * p1) + p4) : Int32).toNatClampNeg) (M.1 79 ((((24 : Int32) * p1) + p4) : Int32).toNatClampNeg) M) (fun v13 M14 => (f_X12_thinkBut_106 N K r28 p1 p2 p3 p4 M14)))))
set_option maxRecDepth 20000 in
theorem v_X12_thinkBut_66 {X : oX} {d N : Nat} {K : oK} {r28 : (Int32 → Int32 → Int32 → Int32 → oM → Option (Unit × oM))} {p1 : Int32} {p2 : Int32} {p3 : Int32} {p4 : Int32} {M : oM} {v : Unit} {M' : oM}  (hd : 2 ≤ d) (hK : oSR K)  (hr28 : ∀ (p1 : Int32) (p2 : Int32) (p3 : Int32) (p4 : Int32) (M : oM) (v : Unit) (M' : oM) , r28 p1 p2 p3 p4 M = some (v, M') → oEv X d J_X12_thinkBut 28 [some (.ref 59), some (.int p1), some (.int p2), some (.int p3), some (.int p4)] [] K M none K M') (h : f_X12_thinkBut_66 N K r28 p1 p2 p3 p4 M = some (v, M')) : oEv X d J_X12_thinkBut 66 [some (.ref 59), some (.int p1), some (.int p2), some (.int p3), some (.int p4)] [] K M none K M' := by
  unfold f_X12_thinkBut_66 at h
  refine oe_aload_n (pc := 66) d_X12_thinkBut_66 rfl ?_
  refine oe_aload_n (pc := 67) d_X12_thinkBut_67 rfl ?_
  refine oe_getr (pc := 68) d_X12_thinkBut_68 fl_X12_61 ock12 (k := 25) (b := 77) (Nat.le_of_ble_eq_true rfl) (by decide) (oLt hK (a := 59) (Nat.le_of_ble_eq_true rfl)) (oSho hK (a := 59) (Nat.le_of_ble_eq_true rfl) rfl) (oRfK hK rfl) ?_
  refine oe_bipush (pc := 71) (v := 24) d_X12_thinkBut_71 rfl ?_
  refine oe_iload_n (pc := 73) d_X12_thinkBut_73 rfl ?_
  refine oe_imul (pc := 74) d_X12_thinkBut_74 ?_
  refine oe_iload (pc := 75) d_X12_thinkBut_75 rfl ?_
  refine oe_iadd (pc := 77) d_X12_thinkBut_77 ?_
  obtain ⟨i10, h⟩ := oIx_some h
  refine oe_iald (pc := 78) d_X12_thinkBut_78 (oLt hK (a := 77) (Nat.le_of_ble_eq_true rfl)) (oSha hK (a := 77) (Nat.le_of_ble_eq_true rfl) rfl) i10 ?_
  refine oe_aload_n (pc := 79) d_X12_thinkBut_79 rfl ?_
  refine oe_getr (pc := 80) d_X12_thinkBut_80 fl_X12_64 ock12 (k := 26) (b := 78) (Nat.le_of_ble_eq_true rfl) (by decide) (oLt hK (a := 59) (Nat.le_of_ble_eq_true rfl)) (oSho hK (a := 59) (Nat.le_of_ble_eq_true rfl) rfl) (oRfK hK rfl) ?_
  refine oe_bipush (pc := 83) (v := 24) d_X12_thinkBut_83 rfl ?_
  refine oe_iload_n (pc := 85) d_X12_thinkBut_85 rfl ?_
  refine oe_imul (pc := 86) d_X12_thinkBut_86 ?_
  refine oe_iload (pc := 87) d_X12_thinkBut_87 rfl ?_
  refine oe_iadd (pc := 89) d_X12_thinkBut_89 ?_
  obtain ⟨i11, h⟩ := oIx_some h
  refine oe_iald (pc := 90) d_X12_thinkBut_90 (oLt hK (a := 78) (Nat.le_of_ble_eq_true rfl)) (oSha hK (a := 78) (Nat.le_of_ble_eq_true rfl) rfl) i11 ?_
  refine oe_aload_n (pc := 91) d_X12_thinkBut_91 rfl ?_
  refine oe_getr (pc := 92) d_X12_thinkBut_92 fl_X12_67 ock12 (k := 27) (b := 79) (Nat.le_of_ble_eq_true rfl) (by decide) (oLt hK (a := 59) (Nat.le_of_ble_eq_true rfl)) (oSho hK (a := 59) (Nat.le_of_ble_eq_true rfl) rfl) (oRfK hK rfl) ?_
  refine oe_bipush (pc := 95) (v := 24) d_X12_thinkBut_95 rfl ?_
  refine oe_iload_n (pc := 97) d_X12_thinkBut_97 rfl ?_
  refine oe_imul (pc := 98) d_X12_thinkBut_98 ?_
  refine oe_iload (pc := 99) d_X12_thinkBut_99 rfl ?_
  refine oe_iadd (pc := 101) d_X12_thinkBut_101 ?_
  obtain ⟨i12, h⟩ := oIx_some h
  refine oe_iald (pc := 102) d_X12_thinkBut_102 (oLt hK (a := 79) (Nat.le_of_ble_eq_true rfl)) (oSha hK (a := 79) (Nat.le_of_ble_eq_true rfl) rfl) i12 ?_
  obtain ⟨v13, M14, q15, h⟩ := oB2_some h
  refine oe_callV (pc := 103) (ci := 12) d_X12_thinkBut_103 (v_X12_adds hK  q15) (by omega) ml_X12_255 jJ_X12_adds rfl rfl (oLt hK (a := 59) (Nat.le_of_ble_eq_true rfl)) (oSho hK (a := 59) (Nat.le_of_ble_eq_true rfl) rfl) ock12 rfl (Nat.le_of_ble_eq_true rfl) ⟨Nat.le_refl _, Nat.le_refl _⟩ ⟨Nat.le_refl _, Nat.le_refl _⟩ ?_
  exact v_X12_thinkBut_106 hd hK  hr28 h
def f_X12_thinkBut_56 (N : Nat) (K : oK) (r28 : (Int32 → Int32 → Int32 → Int32 → oM → Option (Unit × oM))) (p1 : Int32) (p2 : Int32) (p3 : Int32) (p4 : Int32) (M : oM) : Option (Unit × oM) :=
  (if p4 = p2 then (if p3 = 0 then (f_X12_thinkBut_106 N K r28 p1 p2 p3 p4 M) else (f_X12_thinkBut_66 N K r28 p1 p2 p3 p4 M)) else (f_X12_thinkBut_66 N K r28 p1 p2 p3 p4 M))
set_option maxRecDepth 20000 in
theorem v_X12_thinkBut_56 {X : oX} {d N : Nat} {K : oK} {r28 : (Int32 → Int32 → Int32 → Int32 → oM → Option (Unit × oM))} {p1 : Int32} {p2 : Int32} {p3 : Int32} {p4 : Int32} {M : oM} {v : Unit} {M' : oM}  (hd : 2 ≤ d) (hK : oSR K)  (hr28 : ∀ (p1 : Int32) (p2 : Int32) (p3 : Int32) (p4 : Int32) (M : oM) (v : Unit) (M' : oM) , r28 p1 p2 p3 p4 M = some (v, M') → oEv X d J_X12_thinkBut 28 [some (.ref 59), some (.int p1), some (.int p2), some (.int p3), some (.int p4)] [] K M none K M') (h : f_X12_thinkBut_56 N K r28 p1 p2 p3 p4 M = some (v, M')) : oEv X d J_X12_thinkBut 56 [some (.ref 59), some (.int p1), some (.int p2), some (.int p3), some (.int p4)] [] K M none K M' := by
  unfold f_X12_thinkBut_56 at h
  refine oe_iload (pc := 56) d_X12_thinkBut_56 rfl ?_
  refine oe_iload_n (pc := 58) d_X12_thinkBut_58 rfl ?_
  refine oe_icmp_ne (pc := 59) (tgt := 66) d_X12_thinkBut_59 (by decide) (fun c9 => ?_) (fun c9 => ?_)
  · replace h := (if_neg c9).symm.trans h
    exact v_X12_thinkBut_66 hd hK  hr28 h
  · replace h := (if_pos c9).symm.trans h
    refine oe_iload_n (pc := 62) d_X12_thinkBut_62 rfl ?_
    refine oe_if_eq (pc := 63) (tgt := 106) d_X12_thinkBut_63 (by decide) (fun c16 => ?_) (fun c16 => ?_)
    · replace h := (if_pos c16).symm.trans h
      exact v_X12_thinkBut_106 hd hK  hr28 h
    · replace h := (if_neg c16).symm.trans h
      exact v_X12_thinkBut_66 hd hK  hr28 h
def f_X12_thinkBut_28 (N : Nat) (K : oK)  : Nat → Int32 → Int32 → Int32 → Int32 → oM → Option (Unit × oM)
  | 0, _, _, _, _, _ => none
  | n + 1, p1, p2, p3, p4, M => (fun r28 => oIx (p1) 20 ((if (M.1 76 (p1 : Int32).toNatClampNeg) ≤ p4 then oB2 (f_X12_settle N K  M) (fun v5 M6 => some ((), M6)) else (if p4 = p2 then (if p3 = 0 then (f_X12_thinkBut_56 N K r28 p1 p2 p3 p4 M) else oB2 (f_X12_adds N K (2 : Int32) ((-1) : Int32) ((-1) : Int32) M) (fun v18 M19 => (f_X12_thinkBut_56 N K r28 p1 p2 p3 p4 M19))) else (f_X12_thinkBut_56 N K r28 p1 p2 p3 p4 M))))) (f_X12_thinkBut_28 N K  n)
set_option maxRecDepth 20000 in
theorem v_X12_thinkBut_28_L {X : oX} {d N : Nat} {K : oK}  (hd : 2 ≤ d) (hK : oSR K)  : ∀ (n : Nat) (p1 : Int32) (p2 : Int32) (p3 : Int32) (p4 : Int32) (M : oM) (v : Unit) (M' : oM)  , f_X12_thinkBut_28 N K  n p1 p2 p3 p4 M = some (v, M') → oEv X d J_X12_thinkBut 28 [some (.ref 59), some (.int p1), some (.int p2), some (.int p3), some (.int p4)] [] K M none K M' := by
  intro n
  induction n with
  | zero =>
    intro p1 p2 p3 p4 M v M'   h
    cases h
  | succ n hr28 =>
    intro p1 p2 p3 p4 M v M'   h
    refine oe_iload (pc := 28) d_X12_thinkBut_28 rfl ?_
    refine oe_aload_n (pc := 30) d_X12_thinkBut_30 rfl ?_
    refine oe_getr (pc := 31) d_X12_thinkBut_31 fl_X12_58 ock12 (k := 24) (b := 76) (Nat.le_of_ble_eq_true rfl) (by decide) (oLt hK (a := 59) (Nat.le_of_ble_eq_true rfl)) (oSho hK (a := 59) (Nat.le_of_ble_eq_true rfl) rfl) (oRfK hK rfl) ?_
    refine oe_iload_n (pc := 34) d_X12_thinkBut_34 rfl ?_
    obtain ⟨i3, h⟩ := oIx_some h
    refine oe_iald (pc := 35) d_X12_thinkBut_35 (oLt hK (a := 76) (Nat.le_of_ble_eq_true rfl)) (oSha hK (a := 76) (Nat.le_of_ble_eq_true rfl) rfl) i3 ?_
    refine oe_icmp_ge (pc := 36) (tgt := 112) d_X12_thinkBut_36 (by decide) (fun c4 => ?_) (fun c4 => ?_)
    · replace h := (if_pos c4).symm.trans h
      refine oe_aload_n (pc := 112) d_X12_thinkBut_112 rfl ?_
      obtain ⟨v5, M6, q7, h⟩ := oB2_some h
      refine oe_callV (pc := 113) (ci := 12) d_X12_thinkBut_113 (v_X12_settle hK  q7) (by omega) ml_X12_259 jJ_X12_settle rfl rfl (oLt hK (a := 59) (Nat.le_of_ble_eq_true rfl)) (oSho hK (a := 59) (Nat.le_of_ble_eq_true rfl) rfl) ock12 rfl (Nat.le_of_ble_eq_true rfl) ⟨Nat.le_refl _, Nat.le_refl _⟩ ⟨Nat.le_refl _, Nat.le_refl _⟩ ?_
      obtain ⟨rfl, rfl⟩ := oRes h
      exact oe_vret (pc := 116) d_X12_thinkBut_116 rfl
    · replace h := (if_neg c4).symm.trans h
      refine oe_iload (pc := 39) d_X12_thinkBut_39 rfl ?_
      refine oe_iload_n (pc := 41) d_X12_thinkBut_41 rfl ?_
      refine oe_icmp_ne (pc := 42) (tgt := 56) d_X12_thinkBut_42 (by decide) (fun c8 => ?_) (fun c8 => ?_)
      · replace h := (if_neg c8).symm.trans h
        exact v_X12_thinkBut_56 hd hK  hr28 h
      · replace h := (if_pos c8).symm.trans h
        refine oe_iload_n (pc := 45) d_X12_thinkBut_45 rfl ?_
        refine oe_if_eq (pc := 46) (tgt := 56) d_X12_thinkBut_46 (by decide) (fun c17 => ?_) (fun c17 => ?_)
        · replace h := (if_pos c17).symm.trans h
          exact v_X12_thinkBut_56 hd hK  hr28 h
        · replace h := (if_neg c17).symm.trans h
          refine oe_aload_n (pc := 49) d_X12_thinkBut_49 rfl ?_
          refine oe_iconst (pc := 50) (v := 2) d_X12_thinkBut_50 rfl ?_
          refine oe_iconst (pc := 51) (v := (-1)) d_X12_thinkBut_51 rfl ?_
          refine oe_iconst (pc := 52) (v := (-1)) d_X12_thinkBut_52 rfl ?_
          obtain ⟨v18, M19, q20, h⟩ := oB2_some h
          refine oe_callV (pc := 53) (ci := 12) d_X12_thinkBut_53 (v_X12_adds hK  q20) (by omega) ml_X12_255 jJ_X12_adds rfl rfl (oLt hK (a := 59) (Nat.le_of_ble_eq_true rfl)) (oSho hK (a := 59) (Nat.le_of_ble_eq_true rfl) rfl) ock12 rfl (Nat.le_of_ble_eq_true rfl) ⟨Nat.le_refl _, Nat.le_refl _⟩ ⟨Nat.le_refl _, Nat.le_refl _⟩ ?_
          exact v_X12_thinkBut_56 hd hK  hr28 h
theorem v_X12_thinkBut_28 {X : oX} {d N : Nat} {K : oK}  {p1 : Int32} {p2 : Int32} {p3 : Int32} {p4 : Int32} {M : oM} {v : Unit} {M' : oM}  (hd : 2 ≤ d) (hK : oSR K)   (h : f_X12_thinkBut_28 N K  N p1 p2 p3 p4 M = some (v, M')) : oEv X d J_X12_thinkBut 28 [some (.ref 59), some (.int p1), some (.int p2), some (.int p3), some (.int p4)] [] K M none K M' := v_X12_thinkBut_28_L hd hK  N p1 p2 p3 p4 M v M'   h
def f_X12_thinkBut (N : Nat) (K : oK) (p1 : Int32) (p2 : Int32) (p3 : Int32) (M : oM) : Option (Unit × oM) :=
  oIx (p1) 20 (oIx (p1) 20 ((f_X12_thinkBut_28 N K  N p1 p2 p3 0 (oUp (oUp (oUp M 59 29 (M.1 73 (p1 : Int32).toNatClampNeg)) 59 30 ((oUp M 59 29 (M.1 73 (p1 : Int32).toNatClampNeg)).1 74 (p1 : Int32).toNatClampNeg)) 59 31 (0 : Int32)))))
set_option maxRecDepth 20000 in
theorem v_X12_thinkBut {X : oX} {N : Nat} {K : oK} {p1 : Int32} {p2 : Int32} {p3 : Int32} {M : oM} {v : Unit} {M' : oM} (hK : oSR K)  (h : f_X12_thinkBut N K p1 p2 p3 M = some (v, M')) : oMet X 2 J_X12_thinkBut [(.ref 59), (.int p1), (.int p2), (.int p3)] K M none K M' := by
  unfold f_X12_thinkBut at h
  refine oMet_of (L := [some (.ref 59), some (.int p1), some (.int p2), some (.int p3), none]) jJ_X12_thinkBut.1 rfl (Nat.le_of_ble_eq_true rfl) rfl (Nat.le_refl _) (Nat.le_refl _) ?_
  have hd : 2 ≤ 2 := Nat.le_refl _
  refine oe_aload_n (pc := 0) d_X12_thinkBut_0 rfl ?_
  refine oe_aload_n (pc := 1) d_X12_thinkBut_1 rfl ?_
  refine oe_getr (pc := 2) d_X12_thinkBut_2 fl_X12_49 ock12 (k := 21) (b := 73) (Nat.le_of_ble_eq_true rfl) (by decide) (oLt hK (a := 59) (Nat.le_of_ble_eq_true rfl)) (oSho hK (a := 59) (Nat.le_of_ble_eq_true rfl) rfl) (oRfK hK rfl) ?_
  refine oe_iload_n (pc := 5) d_X12_thinkBut_5 rfl ?_
  obtain ⟨i1, h⟩ := oIx_some h
  refine oe_iald (pc := 6) d_X12_thinkBut_6 (oLt hK (a := 73) (Nat.le_of_ble_eq_true rfl)) (oSha hK (a := 73) (Nat.le_of_ble_eq_true rfl) rfl) i1 ?_
  refine oe_putf (pc := 7) d_X12_thinkBut_7 fl_X12_252 ock12 (k := 29) (Nat.le_of_ble_eq_true rfl) rfl rfl (oLt hK (a := 59) (Nat.le_of_ble_eq_true rfl)) (oSho hK (a := 59) (Nat.le_of_ble_eq_true rfl) rfl) ?_
  refine oe_aload_n (pc := 10) d_X12_thinkBut_10 rfl ?_
  refine oe_aload_n (pc := 11) d_X12_thinkBut_11 rfl ?_
  refine oe_getr (pc := 12) d_X12_thinkBut_12 fl_X12_52 ock12 (k := 22) (b := 74) (Nat.le_of_ble_eq_true rfl) (by decide) (oLt hK (a := 59) (Nat.le_of_ble_eq_true rfl)) (oSho hK (a := 59) (Nat.le_of_ble_eq_true rfl) rfl) (oRfK hK rfl) ?_
  refine oe_iload_n (pc := 15) d_X12_thinkBut_15 rfl ?_
  obtain ⟨i2, h⟩ := oIx_some h
  refine oe_iald (pc := 16) d_X12_thinkBut_16 (oLt hK (a := 74) (Nat.le_of_ble_eq_true rfl)) (oSha hK (a := 74) (Nat.le_of_ble_eq_true rfl) rfl) i2 ?_
  refine oe_putf (pc := 17) d_X12_thinkBut_17 fl_X12_249 ock12 (k := 30) (Nat.le_of_ble_eq_true rfl) rfl rfl (oLt hK (a := 59) (Nat.le_of_ble_eq_true rfl)) (oSho hK (a := 59) (Nat.le_of_ble_eq_true rfl) rfl) ?_
  refine oe_aload_n (pc := 20) d_X12_thinkBut_20 rfl ?_
  refine oe_iconst (pc := 21) (v := 0) d_X12_thinkBut_21 rfl ?_
  refine oe_putf (pc := 22) d_X12_thinkBut_22 fl_X12_246 ock12 (k := 31) (Nat.le_of_ble_eq_true rfl) rfl rfl (oLt hK (a := 59) (Nat.le_of_ble_eq_true rfl)) (oSho hK (a := 59) (Nat.le_of_ble_eq_true rfl) rfl) ?_
  refine oe_iconst (pc := 25) (v := 0) d_X12_thinkBut_25 rfl ?_
  refine oe_istore (pc := 26) (L2 := [_, _, _, _, _]) d_X12_thinkBut_26 rfl (Nat.le_of_ble_eq_true rfl) rfl ?_
  exact v_X12_thinkBut_28 hd hK   h
