/-! walked by program: X9_refusal, X9_lowest, X10_take, X10_byteAt, X10_readHead, X10_isDigit, X10_readNumber, X10_readNumbers, X10_readInto, X11_within, X11_point, X11_height -/
theorem d_X9_refusal_0 : decode J_X9_refusal.2.1 0 = .ok (.aload_n 0, 1) := by decide +kernel
theorem d_X9_refusal_1 : decode J_X9_refusal.2.1 1 = .ok (.getfield 15, 3) := by decide +kernel
theorem d_X9_refusal_4 : decode J_X9_refusal.2.1 4 = .ok (.ifCond .ne 6, 3) := by decide +kernel
theorem d_X9_refusal_7 : decode J_X9_refusal.2.1 7 = .ok (.bipush (-11), 2) := by decide +kernel
theorem d_X9_refusal_9 : decode J_X9_refusal.2.1 9 = .ok (.ireturn, 1) := by decide +kernel
theorem d_X9_refusal_10 : decode J_X9_refusal.2.1 10 = .ok (.aload_n 0, 1) := by decide +kernel
theorem d_X9_refusal_11 : decode J_X9_refusal.2.1 11 = .ok (.getfield 15, 3) := by decide +kernel
theorem d_X9_refusal_14 : decode J_X9_refusal.2.1 14 = .ok (.iconst 2, 1) := by decide +kernel
theorem d_X9_refusal_15 : decode J_X9_refusal.2.1 15 = .ok (.if_icmp .eq 6, 3) := by decide +kernel
theorem d_X9_refusal_18 : decode J_X9_refusal.2.1 18 = .ok (.bipush (-12), 2) := by decide +kernel
theorem d_X9_refusal_20 : decode J_X9_refusal.2.1 20 = .ok (.ireturn, 1) := by decide +kernel
theorem d_X9_refusal_21 : decode J_X9_refusal.2.1 21 = .ok (.iload_n 1, 1) := by decide +kernel
theorem d_X9_refusal_22 : decode J_X9_refusal.2.1 22 = .ok (.ifCond .lt 25, 3) := by decide +kernel
theorem d_X9_refusal_25 : decode J_X9_refusal.2.1 25 = .ok (.iload_n 2, 1) := by decide +kernel
theorem d_X9_refusal_26 : decode J_X9_refusal.2.1 26 = .ok (.ifCond .lt 21, 3) := by decide +kernel
theorem d_X9_refusal_29 : decode J_X9_refusal.2.1 29 = .ok (.iload_n 1, 1) := by decide +kernel
theorem d_X9_refusal_30 : decode J_X9_refusal.2.1 30 = .ok (.aload_n 0, 1) := by decide +kernel
theorem d_X9_refusal_31 : decode J_X9_refusal.2.1 31 = .ok (.getfield 35, 3) := by decide +kernel
theorem d_X9_refusal_34 : decode J_X9_refusal.2.1 34 = .ok (.if_icmp .gt 13, 3) := by decide +kernel
theorem d_X9_refusal_37 : decode J_X9_refusal.2.1 37 = .ok (.iload_n 2, 1) := by decide +kernel
theorem d_X9_refusal_38 : decode J_X9_refusal.2.1 38 = .ok (.aload_n 0, 1) := by decide +kernel
theorem d_X9_refusal_39 : decode J_X9_refusal.2.1 39 = .ok (.getfield 35, 3) := by decide +kernel
theorem d_X9_refusal_42 : decode J_X9_refusal.2.1 42 = .ok (.iload_n 1, 1) := by decide +kernel
theorem d_X9_refusal_43 : decode J_X9_refusal.2.1 43 = .ok (.isub, 1) := by decide +kernel
theorem d_X9_refusal_44 : decode J_X9_refusal.2.1 44 = .ok (.if_icmp .le 8, 3) := by decide +kernel
theorem d_X9_refusal_47 : decode J_X9_refusal.2.1 47 = .ok (.bipush (-13), 2) := by decide +kernel
theorem d_X9_refusal_49 : decode J_X9_refusal.2.1 49 = .ok (.goto 4, 3) := by decide +kernel
theorem d_X9_refusal_52 : decode J_X9_refusal.2.1 52 = .ok (.iconst 0, 1) := by decide +kernel
theorem d_X9_refusal_53 : decode J_X9_refusal.2.1 53 = .ok (.ireturn, 1) := by decide +kernel
def f_X9_refusal (N : Nat) (K : oK) (p0 : Nat) (p1 : Int32) (p2 : Int32) (M : oM) : Option (Int32 × oM) :=
  (if (M.1 p0 1) = 0 then some ((-11), M) else (if (M.1 p0 1) = 2 then (if p1 < 0 then some ((-13), M) else (if p2 < 0 then some ((-13), M) else (if (M.1 p0 4) < p1 then some ((-13), M) else (if p2 ≤ ((M.1 p0 4) - p1) then some (0, M) else some ((-13), M))))) else some ((-12), M)))
set_option maxRecDepth 20000 in
theorem v_X9_refusal {X : oX} {N : Nat} {K : oK} {p0 : Nat} {p1 : Int32} {p2 : Int32} {M : oM} {v : Int32} {M' : oM} (hK : oSR K) (hh_p0 : oSS K p0) (h : f_X9_refusal N K p0 p1 p2 M = some (v, M')) : oMet X 1 J_X9_refusal [(.ref p0), (.int p1), (.int p2)] K M (some (.int v)) K M' := by
  unfold f_X9_refusal at h
  refine oMet_of (L := [some (.ref p0), some (.int p1), some (.int p2)]) jJ_X9_refusal.1 rfl (Nat.le_of_ble_eq_true rfl) rfl (Nat.le_refl _) (Nat.le_refl _) ?_
  have hd : 1 ≤ 1 := Nat.le_refl _
  refine oe_aload_n (pc := 0) d_X9_refusal_0 rfl ?_
  refine oe_getf (pc := 1) d_X9_refusal_1 fl_X9_15 ock9 (k := 1) (Nat.le_of_ble_eq_true rfl) rfl (oSSa hh_p0 (j := 0) (Nat.le_of_ble_eq_true rfl)) (oSSo hh_p0) ?_
  refine oe_if_ne (pc := 4) (tgt := 10) d_X9_refusal_4 (by decide) (fun c1 => ?_) (fun c1 => ?_)
  · replace h := (if_neg c1).symm.trans h
    refine oe_aload_n (pc := 10) d_X9_refusal_10 rfl ?_
    refine oe_getf (pc := 11) d_X9_refusal_11 fl_X9_15 ock9 (k := 1) (Nat.le_of_ble_eq_true rfl) rfl (oSSa hh_p0 (j := 0) (Nat.le_of_ble_eq_true rfl)) (oSSo hh_p0) ?_
    refine oe_iconst (pc := 14) (v := 2) d_X9_refusal_14 rfl ?_
    refine oe_icmp_eq (pc := 15) (tgt := 21) d_X9_refusal_15 (by decide) (fun c2 => ?_) (fun c2 => ?_)
    · replace h := (if_pos c2).symm.trans h
      refine oe_iload_n (pc := 21) d_X9_refusal_21 rfl ?_
      refine oe_if_lt (pc := 22) (tgt := 47) d_X9_refusal_22 (by decide) (fun c3 => ?_) (fun c3 => ?_)
      · replace h := (if_pos c3).symm.trans h
        refine oe_bipush (pc := 47) (v := (-13)) d_X9_refusal_47 rfl ?_
        refine oe_goto (pc := 49) (tgt := 53) d_X9_refusal_49 (by decide) ?_
        obtain ⟨rfl, rfl⟩ := oRes h
        exact oe_iret (pc := 53) d_X9_refusal_53 ⟨_, rfl, rfl⟩
      · replace h := (if_neg c3).symm.trans h
        refine oe_iload_n (pc := 25) d_X9_refusal_25 rfl ?_
        refine oe_if_lt (pc := 26) (tgt := 47) d_X9_refusal_26 (by decide) (fun c4 => ?_) (fun c4 => ?_)
        · replace h := (if_pos c4).symm.trans h
          refine oe_bipush (pc := 47) (v := (-13)) d_X9_refusal_47 rfl ?_
          refine oe_goto (pc := 49) (tgt := 53) d_X9_refusal_49 (by decide) ?_
          obtain ⟨rfl, rfl⟩ := oRes h
          exact oe_iret (pc := 53) d_X9_refusal_53 ⟨_, rfl, rfl⟩
        · replace h := (if_neg c4).symm.trans h
          refine oe_iload_n (pc := 29) d_X9_refusal_29 rfl ?_
          refine oe_aload_n (pc := 30) d_X9_refusal_30 rfl ?_
          refine oe_getf (pc := 31) d_X9_refusal_31 fl_X9_35 ock9 (k := 4) (Nat.le_of_ble_eq_true rfl) rfl (oSSa hh_p0 (j := 0) (Nat.le_of_ble_eq_true rfl)) (oSSo hh_p0) ?_
          refine oe_icmp_gt (pc := 34) (tgt := 47) d_X9_refusal_34 (by decide) (fun c5 => ?_) (fun c5 => ?_)
          · replace h := (if_pos c5).symm.trans h
            refine oe_bipush (pc := 47) (v := (-13)) d_X9_refusal_47 rfl ?_
            refine oe_goto (pc := 49) (tgt := 53) d_X9_refusal_49 (by decide) ?_
            obtain ⟨rfl, rfl⟩ := oRes h
            exact oe_iret (pc := 53) d_X9_refusal_53 ⟨_, rfl, rfl⟩
          · replace h := (if_neg c5).symm.trans h
            refine oe_iload_n (pc := 37) d_X9_refusal_37 rfl ?_
            refine oe_aload_n (pc := 38) d_X9_refusal_38 rfl ?_
            refine oe_getf (pc := 39) d_X9_refusal_39 fl_X9_35 ock9 (k := 4) (Nat.le_of_ble_eq_true rfl) rfl (oSSa hh_p0 (j := 0) (Nat.le_of_ble_eq_true rfl)) (oSSo hh_p0) ?_
            refine oe_iload_n (pc := 42) d_X9_refusal_42 rfl ?_
            refine oe_isub (pc := 43) d_X9_refusal_43 ?_
            refine oe_icmp_le (pc := 44) (tgt := 52) d_X9_refusal_44 (by decide) (fun c6 => ?_) (fun c6 => ?_)
            · replace h := (if_pos c6).symm.trans h
              refine oe_iconst (pc := 52) (v := 0) d_X9_refusal_52 rfl ?_
              obtain ⟨rfl, rfl⟩ := oRes h
              exact oe_iret (pc := 53) d_X9_refusal_53 ⟨_, rfl, rfl⟩
            · replace h := (if_neg c6).symm.trans h
              refine oe_bipush (pc := 47) (v := (-13)) d_X9_refusal_47 rfl ?_
              refine oe_goto (pc := 49) (tgt := 53) d_X9_refusal_49 (by decide) ?_
              obtain ⟨rfl, rfl⟩ := oRes h
              exact oe_iret (pc := 53) d_X9_refusal_53 ⟨_, rfl, rfl⟩
    · replace h := (if_neg c2).symm.trans h
      refine oe_bipush (pc := 18) (v := (-12)) d_X9_refusal_18 rfl ?_
      obtain ⟨rfl, rfl⟩ := oRes h
      exact oe_iret (pc := 20) d_X9_refusal_20 ⟨_, rfl, rfl⟩
  · replace h := (if_pos c1).symm.trans h
    refine oe_bipush (pc := 7) (v := (-11)) d_X9_refusal_7 rfl ?_
    obtain ⟨rfl, rfl⟩ := oRes h
    exact oe_iret (pc := 9) d_X9_refusal_9 ⟨_, rfl, rfl⟩
theorem d_X9_lowest_0 : decode J_X9_lowest.2.1 0 = .ok (.aload_n 0, 1) := by decide +kernel
theorem d_X9_lowest_1 : decode J_X9_lowest.2.1 1 = .ok (.getfield 23, 3) := by decide +kernel
theorem d_X9_lowest_4 : decode J_X9_lowest.2.1 4 = .ok (.tableswitch 62 0 4 #[36, 41, 46, 62, 50], 36) := by decide +kernel
theorem d_X9_lowest_40 : decode J_X9_lowest.2.1 40 = .ok (.lload_n 1, 1) := by decide +kernel
theorem d_X9_lowest_41 : decode J_X9_lowest.2.1 41 = .ok (.l2i, 1) := by decide +kernel
theorem d_X9_lowest_42 : decode J_X9_lowest.2.1 42 = .ok (.i2b, 1) := by decide +kernel
theorem d_X9_lowest_43 : decode J_X9_lowest.2.1 43 = .ok (.i2l, 1) := by decide +kernel
theorem d_X9_lowest_44 : decode J_X9_lowest.2.1 44 = .ok (.lreturn, 1) := by decide +kernel
theorem d_X9_lowest_45 : decode J_X9_lowest.2.1 45 = .ok (.lload_n 1, 1) := by decide +kernel
theorem d_X9_lowest_46 : decode J_X9_lowest.2.1 46 = .ok (.l2i, 1) := by decide +kernel
theorem d_X9_lowest_47 : decode J_X9_lowest.2.1 47 = .ok (.i2s, 1) := by decide +kernel
theorem d_X9_lowest_48 : decode J_X9_lowest.2.1 48 = .ok (.i2l, 1) := by decide +kernel
theorem d_X9_lowest_49 : decode J_X9_lowest.2.1 49 = .ok (.lreturn, 1) := by decide +kernel
theorem d_X9_lowest_50 : decode J_X9_lowest.2.1 50 = .ok (.lload_n 1, 1) := by decide +kernel
theorem d_X9_lowest_51 : decode J_X9_lowest.2.1 51 = .ok (.l2i, 1) := by decide +kernel
theorem d_X9_lowest_52 : decode J_X9_lowest.2.1 52 = .ok (.i2l, 1) := by decide +kernel
theorem d_X9_lowest_53 : decode J_X9_lowest.2.1 53 = .ok (.lreturn, 1) := by decide +kernel
theorem d_X9_lowest_54 : decode J_X9_lowest.2.1 54 = .ok (.lload_n 1, 1) := by decide +kernel
theorem d_X9_lowest_55 : decode J_X9_lowest.2.1 55 = .ok (.lconst 0, 1) := by decide +kernel
theorem d_X9_lowest_56 : decode J_X9_lowest.2.1 56 = .ok (.lcmp, 1) := by decide +kernel
theorem d_X9_lowest_57 : decode J_X9_lowest.2.1 57 = .ok (.ifCond .eq 7, 3) := by decide +kernel
theorem d_X9_lowest_60 : decode J_X9_lowest.2.1 60 = .ok (.lconst 1, 1) := by decide +kernel
theorem d_X9_lowest_61 : decode J_X9_lowest.2.1 61 = .ok (.goto 4, 3) := by decide +kernel
theorem d_X9_lowest_64 : decode J_X9_lowest.2.1 64 = .ok (.lconst 0, 1) := by decide +kernel
theorem d_X9_lowest_65 : decode J_X9_lowest.2.1 65 = .ok (.lreturn, 1) := by decide +kernel
theorem d_X9_lowest_66 : decode J_X9_lowest.2.1 66 = .ok (.lload_n 1, 1) := by decide +kernel
theorem d_X9_lowest_67 : decode J_X9_lowest.2.1 67 = .ok (.lreturn, 1) := by decide +kernel
def f_X9_lowest (N : Nat) (K : oK) (p0 : Nat) (p1 : Int64) (M : oM) : Option (Int64 × oM) :=
  (if (M.1 p0 3) = 0 then some ((((p1 : Int64).toInt32 : Int32).toInt8.toInt32 : Int32).toInt64, M) else (if (M.1 p0 3) = 1 then some ((((p1 : Int64).toInt32 : Int32).toInt16.toInt32 : Int32).toInt64, M) else (if (M.1 p0 3) = 2 then some (((p1 : Int64).toInt32 : Int32).toInt64, M) else (if (M.1 p0 3) = 3 then some (p1, M) else (if (M.1 p0 3) = 4 then (if (lg_cmp (p1) (0)) = 0 then some (0, M) else some (1, M)) else some (p1, M))))))
set_option maxRecDepth 20000 in
theorem v_X9_lowest {X : oX} {N : Nat} {K : oK} {p0 : Nat} {p1 : Int64} {M : oM} {v : Int64} {M' : oM} (hK : oSR K) (hh_p0 : oSS K p0) (h : f_X9_lowest N K p0 p1 M = some (v, M')) : oMet X 1 J_X9_lowest [(.ref p0), (.long p1)] K M (some (.long v)) K M' := by
  unfold f_X9_lowest at h
  refine oMet_of (L := [some (.ref p0), some (.long p1), none]) jJ_X9_lowest.1 rfl (Nat.le_of_ble_eq_true rfl) rfl (Nat.le_refl _) (Nat.le_refl _) ?_
  have hd : 1 ≤ 1 := Nat.le_refl _
  refine oe_aload_n (pc := 0) d_X9_lowest_0 rfl ?_
  refine oe_getf (pc := 1) d_X9_lowest_1 fl_X9_23 ock9 (k := 3) (Nat.le_of_ble_eq_true rfl) rfl (oSSa hh_p0 (j := 0) (Nat.le_of_ble_eq_true rfl)) (oSSo hh_p0) ?_
  by_cases c4_0 : (M.1 p0 3) = 0
  · replace h := (if_pos c4_0).symm.trans h
    refine oe_tableIn (pc := 4) (tgt := 40) (off := 36) d_X9_lowest_4 (by rw [c4_0]; decide) (by rw [c4_0]; decide) (by rw [c4_0]; rfl) (by decide) ?_
    refine oe_lload_n (pc := 40) d_X9_lowest_40 rfl ?_
    refine oe_l2i (pc := 41) d_X9_lowest_41 ?_
    refine oe_i2b (pc := 42) d_X9_lowest_42 ?_
    refine oe_i2l (pc := 43) d_X9_lowest_43 ?_
    obtain ⟨rfl, rfl⟩ := oRes h
    exact oe_lret (pc := 44) d_X9_lowest_44 rfl
  · replace h := (if_neg c4_0).symm.trans h
    by_cases c4_1 : (M.1 p0 3) = 1
    · replace h := (if_pos c4_1).symm.trans h
      refine oe_tableIn (pc := 4) (tgt := 45) (off := 41) d_X9_lowest_4 (by rw [c4_1]; decide) (by rw [c4_1]; decide) (by rw [c4_1]; rfl) (by decide) ?_
      refine oe_lload_n (pc := 45) d_X9_lowest_45 rfl ?_
      refine oe_l2i (pc := 46) d_X9_lowest_46 ?_
      refine oe_i2s (pc := 47) d_X9_lowest_47 ?_
      refine oe_i2l (pc := 48) d_X9_lowest_48 ?_
      obtain ⟨rfl, rfl⟩ := oRes h
      exact oe_lret (pc := 49) d_X9_lowest_49 rfl
    · replace h := (if_neg c4_1).symm.trans h
      by_cases c4_2 : (M.1 p0 3) = 2
      · replace h := (if_pos c4_2).symm.trans h
        refine oe_tableIn (pc := 4) (tgt := 50) (off := 46) d_X9_lowest_4 (by rw [c4_2]; decide) (by rw [c4_2]; decide) (by rw [c4_2]; rfl) (by decide) ?_
        refine oe_lload_n (pc := 50) d_X9_lowest_50 rfl ?_
        refine oe_l2i (pc := 51) d_X9_lowest_51 ?_
        refine oe_i2l (pc := 52) d_X9_lowest_52 ?_
        obtain ⟨rfl, rfl⟩ := oRes h
        exact oe_lret (pc := 53) d_X9_lowest_53 rfl
      · replace h := (if_neg c4_2).symm.trans h
        by_cases c4_3 : (M.1 p0 3) = 3
        · replace h := (if_pos c4_3).symm.trans h
          refine oe_tableIn (pc := 4) (tgt := 66) (off := 62) d_X9_lowest_4 (by rw [c4_3]; decide) (by rw [c4_3]; decide) (by rw [c4_3]; rfl) (by decide) ?_
          refine oe_lload_n (pc := 66) d_X9_lowest_66 rfl ?_
          obtain ⟨rfl, rfl⟩ := oRes h
          exact oe_lret (pc := 67) d_X9_lowest_67 rfl
        · replace h := (if_neg c4_3).symm.trans h
          by_cases c4_4 : (M.1 p0 3) = 4
          · replace h := (if_pos c4_4).symm.trans h
            refine oe_tableIn (pc := 4) (tgt := 54) (off := 50) d_X9_lowest_4 (by rw [c4_4]; decide) (by rw [c4_4]; decide) (by rw [c4_4]; rfl) (by decide) ?_
            refine oe_lload_n (pc := 54) d_X9_lowest_54 rfl ?_
            refine oe_lconst (pc := 55) (v := 0) d_X9_lowest_55 rfl ?_
            refine oe_lcmp (pc := 56) d_X9_lowest_56 ?_
            refine oe_if_eq (pc := 57) (tgt := 64) d_X9_lowest_57 (by decide) (fun c1 => ?_) (fun c1 => ?_)
            · replace h := (if_pos c1).symm.trans h
              refine oe_lconst (pc := 64) (v := 0) d_X9_lowest_64 rfl ?_
              obtain ⟨rfl, rfl⟩ := oRes h
              exact oe_lret (pc := 65) d_X9_lowest_65 rfl
            · replace h := (if_neg c1).symm.trans h
              refine oe_lconst (pc := 60) (v := 1) d_X9_lowest_60 rfl ?_
              refine oe_goto (pc := 61) (tgt := 65) d_X9_lowest_61 (by decide) ?_
              obtain ⟨rfl, rfl⟩ := oRes h
              exact oe_lret (pc := 65) d_X9_lowest_65 rfl
          · replace h := (if_neg c4_4).symm.trans h
            refine oe_tableOut (pc := 4) (tgt := 66) d_X9_lowest_4 (by have := oNe (k := 0) c4_0 rfl; have := oNe (k := 1) c4_1 rfl; have := oNe (k := 2) c4_2 rfl; have := oNe (k := 3) c4_3 rfl; have := oNe (k := 4) c4_4 rfl; omega) (by decide) ?_
            refine oe_lload_n (pc := 66) d_X9_lowest_66 rfl ?_
            obtain ⟨rfl, rfl⟩ := oRes h
            exact oe_lret (pc := 67) d_X9_lowest_67 rfl
theorem d_X10_take_0 : decode J_X10_take.2.1 0 = .ok (.aload_n 0, 1) := by decide +kernel
theorem d_X10_take_1 : decode J_X10_take.2.1 1 = .ok (.getfield 21, 3) := by decide +kernel
theorem d_X10_take_4 : decode J_X10_take.2.1 4 = .ok (.iload_n 1, 1) := by decide +kernel
theorem d_X10_take_5 : decode J_X10_take.2.1 5 = .ok (.iadd, 1) := by decide +kernel
theorem d_X10_take_6 : decode J_X10_take.2.1 6 = .ok (.bipush 120, 2) := by decide +kernel
theorem d_X10_take_8 : decode J_X10_take.2.1 8 = .ok (.if_icmp .le 6, 3) := by decide +kernel
theorem d_X10_take_11 : decode J_X10_take.2.1 11 = .ok (.bipush (-3), 2) := by decide +kernel
theorem d_X10_take_13 : decode J_X10_take.2.1 13 = .ok (.ireturn, 1) := by decide +kernel
theorem d_X10_take_14 : decode J_X10_take.2.1 14 = .ok (.iconst 0, 1) := by decide +kernel
theorem d_X10_take_15 : decode J_X10_take.2.1 15 = .ok (.istore_n 3, 1) := by decide +kernel
theorem d_X10_take_16 : decode J_X10_take.2.1 16 = .ok (.iload_n 3, 1) := by decide +kernel
theorem d_X10_take_17 : decode J_X10_take.2.1 17 = .ok (.iload_n 1, 1) := by decide +kernel
theorem d_X10_take_18 : decode J_X10_take.2.1 18 = .ok (.if_icmp .ge 35, 3) := by decide +kernel
theorem d_X10_take_21 : decode J_X10_take.2.1 21 = .ok (.aload_n 0, 1) := by decide +kernel
theorem d_X10_take_22 : decode J_X10_take.2.1 22 = .ok (.getfield 11, 3) := by decide +kernel
theorem d_X10_take_25 : decode J_X10_take.2.1 25 = .ok (.aload_n 0, 1) := by decide +kernel
theorem d_X10_take_26 : decode J_X10_take.2.1 26 = .ok (.getfield 21, 3) := by decide +kernel
theorem d_X10_take_29 : decode J_X10_take.2.1 29 = .ok (.iload_n 2, 1) := by decide +kernel
theorem d_X10_take_30 : decode J_X10_take.2.1 30 = .ok (.bipush 8, 2) := by decide +kernel
theorem d_X10_take_32 : decode J_X10_take.2.1 32 = .ok (.iload_n 3, 1) := by decide +kernel
theorem d_X10_take_33 : decode J_X10_take.2.1 33 = .ok (.imul, 1) := by decide +kernel
theorem d_X10_take_34 : decode J_X10_take.2.1 34 = .ok (.ishr, 1) := by decide +kernel
theorem d_X10_take_35 : decode J_X10_take.2.1 35 = .ok (.i2b, 1) := by decide +kernel
theorem d_X10_take_36 : decode J_X10_take.2.1 36 = .ok (.bastore, 1) := by decide +kernel
theorem d_X10_take_37 : decode J_X10_take.2.1 37 = .ok (.aload_n 0, 1) := by decide +kernel
theorem d_X10_take_38 : decode J_X10_take.2.1 38 = .ok (.dup, 1) := by decide +kernel
theorem d_X10_take_39 : decode J_X10_take.2.1 39 = .ok (.getfield 21, 3) := by decide +kernel
theorem d_X10_take_42 : decode J_X10_take.2.1 42 = .ok (.iconst 1, 1) := by decide +kernel
theorem d_X10_take_43 : decode J_X10_take.2.1 43 = .ok (.iadd, 1) := by decide +kernel
theorem d_X10_take_44 : decode J_X10_take.2.1 44 = .ok (.putfield 21, 3) := by decide +kernel
theorem d_X10_take_47 : decode J_X10_take.2.1 47 = .ok (.iinc 3 1, 3) := by decide +kernel
theorem d_X10_take_50 : decode J_X10_take.2.1 50 = .ok (.goto (-34), 3) := by decide +kernel
theorem d_X10_take_53 : decode J_X10_take.2.1 53 = .ok (.aload_n 0, 1) := by decide +kernel
theorem d_X10_take_54 : decode J_X10_take.2.1 54 = .ok (.getfield 21, 3) := by decide +kernel
theorem d_X10_take_57 : decode J_X10_take.2.1 57 = .ok (.ireturn, 1) := by decide +kernel
def f_X10_take_16 (N : Nat) (K : oK)  : Nat → Int32 → Int32 → Int32 → oM → Option (Int32 × oM)
  | 0, _, _, _, _ => none
  | n + 1, p1, p2, p3, M => (fun r16 => (if p1 ≤ p3 then some ((M.1 17 2), M) else oIx ((M.1 17 2)) 120 ((r16 p1 p2 (p3 + 1) (oUp (oUp M 18 ((M.1 17 2) : Int32).toNatClampNeg (vp_nar .byte (((p2 >>> (((8 : Int32) * p3) &&& 31)) : Int32).toInt8.toInt32))) 17 2 (((oUp M 18 ((M.1 17 2) : Int32).toNatClampNeg (vp_nar .byte (((p2 >>> (((8 : Int32) * p3) &&& 31)) : Int32).toInt8.toInt32))).1 17 2) + 1)))))) (f_X10_take_16 N K  n)
set_option maxRecDepth 20000 in
theorem v_X10_take_16_L {X : oX} {d N : Nat} {K : oK}  (hd : 1 ≤ d) (hK : oSR K)  : ∀ (n : Nat) (p1 : Int32) (p2 : Int32) (p3 : Int32) (M : oM) (v : Int32) (M' : oM)  , f_X10_take_16 N K  n p1 p2 p3 M = some (v, M') → oEv X d J_X10_take 16 [some (.ref 17), some (.int p1), some (.int p2), some (.int p3)] [] K M (some (.int v)) K M' := by
  intro n
  induction n with
  | zero =>
    intro p1 p2 p3 M v M'   h
    cases h
  | succ n hr16 =>
    intro p1 p2 p3 M v M'   h
    refine oe_iload_n (pc := 16) d_X10_take_16 rfl ?_
    refine oe_iload_n (pc := 17) d_X10_take_17 rfl ?_
    refine oe_icmp_ge (pc := 18) (tgt := 53) d_X10_take_18 (by decide) (fun c2 => ?_) (fun c2 => ?_)
    · replace h := (if_pos c2).symm.trans h
      refine oe_aload_n (pc := 53) d_X10_take_53 rfl ?_
      refine oe_getf (pc := 54) d_X10_take_54 fl_X10_21 ock10 (k := 2) (Nat.le_of_ble_eq_true rfl) rfl (oLt hK (a := 17) (Nat.le_of_ble_eq_true rfl)) (oSho hK (a := 17) (Nat.le_of_ble_eq_true rfl) rfl) ?_
      obtain ⟨rfl, rfl⟩ := oRes h
      exact oe_iret (pc := 57) d_X10_take_57 ⟨_, rfl, rfl⟩
    · replace h := (if_neg c2).symm.trans h
      refine oe_aload_n (pc := 21) d_X10_take_21 rfl ?_
      refine oe_getr (pc := 22) d_X10_take_22 fl_X10_11 ock10 (k := 0) (b := 18) (Nat.le_of_ble_eq_true rfl) (by decide) (oLt hK (a := 17) (Nat.le_of_ble_eq_true rfl)) (oSho hK (a := 17) (Nat.le_of_ble_eq_true rfl) rfl) (oRfK hK rfl) ?_
      refine oe_aload_n (pc := 25) d_X10_take_25 rfl ?_
      refine oe_getf (pc := 26) d_X10_take_26 fl_X10_21 ock10 (k := 2) (Nat.le_of_ble_eq_true rfl) rfl (oLt hK (a := 17) (Nat.le_of_ble_eq_true rfl)) (oSho hK (a := 17) (Nat.le_of_ble_eq_true rfl) rfl) ?_
      refine oe_iload_n (pc := 29) d_X10_take_29 rfl ?_
      refine oe_bipush (pc := 30) (v := 8) d_X10_take_30 rfl ?_
      refine oe_iload_n (pc := 32) d_X10_take_32 rfl ?_
      refine oe_imul (pc := 33) d_X10_take_33 ?_
      refine oe_ishr (pc := 34) d_X10_take_34 ?_
      refine oe_i2b (pc := 35) d_X10_take_35 ?_
      obtain ⟨i3, h⟩ := oIx_some h
      refine oe_bast (pc := 36) d_X10_take_36 (oLt hK (a := 18) (Nat.le_of_ble_eq_true rfl)) (oSha hK (a := 18) (Nat.le_of_ble_eq_true rfl) rfl) i3 ?_
      refine oe_aload_n (pc := 37) d_X10_take_37 rfl ?_
      refine oe_dup (pc := 38) d_X10_take_38 rfl ?_
      refine oe_getf (pc := 39) d_X10_take_39 fl_X10_21 ock10 (k := 2) (Nat.le_of_ble_eq_true rfl) rfl (oLt hK (a := 17) (Nat.le_of_ble_eq_true rfl)) (oSho hK (a := 17) (Nat.le_of_ble_eq_true rfl) rfl) ?_
      refine oe_iconst (pc := 42) (v := 1) d_X10_take_42 rfl ?_
      refine oe_iadd (pc := 43) d_X10_take_43 ?_
      refine oe_putf (pc := 44) d_X10_take_44 fl_X10_21 ock10 (k := 2) (Nat.le_of_ble_eq_true rfl) rfl rfl (oLt hK (a := 17) (Nat.le_of_ble_eq_true rfl)) (oSho hK (a := 17) (Nat.le_of_ble_eq_true rfl) rfl) ?_
      refine oe_iinc (pc := 47) (v := (p3 + 1)) (L2 := [_, _, _, _]) d_X10_take_47 rfl rfl rfl (Nat.le_of_ble_eq_true rfl) rfl ?_
      refine oe_goto (pc := 50) (tgt := 16) d_X10_take_50 (by decide) ?_
      exact hr16 _ _ _ _ _ _ h
theorem v_X10_take_16 {X : oX} {d N : Nat} {K : oK}  {p1 : Int32} {p2 : Int32} {p3 : Int32} {M : oM} {v : Int32} {M' : oM}  (hd : 1 ≤ d) (hK : oSR K)   (h : f_X10_take_16 N K  N p1 p2 p3 M = some (v, M')) : oEv X d J_X10_take 16 [some (.ref 17), some (.int p1), some (.int p2), some (.int p3)] [] K M (some (.int v)) K M' := v_X10_take_16_L hd hK  N p1 p2 p3 M v M'   h
def f_X10_take (N : Nat) (K : oK) (p1 : Int32) (p2 : Int32) (M : oM) : Option (Int32 × oM) :=
  (if ((M.1 17 2) + p1) ≤ 120 then (f_X10_take_16 N K  N p1 p2 0 M) else some ((-3), M))
set_option maxRecDepth 20000 in
theorem v_X10_take {X : oX} {N : Nat} {K : oK} {p1 : Int32} {p2 : Int32} {M : oM} {v : Int32} {M' : oM} (hK : oSR K)  (h : f_X10_take N K p1 p2 M = some (v, M')) : oMet X 1 J_X10_take [(.ref 17), (.int p1), (.int p2)] K M (some (.int v)) K M' := by
  unfold f_X10_take at h
  refine oMet_of (L := [some (.ref 17), some (.int p1), some (.int p2), none]) jJ_X10_take.1 rfl (Nat.le_of_ble_eq_true rfl) rfl (Nat.le_refl _) (Nat.le_refl _) ?_
  have hd : 1 ≤ 1 := Nat.le_refl _
  refine oe_aload_n (pc := 0) d_X10_take_0 rfl ?_
  refine oe_getf (pc := 1) d_X10_take_1 fl_X10_21 ock10 (k := 2) (Nat.le_of_ble_eq_true rfl) rfl (oLt hK (a := 17) (Nat.le_of_ble_eq_true rfl)) (oSho hK (a := 17) (Nat.le_of_ble_eq_true rfl) rfl) ?_
  refine oe_iload_n (pc := 4) d_X10_take_4 rfl ?_
  refine oe_iadd (pc := 5) d_X10_take_5 ?_
  refine oe_bipush (pc := 6) (v := 120) d_X10_take_6 rfl ?_
  refine oe_icmp_le (pc := 8) (tgt := 14) d_X10_take_8 (by decide) (fun c1 => ?_) (fun c1 => ?_)
  · replace h := (if_pos c1).symm.trans h
    refine oe_iconst (pc := 14) (v := 0) d_X10_take_14 rfl ?_
    refine oe_istore_n (pc := 15) (L2 := [_, _, _, _]) d_X10_take_15 rfl rfl (Nat.le_of_ble_eq_true rfl) rfl ?_
    exact v_X10_take_16 hd hK   h
  · replace h := (if_neg c1).symm.trans h
    refine oe_bipush (pc := 11) (v := (-3)) d_X10_take_11 rfl ?_
    obtain ⟨rfl, rfl⟩ := oRes h
    exact oe_iret (pc := 13) d_X10_take_13 ⟨_, rfl, rfl⟩
theorem d_X10_byteAt_0 : decode J_X10_byteAt.2.1 0 = .ok (.iload_n 1, 1) := by decide +kernel
theorem d_X10_byteAt_1 : decode J_X10_byteAt.2.1 1 = .ok (.ifCond .lt 24, 3) := by decide +kernel
theorem d_X10_byteAt_4 : decode J_X10_byteAt.2.1 4 = .ok (.iload_n 1, 1) := by decide +kernel
theorem d_X10_byteAt_5 : decode J_X10_byteAt.2.1 5 = .ok (.aload_n 0, 1) := by decide +kernel
theorem d_X10_byteAt_6 : decode J_X10_byteAt.2.1 6 = .ok (.getfield 21, 3) := by decide +kernel
theorem d_X10_byteAt_9 : decode J_X10_byteAt.2.1 9 = .ok (.if_icmp .ge 16, 3) := by decide +kernel
theorem d_X10_byteAt_12 : decode J_X10_byteAt.2.1 12 = .ok (.aload_n 0, 1) := by decide +kernel
theorem d_X10_byteAt_13 : decode J_X10_byteAt.2.1 13 = .ok (.getfield 11, 3) := by decide +kernel
theorem d_X10_byteAt_16 : decode J_X10_byteAt.2.1 16 = .ok (.iload_n 1, 1) := by decide +kernel
theorem d_X10_byteAt_17 : decode J_X10_byteAt.2.1 17 = .ok (.baload, 1) := by decide +kernel
theorem d_X10_byteAt_18 : decode J_X10_byteAt.2.1 18 = .ok (.sipush 255, 3) := by decide +kernel
theorem d_X10_byteAt_21 : decode J_X10_byteAt.2.1 21 = .ok (.iand, 1) := by decide +kernel
theorem d_X10_byteAt_22 : decode J_X10_byteAt.2.1 22 = .ok (.goto 4, 3) := by decide +kernel
theorem d_X10_byteAt_25 : decode J_X10_byteAt.2.1 25 = .ok (.iconst (-1), 1) := by decide +kernel
theorem d_X10_byteAt_26 : decode J_X10_byteAt.2.1 26 = .ok (.ireturn, 1) := by decide +kernel
def f_X10_byteAt (N : Nat) (K : oK) (p1 : Int32) (M : oM) : Option (Int32 × oM) :=
  (if p1 < 0 then some ((-1), M) else (if (M.1 17 2) ≤ p1 then some ((-1), M) else oIx (p1) 120 (some (((M.1 18 (p1 : Int32).toNatClampNeg) &&& 255), M))))
set_option maxRecDepth 20000 in
theorem v_X10_byteAt {X : oX} {N : Nat} {K : oK} {p1 : Int32} {M : oM} {v : Int32} {M' : oM} (hK : oSR K)  (h : f_X10_byteAt N K p1 M = some (v, M')) : oMet X 1 J_X10_byteAt [(.ref 17), (.int p1)] K M (some (.int v)) K M' := by
  unfold f_X10_byteAt at h
  refine oMet_of (L := [some (.ref 17), some (.int p1)]) jJ_X10_byteAt.1 rfl (Nat.le_of_ble_eq_true rfl) rfl (Nat.le_refl _) (Nat.le_refl _) ?_
  have hd : 1 ≤ 1 := Nat.le_refl _
  refine oe_iload_n (pc := 0) d_X10_byteAt_0 rfl ?_
  refine oe_if_lt (pc := 1) (tgt := 25) d_X10_byteAt_1 (by decide) (fun c1 => ?_) (fun c1 => ?_)
  · replace h := (if_pos c1).symm.trans h
    refine oe_iconst (pc := 25) (v := (-1)) d_X10_byteAt_25 rfl ?_
    obtain ⟨rfl, rfl⟩ := oRes h
    exact oe_iret (pc := 26) d_X10_byteAt_26 ⟨_, rfl, rfl⟩
  · replace h := (if_neg c1).symm.trans h
    refine oe_iload_n (pc := 4) d_X10_byteAt_4 rfl ?_
    refine oe_aload_n (pc := 5) d_X10_byteAt_5 rfl ?_
    refine oe_getf (pc := 6) d_X10_byteAt_6 fl_X10_21 ock10 (k := 2) (Nat.le_of_ble_eq_true rfl) rfl (oLt hK (a := 17) (Nat.le_of_ble_eq_true rfl)) (oSho hK (a := 17) (Nat.le_of_ble_eq_true rfl) rfl) ?_
    refine oe_icmp_ge (pc := 9) (tgt := 25) d_X10_byteAt_9 (by decide) (fun c2 => ?_) (fun c2 => ?_)
    · replace h := (if_pos c2).symm.trans h
      refine oe_iconst (pc := 25) (v := (-1)) d_X10_byteAt_25 rfl ?_
      obtain ⟨rfl, rfl⟩ := oRes h
      exact oe_iret (pc := 26) d_X10_byteAt_26 ⟨_, rfl, rfl⟩
    · replace h := (if_neg c2).symm.trans h
      refine oe_aload_n (pc := 12) d_X10_byteAt_12 rfl ?_
      refine oe_getr (pc := 13) d_X10_byteAt_13 fl_X10_11 ock10 (k := 0) (b := 18) (Nat.le_of_ble_eq_true rfl) (by decide) (oLt hK (a := 17) (Nat.le_of_ble_eq_true rfl)) (oSho hK (a := 17) (Nat.le_of_ble_eq_true rfl) rfl) (oRfK hK rfl) ?_
      refine oe_iload_n (pc := 16) d_X10_byteAt_16 rfl ?_
      obtain ⟨i3, h⟩ := oIx_some h
      refine oe_bald (pc := 17) d_X10_byteAt_17 (oLt hK (a := 18) (Nat.le_of_ble_eq_true rfl)) (oSha hK (a := 18) (Nat.le_of_ble_eq_true rfl) rfl) i3 ?_
      refine oe_sipush (pc := 18) (v := 255) d_X10_byteAt_18 rfl ?_
      refine oe_iand (pc := 21) d_X10_byteAt_21 ?_
      refine oe_goto (pc := 22) (tgt := 26) d_X10_byteAt_22 (by decide) ?_
      obtain ⟨rfl, rfl⟩ := oRes h
      exact oe_iret (pc := 26) d_X10_byteAt_26 ⟨_, rfl, rfl⟩
theorem d_X10_readHead_0 : decode J_X10_readHead.2.1 0 = .ok (.aload_n 0, 1) := by decide +kernel
theorem d_X10_readHead_1 : decode J_X10_readHead.2.1 1 = .ok (.iconst 0, 1) := by decide +kernel
theorem d_X10_readHead_2 : decode J_X10_readHead.2.1 2 = .ok (.putfield 36, 3) := by decide +kernel
theorem d_X10_readHead_5 : decode J_X10_readHead.2.1 5 = .ok (.aload_n 0, 1) := by decide +kernel
theorem d_X10_readHead_6 : decode J_X10_readHead.2.1 6 = .ok (.iconst 0, 1) := by decide +kernel
theorem d_X10_readHead_7 : decode J_X10_readHead.2.1 7 = .ok (.invokevirtual 43, 3) := by decide +kernel
theorem d_X10_readHead_10 : decode J_X10_readHead.2.1 10 = .ok (.istore_n 2, 1) := by decide +kernel
theorem d_X10_readHead_11 : decode J_X10_readHead.2.1 11 = .ok (.iload_n 2, 1) := by decide +kernel
theorem d_X10_readHead_12 : decode J_X10_readHead.2.1 12 = .ok (.bipush 98, 2) := by decide +kernel
theorem d_X10_readHead_14 : decode J_X10_readHead.2.1 14 = .ok (.if_icmp .eq 11, 3) := by decide +kernel
theorem d_X10_readHead_17 : decode J_X10_readHead.2.1 17 = .ok (.iload_n 2, 1) := by decide +kernel
theorem d_X10_readHead_18 : decode J_X10_readHead.2.1 18 = .ok (.bipush 101, 2) := by decide +kernel
theorem d_X10_readHead_20 : decode J_X10_readHead.2.1 20 = .ok (.if_icmp .eq 5, 3) := by decide +kernel
theorem d_X10_readHead_23 : decode J_X10_readHead.2.1 23 = .ok (.iconst (-1), 1) := by decide +kernel
theorem d_X10_readHead_24 : decode J_X10_readHead.2.1 24 = .ok (.ireturn, 1) := by decide +kernel
theorem d_X10_readHead_25 : decode J_X10_readHead.2.1 25 = .ok (.aload_n 0, 1) := by decide +kernel
theorem d_X10_readHead_26 : decode J_X10_readHead.2.1 26 = .ok (.iconst 1, 1) := by decide +kernel
theorem d_X10_readHead_27 : decode J_X10_readHead.2.1 27 = .ok (.putfield 36, 3) := by decide +kernel
theorem d_X10_readHead_30 : decode J_X10_readHead.2.1 30 = .ok (.aload_n 0, 1) := by decide +kernel
theorem d_X10_readHead_31 : decode J_X10_readHead.2.1 31 = .ok (.iconst 1, 1) := by decide +kernel
theorem d_X10_readHead_32 : decode J_X10_readHead.2.1 32 = .ok (.invokevirtual 43, 3) := by decide +kernel
theorem d_X10_readHead_35 : decode J_X10_readHead.2.1 35 = .ok (.bipush 48, 2) := by decide +kernel
theorem d_X10_readHead_37 : decode J_X10_readHead.2.1 37 = .ok (.isub, 1) := by decide +kernel
theorem d_X10_readHead_38 : decode J_X10_readHead.2.1 38 = .ok (.istore_n 3, 1) := by decide +kernel
theorem d_X10_readHead_39 : decode J_X10_readHead.2.1 39 = .ok (.iload_n 3, 1) := by decide +kernel
theorem d_X10_readHead_40 : decode J_X10_readHead.2.1 40 = .ok (.ifCond .lt 18, 3) := by decide +kernel
theorem d_X10_readHead_43 : decode J_X10_readHead.2.1 43 = .ok (.iload_n 3, 1) := by decide +kernel
theorem d_X10_readHead_44 : decode J_X10_readHead.2.1 44 = .ok (.iload_n 2, 1) := by decide +kernel
theorem d_X10_readHead_45 : decode J_X10_readHead.2.1 45 = .ok (.bipush 98, 2) := by decide +kernel
theorem d_X10_readHead_47 : decode J_X10_readHead.2.1 47 = .ok (.if_icmp .ne 7, 3) := by decide +kernel
theorem d_X10_readHead_50 : decode J_X10_readHead.2.1 50 = .ok (.iconst 3, 1) := by decide +kernel
theorem d_X10_readHead_51 : decode J_X10_readHead.2.1 51 = .ok (.goto 4, 3) := by decide +kernel
theorem d_X10_readHead_54 : decode J_X10_readHead.2.1 54 = .ok (.iload_n 1, 1) := by decide +kernel
theorem d_X10_readHead_55 : decode J_X10_readHead.2.1 55 = .ok (.if_icmp .lt 5, 3) := by decide +kernel
theorem d_X10_readHead_58 : decode J_X10_readHead.2.1 58 = .ok (.iconst (-1), 1) := by decide +kernel
theorem d_X10_readHead_59 : decode J_X10_readHead.2.1 59 = .ok (.ireturn, 1) := by decide +kernel
theorem d_X10_readHead_60 : decode J_X10_readHead.2.1 60 = .ok (.aload_n 0, 1) := by decide +kernel
theorem d_X10_readHead_61 : decode J_X10_readHead.2.1 61 = .ok (.iconst 2, 1) := by decide +kernel
theorem d_X10_readHead_62 : decode J_X10_readHead.2.1 62 = .ok (.putfield 36, 3) := by decide +kernel
theorem d_X10_readHead_65 : decode J_X10_readHead.2.1 65 = .ok (.aload_n 0, 1) := by decide +kernel
theorem d_X10_readHead_66 : decode J_X10_readHead.2.1 66 = .ok (.iconst 2, 1) := by decide +kernel
theorem d_X10_readHead_67 : decode J_X10_readHead.2.1 67 = .ok (.invokevirtual 43, 3) := by decide +kernel
theorem d_X10_readHead_70 : decode J_X10_readHead.2.1 70 = .ok (.bipush 58, 2) := by decide +kernel
theorem d_X10_readHead_72 : decode J_X10_readHead.2.1 72 = .ok (.if_icmp .eq 5, 3) := by decide +kernel
theorem d_X10_readHead_75 : decode J_X10_readHead.2.1 75 = .ok (.iconst (-1), 1) := by decide +kernel
theorem d_X10_readHead_76 : decode J_X10_readHead.2.1 76 = .ok (.ireturn, 1) := by decide +kernel
theorem d_X10_readHead_77 : decode J_X10_readHead.2.1 77 = .ok (.aload_n 0, 1) := by decide +kernel
theorem d_X10_readHead_78 : decode J_X10_readHead.2.1 78 = .ok (.iconst 3, 1) := by decide +kernel
theorem d_X10_readHead_79 : decode J_X10_readHead.2.1 79 = .ok (.putfield 36, 3) := by decide +kernel
theorem d_X10_readHead_82 : decode J_X10_readHead.2.1 82 = .ok (.iload_n 2, 1) := by decide +kernel
theorem d_X10_readHead_83 : decode J_X10_readHead.2.1 83 = .ok (.bipush 98, 2) := by decide +kernel
theorem d_X10_readHead_85 : decode J_X10_readHead.2.1 85 = .ok (.if_icmp .ne 7, 3) := by decide +kernel
theorem d_X10_readHead_88 : decode J_X10_readHead.2.1 88 = .ok (.iload_n 3, 1) := by decide +kernel
theorem d_X10_readHead_89 : decode J_X10_readHead.2.1 89 = .ok (.goto 6, 3) := by decide +kernel
theorem d_X10_readHead_92 : decode J_X10_readHead.2.1 92 = .ok (.iconst 3, 1) := by decide +kernel
theorem d_X10_readHead_93 : decode J_X10_readHead.2.1 93 = .ok (.iload_n 3, 1) := by decide +kernel
theorem d_X10_readHead_94 : decode J_X10_readHead.2.1 94 = .ok (.iadd, 1) := by decide +kernel
theorem d_X10_readHead_95 : decode J_X10_readHead.2.1 95 = .ok (.ireturn, 1) := by decide +kernel
def f_X10_readHead_55 (N : Nat) (K : oK)  (p2 : Int32) (p3 : Int32) (s0 : Int32) (s1 : Int32) (M : oM) : Option (Int32 × oM) :=
  (if s1 < s0 then oB2 (f_X10_byteAt N K (2 : Int32) (oUp M 17 3 (2 : Int32))) (fun v11 M12 => (if v11 = 58 then (if p2 = 98 then some (p3, (oUp M12 17 3 (3 : Int32))) else some (((3 : Int32) + p3), (oUp M12 17 3 (3 : Int32)))) else some ((-1), M12))) else some ((-1), M))
set_option maxRecDepth 20000 in
theorem v_X10_readHead_55 {X : oX} {d N : Nat} {K : oK}  {p2 : Int32} {p3 : Int32} {s0 : Int32} {s1 : Int32} {M : oM} {v : Int32} {M' : oM}  (hd : 2 ≤ d) (hK : oSR K)   (h : f_X10_readHead_55 N K  p2 p3 s0 s1 M = some (v, M')) : oEv X d J_X10_readHead 55 [some (.ref 17), none, some (.int p2), some (.int p3)] [(.int s0), (.int s1)] K M (some (.int v)) K M' := by
  unfold f_X10_readHead_55 at h
  refine oe_icmp_lt (pc := 55) (tgt := 60) d_X10_readHead_55 (by decide) (fun c10 => ?_) (fun c10 => ?_)
  · replace h := (if_pos c10).symm.trans h
    refine oe_aload_n (pc := 60) d_X10_readHead_60 rfl ?_
    refine oe_iconst (pc := 61) (v := 2) d_X10_readHead_61 rfl ?_
    refine oe_putf (pc := 62) d_X10_readHead_62 fl_X10_36 ock10 (k := 3) (Nat.le_of_ble_eq_true rfl) rfl rfl (oLt hK (a := 17) (Nat.le_of_ble_eq_true rfl)) (oSho hK (a := 17) (Nat.le_of_ble_eq_true rfl) rfl) ?_
    refine oe_aload_n (pc := 65) d_X10_readHead_65 rfl ?_
    refine oe_iconst (pc := 66) (v := 2) d_X10_readHead_66 rfl ?_
    obtain ⟨v11, M12, q13, h⟩ := oB2_some h
    refine oe_callV (pc := 67) (ci := 10) d_X10_readHead_67 (v_X10_byteAt hK  q13) (by omega) ml_X10_43 jJ_X10_byteAt rfl rfl (oLt hK (a := 17) (Nat.le_of_ble_eq_true rfl)) (oSho hK (a := 17) (Nat.le_of_ble_eq_true rfl) rfl) ock10 rfl (Nat.le_of_ble_eq_true rfl) ⟨Nat.le_refl _, Nat.le_refl _⟩ ⟨Nat.le_refl _, Nat.le_refl _⟩ ?_
    refine oe_bipush (pc := 70) (v := 58) d_X10_readHead_70 rfl ?_
    refine oe_icmp_eq (pc := 72) (tgt := 77) d_X10_readHead_72 (by decide) (fun c14 => ?_) (fun c14 => ?_)
    · replace h := (if_pos c14).symm.trans h
      refine oe_aload_n (pc := 77) d_X10_readHead_77 rfl ?_
      refine oe_iconst (pc := 78) (v := 3) d_X10_readHead_78 rfl ?_
      refine oe_putf (pc := 79) d_X10_readHead_79 fl_X10_36 ock10 (k := 3) (Nat.le_of_ble_eq_true rfl) rfl rfl (oLt hK (a := 17) (Nat.le_of_ble_eq_true rfl)) (oSho hK (a := 17) (Nat.le_of_ble_eq_true rfl) rfl) ?_
      refine oe_iload_n (pc := 82) d_X10_readHead_82 rfl ?_
      refine oe_bipush (pc := 83) (v := 98) d_X10_readHead_83 rfl ?_
      refine oe_icmp_ne (pc := 85) (tgt := 92) d_X10_readHead_85 (by decide) (fun c15 => ?_) (fun c15 => ?_)
      · replace h := (if_neg c15).symm.trans h
        refine oe_iconst (pc := 92) (v := 3) d_X10_readHead_92 rfl ?_
        refine oe_iload_n (pc := 93) d_X10_readHead_93 rfl ?_
        refine oe_iadd (pc := 94) d_X10_readHead_94 ?_
        obtain ⟨rfl, rfl⟩ := oRes h
        exact oe_iret (pc := 95) d_X10_readHead_95 ⟨_, rfl, rfl⟩
      · replace h := (if_pos c15).symm.trans h
        refine oe_iload_n (pc := 88) d_X10_readHead_88 rfl ?_
        refine oe_goto (pc := 89) (tgt := 95) d_X10_readHead_89 (by decide) ?_
        obtain ⟨rfl, rfl⟩ := oRes h
        exact oe_iret (pc := 95) d_X10_readHead_95 ⟨_, rfl, rfl⟩
    · replace h := (if_neg c14).symm.trans h
      refine oe_iconst (pc := 75) (v := (-1)) d_X10_readHead_75 rfl ?_
      obtain ⟨rfl, rfl⟩ := oRes h
      exact oe_iret (pc := 76) d_X10_readHead_76 ⟨_, rfl, rfl⟩
  · replace h := (if_neg c10).symm.trans h
    refine oe_iconst (pc := 58) (v := (-1)) d_X10_readHead_58 rfl ?_
    obtain ⟨rfl, rfl⟩ := oRes h
    exact oe_iret (pc := 59) d_X10_readHead_59 ⟨_, rfl, rfl⟩
def f_X10_readHead_25 (N : Nat) (K : oK)  (p1 : Int32) (p2 : Int32) (M : oM) : Option (Int32 × oM) :=
  oB2 (f_X10_byteAt N K (1 : Int32) (oUp M 17 3 (1 : Int32))) (fun v5 M6 => (if (v5 - 48) < 0 then some ((-1), M6) else (if p2 = 98 then (f_X10_readHead_55 N K  p2 (v5 - 48) 3 (v5 - 48) M6) else (f_X10_readHead_55 N K  p2 (v5 - 48) p1 (v5 - 48) M6))))
set_option maxRecDepth 20000 in
theorem v_X10_readHead_25 {X : oX} {d N : Nat} {K : oK}  {p1 : Int32} {p2 : Int32} {M : oM} {v : Int32} {M' : oM}  (hd : 2 ≤ d) (hK : oSR K)   (h : f_X10_readHead_25 N K  p1 p2 M = some (v, M')) : oEv X d J_X10_readHead 25 [some (.ref 17), some (.int p1), some (.int p2), none] [] K M (some (.int v)) K M' := by
  unfold f_X10_readHead_25 at h
  refine oe_aload_n (pc := 25) d_X10_readHead_25 rfl ?_
  refine oe_iconst (pc := 26) (v := 1) d_X10_readHead_26 rfl ?_
  refine oe_putf (pc := 27) d_X10_readHead_27 fl_X10_36 ock10 (k := 3) (Nat.le_of_ble_eq_true rfl) rfl rfl (oLt hK (a := 17) (Nat.le_of_ble_eq_true rfl)) (oSho hK (a := 17) (Nat.le_of_ble_eq_true rfl) rfl) ?_
  refine oe_aload_n (pc := 30) d_X10_readHead_30 rfl ?_
  refine oe_iconst (pc := 31) (v := 1) d_X10_readHead_31 rfl ?_
  obtain ⟨v5, M6, q7, h⟩ := oB2_some h
  refine oe_callV (pc := 32) (ci := 10) d_X10_readHead_32 (v_X10_byteAt hK  q7) (by omega) ml_X10_43 jJ_X10_byteAt rfl rfl (oLt hK (a := 17) (Nat.le_of_ble_eq_true rfl)) (oSho hK (a := 17) (Nat.le_of_ble_eq_true rfl) rfl) ock10 rfl (Nat.le_of_ble_eq_true rfl) ⟨Nat.le_refl _, Nat.le_refl _⟩ ⟨Nat.le_refl _, Nat.le_refl _⟩ ?_
  refine oe_bipush (pc := 35) (v := 48) d_X10_readHead_35 rfl ?_
  refine oe_isub (pc := 37) d_X10_readHead_37 ?_
  refine oe_istore_n (pc := 38) (L2 := [_, _, _, _]) d_X10_readHead_38 rfl rfl (Nat.le_of_ble_eq_true rfl) rfl ?_
  refine oe_iload_n (pc := 39) d_X10_readHead_39 rfl ?_
  refine oe_if_lt (pc := 40) (tgt := 58) d_X10_readHead_40 (by decide) (fun c8 => ?_) (fun c8 => ?_)
  · replace h := (if_pos c8).symm.trans h
    refine oe_iconst (pc := 58) (v := (-1)) d_X10_readHead_58 rfl ?_
    obtain ⟨rfl, rfl⟩ := oRes h
    exact oe_iret (pc := 59) d_X10_readHead_59 ⟨_, rfl, rfl⟩
  · replace h := (if_neg c8).symm.trans h
    refine oe_iload_n (pc := 43) d_X10_readHead_43 rfl ?_
    refine oe_iload_n (pc := 44) d_X10_readHead_44 rfl ?_
    refine oe_bipush (pc := 45) (v := 98) d_X10_readHead_45 rfl ?_
    refine oe_icmp_ne (pc := 47) (tgt := 54) d_X10_readHead_47 (by decide) (fun c9 => ?_) (fun c9 => ?_)
    · replace h := (if_neg c9).symm.trans h
      refine oe_iload_n (pc := 54) d_X10_readHead_54 rfl ?_
      refine oEv.fg [true, false, true, true] ?_
      exact v_X10_readHead_55 hd hK   h
    · replace h := (if_pos c9).symm.trans h
      refine oe_iconst (pc := 50) (v := 3) d_X10_readHead_50 rfl ?_
      refine oe_goto (pc := 51) (tgt := 55) d_X10_readHead_51 (by decide) ?_
      refine oEv.fg [true, false, true, true] ?_
      exact v_X10_readHead_55 hd hK   h
def f_X10_readHead (N : Nat) (K : oK) (p1 : Int32) (M : oM) : Option (Int32 × oM) :=
  oB2 (f_X10_byteAt N K (0 : Int32) (oUp M 17 3 (0 : Int32))) (fun v1 M2 => (if v1 = 98 then (f_X10_readHead_25 N K  p1 v1 M2) else (if v1 = 101 then (f_X10_readHead_25 N K  p1 v1 M2) else some ((-1), M2))))
set_option maxRecDepth 20000 in
theorem v_X10_readHead {X : oX} {N : Nat} {K : oK} {p1 : Int32} {M : oM} {v : Int32} {M' : oM} (hK : oSR K)  (h : f_X10_readHead N K p1 M = some (v, M')) : oMet X 2 J_X10_readHead [(.ref 17), (.int p1)] K M (some (.int v)) K M' := by
  unfold f_X10_readHead at h
  refine oMet_of (L := [some (.ref 17), some (.int p1), none, none]) jJ_X10_readHead.1 rfl (Nat.le_of_ble_eq_true rfl) rfl (Nat.le_refl _) (Nat.le_refl _) ?_
  have hd : 2 ≤ 2 := Nat.le_refl _
  refine oe_aload_n (pc := 0) d_X10_readHead_0 rfl ?_
  refine oe_iconst (pc := 1) (v := 0) d_X10_readHead_1 rfl ?_
  refine oe_putf (pc := 2) d_X10_readHead_2 fl_X10_36 ock10 (k := 3) (Nat.le_of_ble_eq_true rfl) rfl rfl (oLt hK (a := 17) (Nat.le_of_ble_eq_true rfl)) (oSho hK (a := 17) (Nat.le_of_ble_eq_true rfl) rfl) ?_
  refine oe_aload_n (pc := 5) d_X10_readHead_5 rfl ?_
  refine oe_iconst (pc := 6) (v := 0) d_X10_readHead_6 rfl ?_
  obtain ⟨v1, M2, q3, h⟩ := oB2_some h
  refine oe_callV (pc := 7) (ci := 10) d_X10_readHead_7 (v_X10_byteAt hK  q3) (by omega) ml_X10_43 jJ_X10_byteAt rfl rfl (oLt hK (a := 17) (Nat.le_of_ble_eq_true rfl)) (oSho hK (a := 17) (Nat.le_of_ble_eq_true rfl) rfl) ock10 rfl (Nat.le_of_ble_eq_true rfl) ⟨Nat.le_refl _, Nat.le_refl _⟩ ⟨Nat.le_refl _, Nat.le_refl _⟩ ?_
  refine oe_istore_n (pc := 10) (L2 := [_, _, _, _]) d_X10_readHead_10 rfl rfl (Nat.le_of_ble_eq_true rfl) rfl ?_
  refine oe_iload_n (pc := 11) d_X10_readHead_11 rfl ?_
  refine oe_bipush (pc := 12) (v := 98) d_X10_readHead_12 rfl ?_
  refine oe_icmp_eq (pc := 14) (tgt := 25) d_X10_readHead_14 (by decide) (fun c4 => ?_) (fun c4 => ?_)
  · replace h := (if_pos c4).symm.trans h
    exact v_X10_readHead_25 hd hK   h
  · replace h := (if_neg c4).symm.trans h
    refine oe_iload_n (pc := 17) d_X10_readHead_17 rfl ?_
    refine oe_bipush (pc := 18) (v := 101) d_X10_readHead_18 rfl ?_
    refine oe_icmp_eq (pc := 20) (tgt := 25) d_X10_readHead_20 (by decide) (fun c16 => ?_) (fun c16 => ?_)
    · replace h := (if_pos c16).symm.trans h
      exact v_X10_readHead_25 hd hK   h
    · replace h := (if_neg c16).symm.trans h
      refine oe_iconst (pc := 23) (v := (-1)) d_X10_readHead_23 rfl ?_
      obtain ⟨rfl, rfl⟩ := oRes h
      exact oe_iret (pc := 24) d_X10_readHead_24 ⟨_, rfl, rfl⟩
theorem d_X10_isDigit_0 : decode J_X10_isDigit.2.1 0 = .ok (.iload_n 0, 1) := by decide +kernel
theorem d_X10_isDigit_1 : decode J_X10_isDigit.2.1 1 = .ok (.bipush 48, 2) := by decide +kernel
theorem d_X10_isDigit_3 : decode J_X10_isDigit.2.1 3 = .ok (.if_icmp .lt 13, 3) := by decide +kernel
theorem d_X10_isDigit_6 : decode J_X10_isDigit.2.1 6 = .ok (.iload_n 0, 1) := by decide +kernel
theorem d_X10_isDigit_7 : decode J_X10_isDigit.2.1 7 = .ok (.bipush 57, 2) := by decide +kernel
theorem d_X10_isDigit_9 : decode J_X10_isDigit.2.1 9 = .ok (.if_icmp .gt 7, 3) := by decide +kernel
theorem d_X10_isDigit_12 : decode J_X10_isDigit.2.1 12 = .ok (.iconst 1, 1) := by decide +kernel
theorem d_X10_isDigit_13 : decode J_X10_isDigit.2.1 13 = .ok (.goto 4, 3) := by decide +kernel
theorem d_X10_isDigit_16 : decode J_X10_isDigit.2.1 16 = .ok (.iconst 0, 1) := by decide +kernel
theorem d_X10_isDigit_17 : decode J_X10_isDigit.2.1 17 = .ok (.ireturn, 1) := by decide +kernel
def f_X10_isDigit (N : Nat) (K : oK) (p0 : Int32) (M : oM) : Option (Bool × oM) :=
  (if p0 < 48 then some (false, M) else (if 57 < p0 then some (false, M) else some (true, M)))
set_option maxRecDepth 20000 in
theorem v_X10_isDigit {X : oX} {N : Nat} {K : oK} {p0 : Int32} {M : oM} {v : Bool} {M' : oM} (hK : oSR K)  (h : f_X10_isDigit N K p0 M = some (v, M')) : oMet X 1 J_X10_isDigit [(.int p0)] K M (some (.int (oBi v))) K M' := by
  unfold f_X10_isDigit at h
  refine oMet_of (L := [some (.int p0)]) jJ_X10_isDigit.1 rfl (Nat.le_of_ble_eq_true rfl) rfl (Nat.le_refl _) (Nat.le_refl _) ?_
  have hd : 1 ≤ 1 := Nat.le_refl _
  refine oe_iload_n (pc := 0) d_X10_isDigit_0 rfl ?_
  refine oe_bipush (pc := 1) (v := 48) d_X10_isDigit_1 rfl ?_
  refine oe_icmp_lt (pc := 3) (tgt := 16) d_X10_isDigit_3 (by decide) (fun c1 => ?_) (fun c1 => ?_)
  · replace h := (if_pos c1).symm.trans h
    refine oe_iconst (pc := 16) (v := 0) d_X10_isDigit_16 rfl ?_
    obtain ⟨rfl, rfl⟩ := oRes h
    exact oe_iret (pc := 17) d_X10_isDigit_17 ⟨_, rfl, rfl⟩
  · replace h := (if_neg c1).symm.trans h
    refine oe_iload_n (pc := 6) d_X10_isDigit_6 rfl ?_
    refine oe_bipush (pc := 7) (v := 57) d_X10_isDigit_7 rfl ?_
    refine oe_icmp_gt (pc := 9) (tgt := 16) d_X10_isDigit_9 (by decide) (fun c2 => ?_) (fun c2 => ?_)
    · replace h := (if_pos c2).symm.trans h
      refine oe_iconst (pc := 16) (v := 0) d_X10_isDigit_16 rfl ?_
      obtain ⟨rfl, rfl⟩ := oRes h
      exact oe_iret (pc := 17) d_X10_isDigit_17 ⟨_, rfl, rfl⟩
    · replace h := (if_neg c2).symm.trans h
      refine oe_iconst (pc := 12) (v := 1) d_X10_isDigit_12 rfl ?_
      refine oe_goto (pc := 13) (tgt := 17) d_X10_isDigit_13 (by decide) ?_
      obtain ⟨rfl, rfl⟩ := oRes h
      exact oe_iret (pc := 17) d_X10_isDigit_17 ⟨_, rfl, rfl⟩
theorem d_X10_readNumber_0 : decode J_X10_readNumber.2.1 0 = .ok (.aload_n 0, 1) := by decide +kernel
theorem d_X10_readNumber_1 : decode J_X10_readNumber.2.1 1 = .ok (.getfield 36, 3) := by decide +kernel
theorem d_X10_readNumber_4 : decode J_X10_readNumber.2.1 4 = .ok (.istore_n 3, 1) := by decide +kernel
theorem d_X10_readNumber_5 : decode J_X10_readNumber.2.1 5 = .ok (.iconst 0, 1) := by decide +kernel
theorem d_X10_readNumber_6 : decode J_X10_readNumber.2.1 6 = .ok (.istore 4, 2) := by decide +kernel
theorem d_X10_readNumber_8 : decode J_X10_readNumber.2.1 8 = .ok (.iconst 0, 1) := by decide +kernel
theorem d_X10_readNumber_9 : decode J_X10_readNumber.2.1 9 = .ok (.istore 5, 2) := by decide +kernel
theorem d_X10_readNumber_11 : decode J_X10_readNumber.2.1 11 = .ok (.iload 5, 2) := by decide +kernel
theorem d_X10_readNumber_13 : decode J_X10_readNumber.2.1 13 = .ok (.iconst 5, 1) := by decide +kernel
theorem d_X10_readNumber_14 : decode J_X10_readNumber.2.1 14 = .ok (.if_icmp .ge 52, 3) := by decide +kernel
theorem d_X10_readNumber_17 : decode J_X10_readNumber.2.1 17 = .ok (.aload_n 0, 1) := by decide +kernel
theorem d_X10_readNumber_18 : decode J_X10_readNumber.2.1 18 = .ok (.aload_n 0, 1) := by decide +kernel
theorem d_X10_readNumber_19 : decode J_X10_readNumber.2.1 19 = .ok (.getfield 36, 3) := by decide +kernel
theorem d_X10_readNumber_22 : decode J_X10_readNumber.2.1 22 = .ok (.invokevirtual 43, 3) := by decide +kernel
theorem d_X10_readNumber_25 : decode J_X10_readNumber.2.1 25 = .ok (.invokestatic 50, 3) := by decide +kernel
theorem d_X10_readNumber_28 : decode J_X10_readNumber.2.1 28 = .ok (.ifCond .eq 38, 3) := by decide +kernel
theorem d_X10_readNumber_31 : decode J_X10_readNumber.2.1 31 = .ok (.iload 4, 2) := by decide +kernel
theorem d_X10_readNumber_33 : decode J_X10_readNumber.2.1 33 = .ok (.bipush 10, 2) := by decide +kernel
theorem d_X10_readNumber_35 : decode J_X10_readNumber.2.1 35 = .ok (.imul, 1) := by decide +kernel
theorem d_X10_readNumber_36 : decode J_X10_readNumber.2.1 36 = .ok (.aload_n 0, 1) := by decide +kernel
theorem d_X10_readNumber_37 : decode J_X10_readNumber.2.1 37 = .ok (.aload_n 0, 1) := by decide +kernel
theorem d_X10_readNumber_38 : decode J_X10_readNumber.2.1 38 = .ok (.getfield 36, 3) := by decide +kernel
theorem d_X10_readNumber_41 : decode J_X10_readNumber.2.1 41 = .ok (.invokevirtual 43, 3) := by decide +kernel
theorem d_X10_readNumber_44 : decode J_X10_readNumber.2.1 44 = .ok (.iadd, 1) := by decide +kernel
theorem d_X10_readNumber_45 : decode J_X10_readNumber.2.1 45 = .ok (.bipush 48, 2) := by decide +kernel
theorem d_X10_readNumber_47 : decode J_X10_readNumber.2.1 47 = .ok (.isub, 1) := by decide +kernel
theorem d_X10_readNumber_48 : decode J_X10_readNumber.2.1 48 = .ok (.istore 4, 2) := by decide +kernel
theorem d_X10_readNumber_50 : decode J_X10_readNumber.2.1 50 = .ok (.aload_n 0, 1) := by decide +kernel
theorem d_X10_readNumber_51 : decode J_X10_readNumber.2.1 51 = .ok (.dup, 1) := by decide +kernel
theorem d_X10_readNumber_52 : decode J_X10_readNumber.2.1 52 = .ok (.getfield 36, 3) := by decide +kernel
theorem d_X10_readNumber_55 : decode J_X10_readNumber.2.1 55 = .ok (.iconst 1, 1) := by decide +kernel
theorem d_X10_readNumber_56 : decode J_X10_readNumber.2.1 56 = .ok (.iadd, 1) := by decide +kernel
theorem d_X10_readNumber_57 : decode J_X10_readNumber.2.1 57 = .ok (.putfield 36, 3) := by decide +kernel
theorem d_X10_readNumber_60 : decode J_X10_readNumber.2.1 60 = .ok (.iinc 5 1, 3) := by decide +kernel
theorem d_X10_readNumber_63 : decode J_X10_readNumber.2.1 63 = .ok (.goto (-52), 3) := by decide +kernel
theorem d_X10_readNumber_66 : decode J_X10_readNumber.2.1 66 = .ok (.aload_n 0, 1) := by decide +kernel
theorem d_X10_readNumber_67 : decode J_X10_readNumber.2.1 67 = .ok (.getfield 36, 3) := by decide +kernel
theorem d_X10_readNumber_70 : decode J_X10_readNumber.2.1 70 = .ok (.iload_n 3, 1) := by decide +kernel
theorem d_X10_readNumber_71 : decode J_X10_readNumber.2.1 71 = .ok (.if_icmp .ne 5, 3) := by decide +kernel
theorem d_X10_readNumber_74 : decode J_X10_readNumber.2.1 74 = .ok (.iconst 0, 1) := by decide +kernel
theorem d_X10_readNumber_75 : decode J_X10_readNumber.2.1 75 = .ok (.ireturn, 1) := by decide +kernel
theorem d_X10_readNumber_76 : decode J_X10_readNumber.2.1 76 = .ok (.iload_n 1, 1) := by decide +kernel
theorem d_X10_readNumber_77 : decode J_X10_readNumber.2.1 77 = .ok (.ifCond .le 43, 3) := by decide +kernel
theorem d_X10_readNumber_80 : decode J_X10_readNumber.2.1 80 = .ok (.iload_n 2, 1) := by decide +kernel
theorem d_X10_readNumber_81 : decode J_X10_readNumber.2.1 81 = .ok (.ifCond .eq 19, 3) := by decide +kernel
theorem d_X10_readNumber_84 : decode J_X10_readNumber.2.1 84 = .ok (.iload 4, 2) := by decide +kernel
theorem d_X10_readNumber_86 : decode J_X10_readNumber.2.1 86 = .ok (.aload_n 0, 1) := by decide +kernel
theorem d_X10_readNumber_87 : decode J_X10_readNumber.2.1 87 = .ok (.getfield 17, 3) := by decide +kernel
theorem d_X10_readNumber_90 : decode J_X10_readNumber.2.1 90 = .ok (.iload_n 1, 1) := by decide +kernel
theorem d_X10_readNumber_91 : decode J_X10_readNumber.2.1 91 = .ok (.iconst 1, 1) := by decide +kernel
theorem d_X10_readNumber_92 : decode J_X10_readNumber.2.1 92 = .ok (.isub, 1) := by decide +kernel
theorem d_X10_readNumber_93 : decode J_X10_readNumber.2.1 93 = .ok (.iaload, 1) := by decide +kernel
theorem d_X10_readNumber_94 : decode J_X10_readNumber.2.1 94 = .ok (.if_icmp .ge 26, 3) := by decide +kernel
theorem d_X10_readNumber_97 : decode J_X10_readNumber.2.1 97 = .ok (.goto 16, 3) := by decide +kernel
theorem d_X10_readNumber_100 : decode J_X10_readNumber.2.1 100 = .ok (.iload 4, 2) := by decide +kernel
theorem d_X10_readNumber_102 : decode J_X10_readNumber.2.1 102 = .ok (.aload_n 0, 1) := by decide +kernel
theorem d_X10_readNumber_103 : decode J_X10_readNumber.2.1 103 = .ok (.getfield 17, 3) := by decide +kernel
theorem d_X10_readNumber_106 : decode J_X10_readNumber.2.1 106 = .ok (.iload_n 1, 1) := by decide +kernel
theorem d_X10_readNumber_107 : decode J_X10_readNumber.2.1 107 = .ok (.iconst 1, 1) := by decide +kernel
theorem d_X10_readNumber_108 : decode J_X10_readNumber.2.1 108 = .ok (.isub, 1) := by decide +kernel
theorem d_X10_readNumber_109 : decode J_X10_readNumber.2.1 109 = .ok (.iaload, 1) := by decide +kernel
theorem d_X10_readNumber_110 : decode J_X10_readNumber.2.1 110 = .ok (.if_icmp .le 10, 3) := by decide +kernel
theorem d_X10_readNumber_113 : decode J_X10_readNumber.2.1 113 = .ok (.aload_n 0, 1) := by decide +kernel
theorem d_X10_readNumber_114 : decode J_X10_readNumber.2.1 114 = .ok (.iload_n 3, 1) := by decide +kernel
theorem d_X10_readNumber_115 : decode J_X10_readNumber.2.1 115 = .ok (.putfield 36, 3) := by decide +kernel
theorem d_X10_readNumber_118 : decode J_X10_readNumber.2.1 118 = .ok (.iconst 0, 1) := by decide +kernel
theorem d_X10_readNumber_119 : decode J_X10_readNumber.2.1 119 = .ok (.ireturn, 1) := by decide +kernel
theorem d_X10_readNumber_120 : decode J_X10_readNumber.2.1 120 = .ok (.aload_n 0, 1) := by decide +kernel
theorem d_X10_readNumber_121 : decode J_X10_readNumber.2.1 121 = .ok (.getfield 17, 3) := by decide +kernel
theorem d_X10_readNumber_124 : decode J_X10_readNumber.2.1 124 = .ok (.iload_n 1, 1) := by decide +kernel
theorem d_X10_readNumber_125 : decode J_X10_readNumber.2.1 125 = .ok (.iload 4, 2) := by decide +kernel
theorem d_X10_readNumber_127 : decode J_X10_readNumber.2.1 127 = .ok (.iastore, 1) := by decide +kernel
theorem d_X10_readNumber_128 : decode J_X10_readNumber.2.1 128 = .ok (.iconst 1, 1) := by decide +kernel
theorem d_X10_readNumber_129 : decode J_X10_readNumber.2.1 129 = .ok (.ireturn, 1) := by decide +kernel
def f_X10_readNumber_120 (N : Nat) (K : oK)  (p1 : Int32) (p4 : Int32) (M : oM) : Option (Bool × oM) :=
  oIx (p1) 13 (some (true, (oUp M 19 (p1 : Int32).toNatClampNeg p4)))
set_option maxRecDepth 20000 in
theorem v_X10_readNumber_120 {X : oX} {d N : Nat} {K : oK}  {p1 : Int32} {p4 : Int32} {M : oM} {v : Bool} {M' : oM}  (hd : 2 ≤ d) (hK : oSR K)   (h : f_X10_readNumber_120 N K  p1 p4 M = some (v, M')) : oEv X d J_X10_readNumber 120 [some (.ref 17), some (.int p1), none, none, some (.int p4), none] [] K M (some (.int (oBi v))) K M' := by
  unfold f_X10_readNumber_120 at h
  refine oe_aload_n (pc := 120) d_X10_readNumber_120 rfl ?_
  refine oe_getr (pc := 121) d_X10_readNumber_121 fl_X10_17 ock10 (k := 1) (b := 19) (Nat.le_of_ble_eq_true rfl) (by decide) (oLt hK (a := 17) (Nat.le_of_ble_eq_true rfl)) (oSho hK (a := 17) (Nat.le_of_ble_eq_true rfl) rfl) (oRfK hK rfl) ?_
  refine oe_iload_n (pc := 124) d_X10_readNumber_124 rfl ?_
  refine oe_iload (pc := 125) d_X10_readNumber_125 rfl ?_
  obtain ⟨i4, h⟩ := oIx_some h
  refine oe_iast (pc := 127) d_X10_readNumber_127 (oLt hK (a := 19) (Nat.le_of_ble_eq_true rfl)) (oSha hK (a := 19) (Nat.le_of_ble_eq_true rfl) rfl) i4 ?_
  refine oe_iconst (pc := 128) (v := 1) d_X10_readNumber_128 rfl ?_
  obtain ⟨rfl, rfl⟩ := oRes h
  exact oe_iret (pc := 129) d_X10_readNumber_129 ⟨_, rfl, rfl⟩
def f_X10_readNumber_113 (N : Nat) (K : oK)  (p3 : Int32) (M : oM) : Option (Bool × oM) :=
  some (false, (oUp M 17 3 p3))
set_option maxRecDepth 20000 in
theorem v_X10_readNumber_113 {X : oX} {d N : Nat} {K : oK}  {p3 : Int32} {M : oM} {v : Bool} {M' : oM}  (hd : 2 ≤ d) (hK : oSR K)   (h : f_X10_readNumber_113 N K  p3 M = some (v, M')) : oEv X d J_X10_readNumber 113 [some (.ref 17), none, none, some (.int p3), none, none] [] K M (some (.int (oBi v))) K M' := by
  unfold f_X10_readNumber_113 at h
  refine oe_aload_n (pc := 113) d_X10_readNumber_113 rfl ?_
  refine oe_iload_n (pc := 114) d_X10_readNumber_114 rfl ?_
  refine oe_putf (pc := 115) d_X10_readNumber_115 fl_X10_36 ock10 (k := 3) (Nat.le_of_ble_eq_true rfl) rfl rfl (oLt hK (a := 17) (Nat.le_of_ble_eq_true rfl)) (oSho hK (a := 17) (Nat.le_of_ble_eq_true rfl) rfl) ?_
  refine oe_iconst (pc := 118) (v := 0) d_X10_readNumber_118 rfl ?_
  obtain ⟨rfl, rfl⟩ := oRes h
  exact oe_iret (pc := 119) d_X10_readNumber_119 ⟨_, rfl, rfl⟩
def f_X10_readNumber_66 (N : Nat) (K : oK)  (p1 : Int32) (p2 : Int32) (p3 : Int32) (p4 : Int32) (M : oM) : Option (Bool × oM) :=
  (if (M.1 17 3) = p3 then some (false, M) else (if p1 ≤ 0 then (f_X10_readNumber_120 N K  p1 p4 M) else (if p2 = 0 then oIx ((p1 - 1)) 13 ((if p4 ≤ (M.1 19 ((p1 - 1) : Int32).toNatClampNeg) then (f_X10_readNumber_120 N K  p1 p4 M) else (f_X10_readNumber_113 N K  p3 M))) else oIx ((p1 - 1)) 13 ((if (M.1 19 ((p1 - 1) : Int32).toNatClampNeg) ≤ p4 then (f_X10_readNumber_120 N K  p1 p4 M) else (f_X10_readNumber_113 N K  p3 M))))))
set_option maxRecDepth 20000 in
theorem v_X10_readNumber_66 {X : oX} {d N : Nat} {K : oK}  {p1 : Int32} {p2 : Int32} {p3 : Int32} {p4 : Int32} {M : oM} {v : Bool} {M' : oM}  (hd : 2 ≤ d) (hK : oSR K)   (h : f_X10_readNumber_66 N K  p1 p2 p3 p4 M = some (v, M')) : oEv X d J_X10_readNumber 66 [some (.ref 17), some (.int p1), some (.int p2), some (.int p3), some (.int p4), none] [] K M (some (.int (oBi v))) K M' := by
  unfold f_X10_readNumber_66 at h
  refine oe_aload_n (pc := 66) d_X10_readNumber_66 rfl ?_
  refine oe_getf (pc := 67) d_X10_readNumber_67 fl_X10_36 ock10 (k := 3) (Nat.le_of_ble_eq_true rfl) rfl (oLt hK (a := 17) (Nat.le_of_ble_eq_true rfl)) (oSho hK (a := 17) (Nat.le_of_ble_eq_true rfl) rfl) ?_
  refine oe_iload_n (pc := 70) d_X10_readNumber_70 rfl ?_
  refine oe_icmp_ne (pc := 71) (tgt := 76) d_X10_readNumber_71 (by decide) (fun c2 => ?_) (fun c2 => ?_)
  · replace h := (if_neg c2).symm.trans h
    refine oe_iload_n (pc := 76) d_X10_readNumber_76 rfl ?_
    refine oe_if_le (pc := 77) (tgt := 120) d_X10_readNumber_77 (by decide) (fun c3 => ?_) (fun c3 => ?_)
    · replace h := (if_pos c3).symm.trans h
      refine oEv.fg [true, true, false, false, true, false] ?_
      exact v_X10_readNumber_120 hd hK   h
    · replace h := (if_neg c3).symm.trans h
      refine oe_iload_n (pc := 80) d_X10_readNumber_80 rfl ?_
      refine oe_if_eq (pc := 81) (tgt := 100) d_X10_readNumber_81 (by decide) (fun c5 => ?_) (fun c5 => ?_)
      · replace h := (if_pos c5).symm.trans h
        refine oe_iload (pc := 100) d_X10_readNumber_100 rfl ?_
        refine oe_aload_n (pc := 102) d_X10_readNumber_102 rfl ?_
        refine oe_getr (pc := 103) d_X10_readNumber_103 fl_X10_17 ock10 (k := 1) (b := 19) (Nat.le_of_ble_eq_true rfl) (by decide) (oLt hK (a := 17) (Nat.le_of_ble_eq_true rfl)) (oSho hK (a := 17) (Nat.le_of_ble_eq_true rfl) rfl) (oRfK hK rfl) ?_
        refine oe_iload_n (pc := 106) d_X10_readNumber_106 rfl ?_
        refine oe_iconst (pc := 107) (v := 1) d_X10_readNumber_107 rfl ?_
        refine oe_isub (pc := 108) d_X10_readNumber_108 ?_
        obtain ⟨i6, h⟩ := oIx_some h
        refine oe_iald (pc := 109) d_X10_readNumber_109 (oLt hK (a := 19) (Nat.le_of_ble_eq_true rfl)) (oSha hK (a := 19) (Nat.le_of_ble_eq_true rfl) rfl) i6 ?_
        refine oe_icmp_le (pc := 110) (tgt := 120) d_X10_readNumber_110 (by decide) (fun c7 => ?_) (fun c7 => ?_)
        · replace h := (if_pos c7).symm.trans h
          refine oEv.fg [true, true, false, false, true, false] ?_
          exact v_X10_readNumber_120 hd hK   h
        · replace h := (if_neg c7).symm.trans h
          refine oEv.fg [true, false, false, true, false, false] ?_
          exact v_X10_readNumber_113 hd hK   h
      · replace h := (if_neg c5).symm.trans h
        refine oe_iload (pc := 84) d_X10_readNumber_84 rfl ?_
        refine oe_aload_n (pc := 86) d_X10_readNumber_86 rfl ?_
        refine oe_getr (pc := 87) d_X10_readNumber_87 fl_X10_17 ock10 (k := 1) (b := 19) (Nat.le_of_ble_eq_true rfl) (by decide) (oLt hK (a := 17) (Nat.le_of_ble_eq_true rfl)) (oSho hK (a := 17) (Nat.le_of_ble_eq_true rfl) rfl) (oRfK hK rfl) ?_
        refine oe_iload_n (pc := 90) d_X10_readNumber_90 rfl ?_
        refine oe_iconst (pc := 91) (v := 1) d_X10_readNumber_91 rfl ?_
        refine oe_isub (pc := 92) d_X10_readNumber_92 ?_
        obtain ⟨i8, h⟩ := oIx_some h
        refine oe_iald (pc := 93) d_X10_readNumber_93 (oLt hK (a := 19) (Nat.le_of_ble_eq_true rfl)) (oSha hK (a := 19) (Nat.le_of_ble_eq_true rfl) rfl) i8 ?_
        refine oe_icmp_ge (pc := 94) (tgt := 120) d_X10_readNumber_94 (by decide) (fun c9 => ?_) (fun c9 => ?_)
        · replace h := (if_pos c9).symm.trans h
          refine oEv.fg [true, true, false, false, true, false] ?_
          exact v_X10_readNumber_120 hd hK   h
        · replace h := (if_neg c9).symm.trans h
          refine oe_goto (pc := 97) (tgt := 113) d_X10_readNumber_97 (by decide) ?_
          refine oEv.fg [true, false, false, true, false, false] ?_
          exact v_X10_readNumber_113 hd hK   h
  · replace h := (if_pos c2).symm.trans h
    refine oe_iconst (pc := 74) (v := 0) d_X10_readNumber_74 rfl ?_
    obtain ⟨rfl, rfl⟩ := oRes h
    exact oe_iret (pc := 75) d_X10_readNumber_75 ⟨_, rfl, rfl⟩
def f_X10_readNumber_11 (N : Nat) (K : oK)  : Nat → Int32 → Int32 → Int32 → Int32 → Int32 → oM → Option (Bool × oM)
  | 0, _, _, _, _, _, _ => none
  | n + 1, p1, p2, p3, p4, p5, M => (fun r11 => (if 5 ≤ p5 then (f_X10_readNumber_66 N K  p1 p2 p3 p4 M) else oB2 (f_X10_byteAt N K (M.1 17 3) M) (fun v10 M11 => oB2 (f_X10_isDigit N K v10 M11) (fun v13 M14 => cond v13 (oB2 (f_X10_byteAt N K (M14.1 17 3) M14) (fun v16 M17 => (r11 p1 p2 p3 (((p4 * 10) + v16) - 48) (p5 + 1) (oUp M17 17 3 ((M17.1 17 3) + 1))))) ((f_X10_readNumber_66 N K  p1 p2 p3 p4 M14)))))) (f_X10_readNumber_11 N K  n)
set_option maxRecDepth 20000 in
theorem v_X10_readNumber_11_L {X : oX} {d N : Nat} {K : oK}  (hd : 2 ≤ d) (hK : oSR K)  : ∀ (n : Nat) (p1 : Int32) (p2 : Int32) (p3 : Int32) (p4 : Int32) (p5 : Int32) (M : oM) (v : Bool) (M' : oM)  , f_X10_readNumber_11 N K  n p1 p2 p3 p4 p5 M = some (v, M') → oEv X d J_X10_readNumber 11 [some (.ref 17), some (.int p1), some (.int p2), some (.int p3), some (.int p4), some (.int p5)] [] K M (some (.int (oBi v))) K M' := by
  intro n
  induction n with
  | zero =>
    intro p1 p2 p3 p4 p5 M v M'   h
    cases h
  | succ n hr11 =>
    intro p1 p2 p3 p4 p5 M v M'   h
    refine oe_iload (pc := 11) d_X10_readNumber_11 rfl ?_
    refine oe_iconst (pc := 13) (v := 5) d_X10_readNumber_13 rfl ?_
    refine oe_icmp_ge (pc := 14) (tgt := 66) d_X10_readNumber_14 (by decide) (fun c1 => ?_) (fun c1 => ?_)
    · replace h := (if_pos c1).symm.trans h
      refine oEv.fg [true, true, true, true, true, false] ?_
      exact v_X10_readNumber_66 hd hK   h
    · replace h := (if_neg c1).symm.trans h
      refine oe_aload_n (pc := 17) d_X10_readNumber_17 rfl ?_
      refine oe_aload_n (pc := 18) d_X10_readNumber_18 rfl ?_
      refine oe_getf (pc := 19) d_X10_readNumber_19 fl_X10_36 ock10 (k := 3) (Nat.le_of_ble_eq_true rfl) rfl (oLt hK (a := 17) (Nat.le_of_ble_eq_true rfl)) (oSho hK (a := 17) (Nat.le_of_ble_eq_true rfl) rfl) ?_
      obtain ⟨v10, M11, q12, h⟩ := oB2_some h
      refine oe_callV (pc := 22) (ci := 10) d_X10_readNumber_22 (v_X10_byteAt hK  q12) (by omega) ml_X10_43 jJ_X10_byteAt rfl rfl (oLt hK (a := 17) (Nat.le_of_ble_eq_true rfl)) (oSho hK (a := 17) (Nat.le_of_ble_eq_true rfl) rfl) ock10 rfl (Nat.le_of_ble_eq_true rfl) ⟨Nat.le_refl _, Nat.le_refl _⟩ ⟨Nat.le_refl _, Nat.le_refl _⟩ ?_
      obtain ⟨v13, M14, q15, h⟩ := oB2_some h
      cases v13 with
      | true =>
        replace h := oCt h
        refine oe_callS (pc := 25) d_X10_readNumber_25 (v_X10_isDigit hK  q15) (by omega) ml_X10_50 jJ_X10_isDigit rfl rfl (Nat.le_of_ble_eq_true rfl) ⟨Nat.le_refl _, Nat.le_refl _⟩ ⟨Nat.le_refl _, Nat.le_refl _⟩ ?_
        refine oe_if_eq (pc := 28) (tgt := 66) d_X10_readNumber_28 (by decide) (fun c => absurd c (by decide)) (fun _ => ?_)
        refine oe_iload (pc := 31) d_X10_readNumber_31 rfl ?_
        refine oe_bipush (pc := 33) (v := 10) d_X10_readNumber_33 rfl ?_
        refine oe_imul (pc := 35) d_X10_readNumber_35 ?_
        refine oe_aload_n (pc := 36) d_X10_readNumber_36 rfl ?_
        refine oe_aload_n (pc := 37) d_X10_readNumber_37 rfl ?_
        refine oe_getf (pc := 38) d_X10_readNumber_38 fl_X10_36 ock10 (k := 3) (Nat.le_of_ble_eq_true rfl) rfl (oLt hK (a := 17) (Nat.le_of_ble_eq_true rfl)) (oSho hK (a := 17) (Nat.le_of_ble_eq_true rfl) rfl) ?_
        obtain ⟨v16, M17, q18, h⟩ := oB2_some h
        refine oe_callV (pc := 41) (ci := 10) d_X10_readNumber_41 (v_X10_byteAt hK  q18) (by omega) ml_X10_43 jJ_X10_byteAt rfl rfl (oLt hK (a := 17) (Nat.le_of_ble_eq_true rfl)) (oSho hK (a := 17) (Nat.le_of_ble_eq_true rfl) rfl) ock10 rfl (Nat.le_of_ble_eq_true rfl) ⟨Nat.le_refl _, Nat.le_refl _⟩ ⟨Nat.le_refl _, Nat.le_refl _⟩ ?_
        refine oe_iadd (pc := 44) d_X10_readNumber_44 ?_
        refine oe_bipush (pc := 45) (v := 48) d_X10_readNumber_45 rfl ?_
        refine oe_isub (pc := 47) d_X10_readNumber_47 ?_
        refine oe_istore (pc := 48) (L2 := [_, _, _, _, _, _]) d_X10_readNumber_48 rfl (Nat.le_of_ble_eq_true rfl) rfl ?_
        refine oe_aload_n (pc := 50) d_X10_readNumber_50 rfl ?_
        refine oe_dup (pc := 51) d_X10_readNumber_51 rfl ?_
        refine oe_getf (pc := 52) d_X10_readNumber_52 fl_X10_36 ock10 (k := 3) (Nat.le_of_ble_eq_true rfl) rfl (oLt hK (a := 17) (Nat.le_of_ble_eq_true rfl)) (oSho hK (a := 17) (Nat.le_of_ble_eq_true rfl) rfl) ?_
        refine oe_iconst (pc := 55) (v := 1) d_X10_readNumber_55 rfl ?_
        refine oe_iadd (pc := 56) d_X10_readNumber_56 ?_
        refine oe_putf (pc := 57) d_X10_readNumber_57 fl_X10_36 ock10 (k := 3) (Nat.le_of_ble_eq_true rfl) rfl rfl (oLt hK (a := 17) (Nat.le_of_ble_eq_true rfl)) (oSho hK (a := 17) (Nat.le_of_ble_eq_true rfl) rfl) ?_
        refine oe_iinc (pc := 60) (v := (p5 + 1)) (L2 := [_, _, _, _, _, _]) d_X10_readNumber_60 rfl rfl rfl (Nat.le_of_ble_eq_true rfl) rfl ?_
        refine oe_goto (pc := 63) (tgt := 11) d_X10_readNumber_63 (by decide) ?_
        exact hr11 _ _ _ _ _ _ _ _ h
      | false =>
        replace h := oCf h
        refine oe_callS (pc := 25) d_X10_readNumber_25 (v_X10_isDigit hK  q15) (by omega) ml_X10_50 jJ_X10_isDigit rfl rfl (Nat.le_of_ble_eq_true rfl) ⟨Nat.le_refl _, Nat.le_refl _⟩ ⟨Nat.le_refl _, Nat.le_refl _⟩ ?_
        refine oe_if_eq (pc := 28) (tgt := 66) d_X10_readNumber_28 (by decide) (fun _ => ?_) (fun c => absurd (by decide) c)
        refine oEv.fg [true, true, true, true, true, false] ?_
        exact v_X10_readNumber_66 hd hK   h
theorem v_X10_readNumber_11 {X : oX} {d N : Nat} {K : oK}  {p1 : Int32} {p2 : Int32} {p3 : Int32} {p4 : Int32} {p5 : Int32} {M : oM} {v : Bool} {M' : oM}  (hd : 2 ≤ d) (hK : oSR K)   (h : f_X10_readNumber_11 N K  N p1 p2 p3 p4 p5 M = some (v, M')) : oEv X d J_X10_readNumber 11 [some (.ref 17), some (.int p1), some (.int p2), some (.int p3), some (.int p4), some (.int p5)] [] K M (some (.int (oBi v))) K M' := v_X10_readNumber_11_L hd hK  N p1 p2 p3 p4 p5 M v M'   h
def f_X10_readNumber (N : Nat) (K : oK) (p1 : Int32) (p2 : Int32) (M : oM) : Option (Bool × oM) :=
  (f_X10_readNumber_11 N K  N p1 p2 (M.1 17 3) 0 0 M)
set_option maxRecDepth 20000 in
theorem v_X10_readNumber {X : oX} {N : Nat} {K : oK} {p1 : Int32} {p2 : Int32} {M : oM} {v : Bool} {M' : oM} (hK : oSR K)  (h : f_X10_readNumber N K p1 p2 M = some (v, M')) : oMet X 2 J_X10_readNumber [(.ref 17), (.int p1), (.int p2)] K M (some (.int (oBi v))) K M' := by
  unfold f_X10_readNumber at h
  refine oMet_of (L := [some (.ref 17), some (.int p1), some (.int p2), none, none, none]) jJ_X10_readNumber.1 rfl (Nat.le_of_ble_eq_true rfl) rfl (Nat.le_refl _) (Nat.le_refl _) ?_
  have hd : 2 ≤ 2 := Nat.le_refl _
  refine oe_aload_n (pc := 0) d_X10_readNumber_0 rfl ?_
  refine oe_getf (pc := 1) d_X10_readNumber_1 fl_X10_36 ock10 (k := 3) (Nat.le_of_ble_eq_true rfl) rfl (oLt hK (a := 17) (Nat.le_of_ble_eq_true rfl)) (oSho hK (a := 17) (Nat.le_of_ble_eq_true rfl) rfl) ?_
  refine oe_istore_n (pc := 4) (L2 := [_, _, _, _, _, _]) d_X10_readNumber_4 rfl rfl (Nat.le_of_ble_eq_true rfl) rfl ?_
  refine oe_iconst (pc := 5) (v := 0) d_X10_readNumber_5 rfl ?_
  refine oe_istore (pc := 6) (L2 := [_, _, _, _, _, _]) d_X10_readNumber_6 rfl (Nat.le_of_ble_eq_true rfl) rfl ?_
  refine oe_iconst (pc := 8) (v := 0) d_X10_readNumber_8 rfl ?_
  refine oe_istore (pc := 9) (L2 := [_, _, _, _, _, _]) d_X10_readNumber_9 rfl (Nat.le_of_ble_eq_true rfl) rfl ?_
  exact v_X10_readNumber_11 hd hK   h
theorem d_X10_readNumbers_0 : decode J_X10_readNumbers.2.1 0 = .ok (.iconst 0, 1) := by decide +kernel
theorem d_X10_readNumbers_1 : decode J_X10_readNumbers.2.1 1 = .ok (.istore_n 2, 1) := by decide +kernel
theorem d_X10_readNumbers_2 : decode J_X10_readNumbers.2.1 2 = .ok (.iload_n 2, 1) := by decide +kernel
theorem d_X10_readNumbers_3 : decode J_X10_readNumbers.2.1 3 = .ok (.aload_n 0, 1) := by decide +kernel
theorem d_X10_readNumbers_4 : decode J_X10_readNumbers.2.1 4 = .ok (.getfield 17, 3) := by decide +kernel
theorem d_X10_readNumbers_7 : decode J_X10_readNumbers.2.1 7 = .ok (.arraylength, 1) := by decide +kernel
theorem d_X10_readNumbers_8 : decode J_X10_readNumbers.2.1 8 = .ok (.if_icmp .ge 71, 3) := by decide +kernel
theorem d_X10_readNumbers_11 : decode J_X10_readNumbers.2.1 11 = .ok (.aload_n 0, 1) := by decide +kernel
theorem d_X10_readNumbers_12 : decode J_X10_readNumbers.2.1 12 = .ok (.iload_n 2, 1) := by decide +kernel
theorem d_X10_readNumbers_13 : decode J_X10_readNumbers.2.1 13 = .ok (.iload_n 1, 1) := by decide +kernel
theorem d_X10_readNumbers_14 : decode J_X10_readNumbers.2.1 14 = .ok (.invokevirtual 46, 3) := by decide +kernel
theorem d_X10_readNumbers_17 : decode J_X10_readNumbers.2.1 17 = .ok (.ifCond .ne 5, 3) := by decide +kernel
theorem d_X10_readNumbers_20 : decode J_X10_readNumbers.2.1 20 = .ok (.iconst (-1), 1) := by decide +kernel
theorem d_X10_readNumbers_21 : decode J_X10_readNumbers.2.1 21 = .ok (.ireturn, 1) := by decide +kernel
theorem d_X10_readNumbers_22 : decode J_X10_readNumbers.2.1 22 = .ok (.aload_n 0, 1) := by decide +kernel
theorem d_X10_readNumbers_23 : decode J_X10_readNumbers.2.1 23 = .ok (.getfield 36, 3) := by decide +kernel
theorem d_X10_readNumbers_26 : decode J_X10_readNumbers.2.1 26 = .ok (.aload_n 0, 1) := by decide +kernel
theorem d_X10_readNumbers_27 : decode J_X10_readNumbers.2.1 27 = .ok (.getfield 21, 3) := by decide +kernel
theorem d_X10_readNumbers_30 : decode J_X10_readNumbers.2.1 30 = .ok (.if_icmp .lt 7, 3) := by decide +kernel
theorem d_X10_readNumbers_33 : decode J_X10_readNumbers.2.1 33 = .ok (.iload_n 2, 1) := by decide +kernel
theorem d_X10_readNumbers_34 : decode J_X10_readNumbers.2.1 34 = .ok (.iconst 1, 1) := by decide +kernel
theorem d_X10_readNumbers_35 : decode J_X10_readNumbers.2.1 35 = .ok (.iadd, 1) := by decide +kernel
theorem d_X10_readNumbers_36 : decode J_X10_readNumbers.2.1 36 = .ok (.ireturn, 1) := by decide +kernel
theorem d_X10_readNumbers_37 : decode J_X10_readNumbers.2.1 37 = .ok (.aload_n 0, 1) := by decide +kernel
theorem d_X10_readNumbers_38 : decode J_X10_readNumbers.2.1 38 = .ok (.aload_n 0, 1) := by decide +kernel
theorem d_X10_readNumbers_39 : decode J_X10_readNumbers.2.1 39 = .ok (.getfield 36, 3) := by decide +kernel
theorem d_X10_readNumbers_42 : decode J_X10_readNumbers.2.1 42 = .ok (.invokevirtual 43, 3) := by decide +kernel
theorem d_X10_readNumbers_45 : decode J_X10_readNumbers.2.1 45 = .ok (.bipush 44, 2) := by decide +kernel
theorem d_X10_readNumbers_47 : decode J_X10_readNumbers.2.1 47 = .ok (.if_icmp .ne 14, 3) := by decide +kernel
theorem d_X10_readNumbers_50 : decode J_X10_readNumbers.2.1 50 = .ok (.iload_n 2, 1) := by decide +kernel
theorem d_X10_readNumbers_51 : decode J_X10_readNumbers.2.1 51 = .ok (.aload_n 0, 1) := by decide +kernel
theorem d_X10_readNumbers_52 : decode J_X10_readNumbers.2.1 52 = .ok (.getfield 17, 3) := by decide +kernel
theorem d_X10_readNumbers_55 : decode J_X10_readNumbers.2.1 55 = .ok (.arraylength, 1) := by decide +kernel
theorem d_X10_readNumbers_56 : decode J_X10_readNumbers.2.1 56 = .ok (.iconst 1, 1) := by decide +kernel
theorem d_X10_readNumbers_57 : decode J_X10_readNumbers.2.1 57 = .ok (.isub, 1) := by decide +kernel
theorem d_X10_readNumbers_58 : decode J_X10_readNumbers.2.1 58 = .ok (.if_icmp .ne 5, 3) := by decide +kernel
theorem d_X10_readNumbers_61 : decode J_X10_readNumbers.2.1 61 = .ok (.iconst (-1), 1) := by decide +kernel
theorem d_X10_readNumbers_62 : decode J_X10_readNumbers.2.1 62 = .ok (.ireturn, 1) := by decide +kernel
theorem d_X10_readNumbers_63 : decode J_X10_readNumbers.2.1 63 = .ok (.aload_n 0, 1) := by decide +kernel
theorem d_X10_readNumbers_64 : decode J_X10_readNumbers.2.1 64 = .ok (.dup, 1) := by decide +kernel
theorem d_X10_readNumbers_65 : decode J_X10_readNumbers.2.1 65 = .ok (.getfield 36, 3) := by decide +kernel
theorem d_X10_readNumbers_68 : decode J_X10_readNumbers.2.1 68 = .ok (.iconst 1, 1) := by decide +kernel
theorem d_X10_readNumbers_69 : decode J_X10_readNumbers.2.1 69 = .ok (.iadd, 1) := by decide +kernel
theorem d_X10_readNumbers_70 : decode J_X10_readNumbers.2.1 70 = .ok (.putfield 36, 3) := by decide +kernel
theorem d_X10_readNumbers_73 : decode J_X10_readNumbers.2.1 73 = .ok (.iinc 2 1, 3) := by decide +kernel
theorem d_X10_readNumbers_76 : decode J_X10_readNumbers.2.1 76 = .ok (.goto (-74), 3) := by decide +kernel
theorem d_X10_readNumbers_79 : decode J_X10_readNumbers.2.1 79 = .ok (.iconst (-1), 1) := by decide +kernel
theorem d_X10_readNumbers_80 : decode J_X10_readNumbers.2.1 80 = .ok (.ireturn, 1) := by decide +kernel
def f_X10_readNumbers_2 (N : Nat) (K : oK)  : Nat → Int32 → Int32 → oM → Option (Int32 × oM)
  | 0, _, _, _ => none
  | n + 1, p1, p2, M => (fun r2 => (if (Int32.ofNat 13) ≤ p2 then some ((-1), M) else oB2 (f_X10_readNumber N K p2 p1 M) (fun v2 M3 => cond v2 ((if (M3.1 17 3) < (M3.1 17 2) then oB2 (f_X10_byteAt N K (M3.1 17 3) M3) (fun v6 M7 => (if v6 = 44 then (if p2 = ((Int32.ofNat 13) - 1) then some ((-1), M7) else (r2 p1 (p2 + 1) (oUp M7 17 3 ((M7.1 17 3) + 1)))) else some ((-1), M7))) else some ((p2 + 1), M3))) (some ((-1), M3))))) (f_X10_readNumbers_2 N K  n)
set_option maxRecDepth 20000 in
theorem v_X10_readNumbers_2_L {X : oX} {d N : Nat} {K : oK}  (hd : 3 ≤ d) (hK : oSR K)  : ∀ (n : Nat) (p1 : Int32) (p2 : Int32) (M : oM) (v : Int32) (M' : oM)  , f_X10_readNumbers_2 N K  n p1 p2 M = some (v, M') → oEv X d J_X10_readNumbers 2 [some (.ref 17), some (.int p1), some (.int p2)] [] K M (some (.int v)) K M' := by
  intro n
  induction n with
  | zero =>
    intro p1 p2 M v M'   h
    cases h
  | succ n hr2 =>
    intro p1 p2 M v M'   h
    refine oe_iload_n (pc := 2) d_X10_readNumbers_2 rfl ?_
    refine oe_aload_n (pc := 3) d_X10_readNumbers_3 rfl ?_
    refine oe_getr (pc := 4) d_X10_readNumbers_4 fl_X10_17 ock10 (k := 1) (b := 19) (Nat.le_of_ble_eq_true rfl) (by decide) (oLt hK (a := 17) (Nat.le_of_ble_eq_true rfl)) (oSho hK (a := 17) (Nat.le_of_ble_eq_true rfl) rfl) (oRfK hK rfl) ?_
    refine oe_alenI (pc := 7) d_X10_readNumbers_7 (oLt hK (a := 19) (Nat.le_of_ble_eq_true rfl)) (oSha hK (a := 19) (Nat.le_of_ble_eq_true rfl) rfl) rfl ?_
    refine oe_icmp_ge (pc := 8) (tgt := 79) d_X10_readNumbers_8 (by decide) (fun c1 => ?_) (fun c1 => ?_)
    · replace h := (if_pos c1).symm.trans h
      refine oe_iconst (pc := 79) (v := (-1)) d_X10_readNumbers_79 rfl ?_
      obtain ⟨rfl, rfl⟩ := oRes h
      exact oe_iret (pc := 80) d_X10_readNumbers_80 ⟨_, rfl, rfl⟩
    · replace h := (if_neg c1).symm.trans h
      refine oe_aload_n (pc := 11) d_X10_readNumbers_11 rfl ?_
      refine oe_iload_n (pc := 12) d_X10_readNumbers_12 rfl ?_
      refine oe_iload_n (pc := 13) d_X10_readNumbers_13 rfl ?_
      obtain ⟨v2, M3, q4, h⟩ := oB2_some h
      cases v2 with
      | true =>
        replace h := oCt h
        refine oe_callV (pc := 14) (ci := 10) d_X10_readNumbers_14 (v_X10_readNumber hK  q4) (by omega) ml_X10_46 jJ_X10_readNumber rfl rfl (oLt hK (a := 17) (Nat.le_of_ble_eq_true rfl)) (oSho hK (a := 17) (Nat.le_of_ble_eq_true rfl) rfl) ock10 rfl (Nat.le_of_ble_eq_true rfl) ⟨Nat.le_refl _, Nat.le_refl _⟩ ⟨Nat.le_refl _, Nat.le_refl _⟩ ?_
        refine oe_if_ne (pc := 17) (tgt := 22) d_X10_readNumbers_17 (by decide) (fun _ => ?_) (fun c => absurd c (by decide))
        refine oe_aload_n (pc := 22) d_X10_readNumbers_22 rfl ?_
        refine oe_getf (pc := 23) d_X10_readNumbers_23 fl_X10_36 ock10 (k := 3) (Nat.le_of_ble_eq_true rfl) rfl (oLt hK (a := 17) (Nat.le_of_ble_eq_true rfl)) (oSho hK (a := 17) (Nat.le_of_ble_eq_true rfl) rfl) ?_
        refine oe_aload_n (pc := 26) d_X10_readNumbers_26 rfl ?_
        refine oe_getf (pc := 27) d_X10_readNumbers_27 fl_X10_21 ock10 (k := 2) (Nat.le_of_ble_eq_true rfl) rfl (oLt hK (a := 17) (Nat.le_of_ble_eq_true rfl)) (oSho hK (a := 17) (Nat.le_of_ble_eq_true rfl) rfl) ?_
        refine oe_icmp_lt (pc := 30) (tgt := 37) d_X10_readNumbers_30 (by decide) (fun c5 => ?_) (fun c5 => ?_)
        · replace h := (if_pos c5).symm.trans h
          refine oe_aload_n (pc := 37) d_X10_readNumbers_37 rfl ?_
          refine oe_aload_n (pc := 38) d_X10_readNumbers_38 rfl ?_
          refine oe_getf (pc := 39) d_X10_readNumbers_39 fl_X10_36 ock10 (k := 3) (Nat.le_of_ble_eq_true rfl) rfl (oLt hK (a := 17) (Nat.le_of_ble_eq_true rfl)) (oSho hK (a := 17) (Nat.le_of_ble_eq_true rfl) rfl) ?_
          obtain ⟨v6, M7, q8, h⟩ := oB2_some h
          refine oe_callV (pc := 42) (ci := 10) d_X10_readNumbers_42 (v_X10_byteAt hK  q8) (by omega) ml_X10_43 jJ_X10_byteAt rfl rfl (oLt hK (a := 17) (Nat.le_of_ble_eq_true rfl)) (oSho hK (a := 17) (Nat.le_of_ble_eq_true rfl) rfl) ock10 rfl (Nat.le_of_ble_eq_true rfl) ⟨Nat.le_refl _, Nat.le_refl _⟩ ⟨Nat.le_refl _, Nat.le_refl _⟩ ?_
          refine oe_bipush (pc := 45) (v := 44) d_X10_readNumbers_45 rfl ?_
          refine oe_icmp_ne (pc := 47) (tgt := 61) d_X10_readNumbers_47 (by decide) (fun c9 => ?_) (fun c9 => ?_)
          · replace h := (if_neg c9).symm.trans h
            refine oe_iconst (pc := 61) (v := (-1)) d_X10_readNumbers_61 rfl ?_
            obtain ⟨rfl, rfl⟩ := oRes h
            exact oe_iret (pc := 62) d_X10_readNumbers_62 ⟨_, rfl, rfl⟩
          · replace h := (if_pos c9).symm.trans h
            refine oe_iload_n (pc := 50) d_X10_readNumbers_50 rfl ?_
            refine oe_aload_n (pc := 51) d_X10_readNumbers_51 rfl ?_
            refine oe_getr (pc := 52) d_X10_readNumbers_52 fl_X10_17 ock10 (k := 1) (b := 19) (Nat.le_of_ble_eq_true rfl) (by decide) (oLt hK (a := 17) (Nat.le_of_ble_eq_true rfl)) (oSho hK (a := 17) (Nat.le_of_ble_eq_true rfl) rfl) (oRfK hK rfl) ?_
            refine oe_alenI (pc := 55) d_X10_readNumbers_55 (oLt hK (a := 19) (Nat.le_of_ble_eq_true rfl)) (oSha hK (a := 19) (Nat.le_of_ble_eq_true rfl) rfl) rfl ?_
            refine oe_iconst (pc := 56) (v := 1) d_X10_readNumbers_56 rfl ?_
            refine oe_isub (pc := 57) d_X10_readNumbers_57 ?_
            refine oe_icmp_ne (pc := 58) (tgt := 63) d_X10_readNumbers_58 (by decide) (fun c10 => ?_) (fun c10 => ?_)
            · replace h := (if_neg c10).symm.trans h
              refine oe_aload_n (pc := 63) d_X10_readNumbers_63 rfl ?_
              refine oe_dup (pc := 64) d_X10_readNumbers_64 rfl ?_
              refine oe_getf (pc := 65) d_X10_readNumbers_65 fl_X10_36 ock10 (k := 3) (Nat.le_of_ble_eq_true rfl) rfl (oLt hK (a := 17) (Nat.le_of_ble_eq_true rfl)) (oSho hK (a := 17) (Nat.le_of_ble_eq_true rfl) rfl) ?_
              refine oe_iconst (pc := 68) (v := 1) d_X10_readNumbers_68 rfl ?_
              refine oe_iadd (pc := 69) d_X10_readNumbers_69 ?_
              refine oe_putf (pc := 70) d_X10_readNumbers_70 fl_X10_36 ock10 (k := 3) (Nat.le_of_ble_eq_true rfl) rfl rfl (oLt hK (a := 17) (Nat.le_of_ble_eq_true rfl)) (oSho hK (a := 17) (Nat.le_of_ble_eq_true rfl) rfl) ?_
              refine oe_iinc (pc := 73) (v := (p2 + 1)) (L2 := [_, _, _]) d_X10_readNumbers_73 rfl rfl rfl (Nat.le_of_ble_eq_true rfl) rfl ?_
              refine oe_goto (pc := 76) (tgt := 2) d_X10_readNumbers_76 (by decide) ?_
              exact hr2 _ _ _ _ _ h
            · replace h := (if_pos c10).symm.trans h
              refine oe_iconst (pc := 61) (v := (-1)) d_X10_readNumbers_61 rfl ?_
              obtain ⟨rfl, rfl⟩ := oRes h
              exact oe_iret (pc := 62) d_X10_readNumbers_62 ⟨_, rfl, rfl⟩
        · replace h := (if_neg c5).symm.trans h
          refine oe_iload_n (pc := 33) d_X10_readNumbers_33 rfl ?_
          refine oe_iconst (pc := 34) (v := 1) d_X10_readNumbers_34 rfl ?_
          refine oe_iadd (pc := 35) d_X10_readNumbers_35 ?_
          obtain ⟨rfl, rfl⟩ := oRes h
          exact oe_iret (pc := 36) d_X10_readNumbers_36 ⟨_, rfl, rfl⟩
      | false =>
        replace h := oCf h
        refine oe_callV (pc := 14) (ci := 10) d_X10_readNumbers_14 (v_X10_readNumber hK  q4) (by omega) ml_X10_46 jJ_X10_readNumber rfl rfl (oLt hK (a := 17) (Nat.le_of_ble_eq_true rfl)) (oSho hK (a := 17) (Nat.le_of_ble_eq_true rfl) rfl) ock10 rfl (Nat.le_of_ble_eq_true rfl) ⟨Nat.le_refl _, Nat.le_refl _⟩ ⟨Nat.le_refl _, Nat.le_refl _⟩ ?_
        refine oe_if_ne (pc := 17) (tgt := 22) d_X10_readNumbers_17 (by decide) (fun c => absurd (by decide) c) (fun _ => ?_)
        refine oe_iconst (pc := 20) (v := (-1)) d_X10_readNumbers_20 rfl ?_
        obtain ⟨rfl, rfl⟩ := oRes h
        exact oe_iret (pc := 21) d_X10_readNumbers_21 ⟨_, rfl, rfl⟩
theorem v_X10_readNumbers_2 {X : oX} {d N : Nat} {K : oK}  {p1 : Int32} {p2 : Int32} {M : oM} {v : Int32} {M' : oM}  (hd : 3 ≤ d) (hK : oSR K)   (h : f_X10_readNumbers_2 N K  N p1 p2 M = some (v, M')) : oEv X d J_X10_readNumbers 2 [some (.ref 17), some (.int p1), some (.int p2)] [] K M (some (.int v)) K M' := v_X10_readNumbers_2_L hd hK  N p1 p2 M v M'   h
def f_X10_readNumbers (N : Nat) (K : oK) (p1 : Int32) (M : oM) : Option (Int32 × oM) :=
  (f_X10_readNumbers_2 N K  N p1 0 M)
set_option maxRecDepth 20000 in
theorem v_X10_readNumbers {X : oX} {N : Nat} {K : oK} {p1 : Int32} {M : oM} {v : Int32} {M' : oM} (hK : oSR K)  (h : f_X10_readNumbers N K p1 M = some (v, M')) : oMet X 3 J_X10_readNumbers [(.ref 17), (.int p1)] K M (some (.int v)) K M' := by
  unfold f_X10_readNumbers at h
  refine oMet_of (L := [some (.ref 17), some (.int p1), none]) jJ_X10_readNumbers.1 rfl (Nat.le_of_ble_eq_true rfl) rfl (Nat.le_refl _) (Nat.le_refl _) ?_
  have hd : 3 ≤ 3 := Nat.le_refl _
  refine oe_iconst (pc := 0) (v := 0) d_X10_readNumbers_0 rfl ?_
  refine oe_istore_n (pc := 1) (L2 := [_, _, _]) d_X10_readNumbers_1 rfl rfl (Nat.le_of_ble_eq_true rfl) rfl ?_
  exact v_X10_readNumbers_2 hd hK   h
theorem d_X10_readInto_0 : decode J_X10_readInto.2.1 0 = .ok (.aload_n 0, 1) := by decide +kernel
theorem d_X10_readInto_1 : decode J_X10_readInto.2.1 1 = .ok (.aload_n 1, 1) := by decide +kernel
theorem d_X10_readInto_2 : decode J_X10_readInto.2.1 2 = .ok (.getfield 25, 3) := by decide +kernel
theorem d_X10_readInto_5 : decode J_X10_readInto.2.1 5 = .ok (.invokevirtual 28, 3) := by decide +kernel
theorem d_X10_readInto_8 : decode J_X10_readInto.2.1 8 = .ok (.istore_n 2, 1) := by decide +kernel
theorem d_X10_readInto_9 : decode J_X10_readInto.2.1 9 = .ok (.iload_n 2, 1) := by decide +kernel
theorem d_X10_readInto_10 : decode J_X10_readInto.2.1 10 = .ok (.ifCond .ge 7, 3) := by decide +kernel
theorem d_X10_readInto_13 : decode J_X10_readInto.2.1 13 = .ok (.iconst (-1), 1) := by decide +kernel
theorem d_X10_readInto_14 : decode J_X10_readInto.2.1 14 = .ok (.goto 17, 3) := by decide +kernel
theorem d_X10_readInto_17 : decode J_X10_readInto.2.1 17 = .ok (.aload_n 0, 1) := by decide +kernel
theorem d_X10_readInto_18 : decode J_X10_readInto.2.1 18 = .ok (.iload_n 2, 1) := by decide +kernel
theorem d_X10_readInto_19 : decode J_X10_readInto.2.1 19 = .ok (.iconst 3, 1) := by decide +kernel
theorem d_X10_readInto_20 : decode J_X10_readInto.2.1 20 = .ok (.if_icmp .ge 7, 3) := by decide +kernel
theorem d_X10_readInto_23 : decode J_X10_readInto.2.1 23 = .ok (.iconst 1, 1) := by decide +kernel
theorem d_X10_readInto_24 : decode J_X10_readInto.2.1 24 = .ok (.goto 4, 3) := by decide +kernel
theorem d_X10_readInto_27 : decode J_X10_readInto.2.1 27 = .ok (.iconst 0, 1) := by decide +kernel
theorem d_X10_readInto_28 : decode J_X10_readInto.2.1 28 = .ok (.invokevirtual 32, 3) := by decide +kernel
theorem d_X10_readInto_31 : decode J_X10_readInto.2.1 31 = .ok (.istore_n 3, 1) := by decide +kernel
theorem d_X10_readInto_32 : decode J_X10_readInto.2.1 32 = .ok (.aload_n 0, 1) := by decide +kernel
theorem d_X10_readInto_33 : decode J_X10_readInto.2.1 33 = .ok (.iconst 0, 1) := by decide +kernel
theorem d_X10_readInto_34 : decode J_X10_readInto.2.1 34 = .ok (.putfield 21, 3) := by decide +kernel
theorem d_X10_readInto_37 : decode J_X10_readInto.2.1 37 = .ok (.iload_n 3, 1) := by decide +kernel
theorem d_X10_readInto_38 : decode J_X10_readInto.2.1 38 = .ok (.ifCond .ge 11, 3) := by decide +kernel
theorem d_X10_readInto_41 : decode J_X10_readInto.2.1 41 = .ok (.bipush (-100), 2) := by decide +kernel
theorem d_X10_readInto_43 : decode J_X10_readInto.2.1 43 = .ok (.aload_n 0, 1) := by decide +kernel
theorem d_X10_readInto_44 : decode J_X10_readInto.2.1 44 = .ok (.getfield 36, 3) := by decide +kernel
theorem d_X10_readInto_47 : decode J_X10_readInto.2.1 47 = .ok (.isub, 1) := by decide +kernel
theorem d_X10_readInto_48 : decode J_X10_readInto.2.1 48 = .ok (.ireturn, 1) := by decide +kernel
theorem d_X10_readInto_49 : decode J_X10_readInto.2.1 49 = .ok (.aload_n 1, 1) := by decide +kernel
theorem d_X10_readInto_50 : decode J_X10_readInto.2.1 50 = .ok (.iload_n 2, 1) := by decide +kernel
theorem d_X10_readInto_51 : decode J_X10_readInto.2.1 51 = .ok (.aload_n 0, 1) := by decide +kernel
theorem d_X10_readInto_52 : decode J_X10_readInto.2.1 52 = .ok (.getfield 17, 3) := by decide +kernel
theorem d_X10_readInto_55 : decode J_X10_readInto.2.1 55 = .ok (.iload_n 3, 1) := by decide +kernel
theorem d_X10_readInto_56 : decode J_X10_readInto.2.1 56 = .ok (.invokevirtual 39, 3) := by decide +kernel
theorem d_X10_readInto_59 : decode J_X10_readInto.2.1 59 = .ok (.iload_n 3, 1) := by decide +kernel
theorem d_X10_readInto_60 : decode J_X10_readInto.2.1 60 = .ok (.ireturn, 1) := by decide +kernel
def f_X10_readInto_31 (N : Nat) (K : oK)  (p2 : Int32) (s0 : Int32) (M : oM) : Option (Int32 × oM) :=
  (if 0 ≤ s0 then oB2 (f_X3_tellTable N K p2 s0 (oUp M 17 2 (0 : Int32))) (fun v10 M11 => some (s0, M11)) else some ((((-100) : Int32) - ((oUp M 17 2 (0 : Int32)).1 17 3)), (oUp M 17 2 (0 : Int32))))
set_option maxRecDepth 20000 in
theorem v_X10_readInto_31 {X : oX} {d N : Nat} {K : oK}  {p2 : Int32} {s0 : Int32} {M : oM} {v : Int32} {M' : oM}  (hd : 4 ≤ d) (hK : oSR K)   (h : f_X10_readInto_31 N K  p2 s0 M = some (v, M')) : oEv X d J_X10_readInto 31 [some (.ref 17), some (.ref 11), some (.int p2), none] [(.int s0)] K M (some (.int v)) K M' := by
  unfold f_X10_readInto_31 at h
  refine oe_istore_n (pc := 31) (L2 := [_, _, _, _]) d_X10_readInto_31 rfl rfl (Nat.le_of_ble_eq_true rfl) rfl ?_
  refine oe_aload_n (pc := 32) d_X10_readInto_32 rfl ?_
  refine oe_iconst (pc := 33) (v := 0) d_X10_readInto_33 rfl ?_
  refine oe_putf (pc := 34) d_X10_readInto_34 fl_X10_21 ock10 (k := 2) (Nat.le_of_ble_eq_true rfl) rfl rfl (oLt hK (a := 17) (Nat.le_of_ble_eq_true rfl)) (oSho hK (a := 17) (Nat.le_of_ble_eq_true rfl) rfl) ?_
  refine oe_iload_n (pc := 37) d_X10_readInto_37 rfl ?_
  refine oe_if_ge (pc := 38) (tgt := 49) d_X10_readInto_38 (by decide) (fun c9 => ?_) (fun c9 => ?_)
  · replace h := (if_pos c9).symm.trans h
    refine oe_aload_n (pc := 49) d_X10_readInto_49 rfl ?_
    refine oe_iload_n (pc := 50) d_X10_readInto_50 rfl ?_
    refine oe_aload_n (pc := 51) d_X10_readInto_51 rfl ?_
    refine oe_getr (pc := 52) d_X10_readInto_52 fl_X10_17 ock10 (k := 1) (b := 19) (Nat.le_of_ble_eq_true rfl) (by decide) (oLt hK (a := 17) (Nat.le_of_ble_eq_true rfl)) (oSho hK (a := 17) (Nat.le_of_ble_eq_true rfl) rfl) (oRfK hK rfl) ?_
    refine oe_iload_n (pc := 55) d_X10_readInto_55 rfl ?_
    obtain ⟨v10, M11, q12, h⟩ := oB2_some h
    refine oe_callV (pc := 56) (ci := 3) d_X10_readInto_56 (v_X3_tellTable hK  q12) (by omega) ml_X10_39 jJ_X3_tellTable rfl rfl (oLt hK (a := 11) (Nat.le_of_ble_eq_true rfl)) (oSho hK (a := 11) (Nat.le_of_ble_eq_true rfl) rfl) ock3 rfl (Nat.le_of_ble_eq_true rfl) ⟨Nat.le_refl _, Nat.le_refl _⟩ ⟨Nat.le_refl _, Nat.le_refl _⟩ ?_
    refine oe_iload_n (pc := 59) d_X10_readInto_59 rfl ?_
    obtain ⟨rfl, rfl⟩ := oRes h
    exact oe_iret (pc := 60) d_X10_readInto_60 ⟨_, rfl, rfl⟩
  · replace h := (if_neg c9).symm.trans h
    refine oe_bipush (pc := 41) (v := (-100)) d_X10_readInto_41 rfl ?_
    refine oe_aload_n (pc := 43) d_X10_readInto_43 rfl ?_
    refine oe_getf (pc := 44) d_X10_readInto_44 fl_X10_36 ock10 (k := 3) (Nat.le_of_ble_eq_true rfl) rfl (oLt hK (a := 17) (Nat.le_of_ble_eq_true rfl)) (oSho hK (a := 17) (Nat.le_of_ble_eq_true rfl) rfl) ?_
    refine oe_isub (pc := 47) d_X10_readInto_47 ?_
    obtain ⟨rfl, rfl⟩ := oRes h
    exact oe_iret (pc := 48) d_X10_readInto_48 ⟨_, rfl, rfl⟩
def f_X10_readInto_28 (N : Nat) (K : oK)  (p2 : Int32) (s0 : Int32) (M : oM) : Option (Int32 × oM) :=
  oB2 (f_X10_readNumbers N K s0 M) (fun v6 M7 => (f_X10_readInto_31 N K  p2 v6 M7))
set_option maxRecDepth 20000 in
theorem v_X10_readInto_28 {X : oX} {d N : Nat} {K : oK}  {p2 : Int32} {s0 : Int32} {M : oM} {v : Int32} {M' : oM}  (hd : 4 ≤ d) (hK : oSR K)   (h : f_X10_readInto_28 N K  p2 s0 M = some (v, M')) : oEv X d J_X10_readInto 28 [some (.ref 17), some (.ref 11), some (.int p2), none] [(.int s0), (.ref 17)] K M (some (.int v)) K M' := by
  unfold f_X10_readInto_28 at h
  obtain ⟨v6, M7, q8, h⟩ := oB2_some h
  refine oe_callV (pc := 28) (ci := 10) d_X10_readInto_28 (v_X10_readNumbers hK  q8) (by omega) ml_X10_32 jJ_X10_readNumbers rfl rfl (oLt hK (a := 17) (Nat.le_of_ble_eq_true rfl)) (oSho hK (a := 17) (Nat.le_of_ble_eq_true rfl) rfl) ock10 rfl (Nat.le_of_ble_eq_true rfl) ⟨Nat.le_refl _, Nat.le_refl _⟩ ⟨Nat.le_refl _, Nat.le_refl _⟩ ?_
  exact v_X10_readInto_31 hd hK   h
def f_X10_readInto (N : Nat) (K : oK)  (M : oM) : Option (Int32 × oM) :=
  oB2 (f_X10_readHead N K (M.1 11 6) M) (fun v1 M2 => (if 0 ≤ v1 then (if 3 ≤ v1 then (f_X10_readInto_28 N K  v1 0 M2) else (f_X10_readInto_28 N K  v1 1 M2)) else (f_X10_readInto_31 N K  v1 (-1) M2)))
set_option maxRecDepth 20000 in
theorem v_X10_readInto {X : oX} {N : Nat} {K : oK}  {M : oM} {v : Int32} {M' : oM} (hK : oSR K)  (h : f_X10_readInto N K  M = some (v, M')) : oMet X 4 J_X10_readInto [(.ref 17), (.ref 11)] K M (some (.int v)) K M' := by
  unfold f_X10_readInto at h
  refine oMet_of (L := [some (.ref 17), some (.ref 11), none, none]) jJ_X10_readInto.1 rfl (Nat.le_of_ble_eq_true rfl) rfl (Nat.le_refl _) (Nat.le_refl _) ?_
  have hd : 4 ≤ 4 := Nat.le_refl _
  refine oe_aload_n (pc := 0) d_X10_readInto_0 rfl ?_
  refine oe_aload_n (pc := 1) d_X10_readInto_1 rfl ?_
  refine oe_getf (pc := 2) d_X10_readInto_2 fl_X10_25 ock3 (k := 6) (Nat.le_of_ble_eq_true rfl) rfl (oLt hK (a := 11) (Nat.le_of_ble_eq_true rfl)) (oSho hK (a := 11) (Nat.le_of_ble_eq_true rfl) rfl) ?_
  obtain ⟨v1, M2, q3, h⟩ := oB2_some h
  refine oe_callV (pc := 5) (ci := 10) d_X10_readInto_5 (v_X10_readHead hK  q3) (by omega) ml_X10_28 jJ_X10_readHead rfl rfl (oLt hK (a := 17) (Nat.le_of_ble_eq_true rfl)) (oSho hK (a := 17) (Nat.le_of_ble_eq_true rfl) rfl) ock10 rfl (Nat.le_of_ble_eq_true rfl) ⟨Nat.le_refl _, Nat.le_refl _⟩ ⟨Nat.le_refl _, Nat.le_refl _⟩ ?_
  refine oe_istore_n (pc := 8) (L2 := [_, _, _, _]) d_X10_readInto_8 rfl rfl (Nat.le_of_ble_eq_true rfl) rfl ?_
  refine oe_iload_n (pc := 9) d_X10_readInto_9 rfl ?_
  refine oe_if_ge (pc := 10) (tgt := 17) d_X10_readInto_10 (by decide) (fun c4 => ?_) (fun c4 => ?_)
  · replace h := (if_pos c4).symm.trans h
    refine oe_aload_n (pc := 17) d_X10_readInto_17 rfl ?_
    refine oe_iload_n (pc := 18) d_X10_readInto_18 rfl ?_
    refine oe_iconst (pc := 19) (v := 3) d_X10_readInto_19 rfl ?_
    refine oe_icmp_ge (pc := 20) (tgt := 27) d_X10_readInto_20 (by decide) (fun c5 => ?_) (fun c5 => ?_)
    · replace h := (if_pos c5).symm.trans h
      refine oe_iconst (pc := 27) (v := 0) d_X10_readInto_27 rfl ?_
      exact v_X10_readInto_28 hd hK   h
    · replace h := (if_neg c5).symm.trans h
      refine oe_iconst (pc := 23) (v := 1) d_X10_readInto_23 rfl ?_
      refine oe_goto (pc := 24) (tgt := 28) d_X10_readInto_24 (by decide) ?_
      exact v_X10_readInto_28 hd hK   h
  · replace h := (if_neg c4).symm.trans h
    refine oe_iconst (pc := 13) (v := (-1)) d_X10_readInto_13 rfl ?_
    refine oe_goto (pc := 14) (tgt := 31) d_X10_readInto_14 (by decide) ?_
    exact v_X10_readInto_31 hd hK   h
theorem d_X11_within_0 : decode J_X11_within.2.1 0 = .ok (.iload_n 0, 1) := by decide +kernel
theorem d_X11_within_1 : decode J_X11_within.2.1 1 = .ok (.iload_n 1, 1) := by decide +kernel
theorem d_X11_within_2 : decode J_X11_within.2.1 2 = .ok (.if_icmp .lt 12, 3) := by decide +kernel
theorem d_X11_within_5 : decode J_X11_within.2.1 5 = .ok (.iload_n 0, 1) := by decide +kernel
theorem d_X11_within_6 : decode J_X11_within.2.1 6 = .ok (.iload_n 2, 1) := by decide +kernel
theorem d_X11_within_7 : decode J_X11_within.2.1 7 = .ok (.if_icmp .gt 7, 3) := by decide +kernel
theorem d_X11_within_10 : decode J_X11_within.2.1 10 = .ok (.iconst 1, 1) := by decide +kernel
theorem d_X11_within_11 : decode J_X11_within.2.1 11 = .ok (.goto 4, 3) := by decide +kernel
theorem d_X11_within_14 : decode J_X11_within.2.1 14 = .ok (.iconst 0, 1) := by decide +kernel
theorem d_X11_within_15 : decode J_X11_within.2.1 15 = .ok (.ireturn, 1) := by decide +kernel
def f_X11_within (N : Nat) (K : oK) (p0 : Int32) (p1 : Int32) (p2 : Int32) (M : oM) : Option (Bool × oM) :=
  (if p0 < p1 then some (false, M) else (if p2 < p0 then some (false, M) else some (true, M)))
set_option maxRecDepth 20000 in
theorem v_X11_within {X : oX} {N : Nat} {K : oK} {p0 : Int32} {p1 : Int32} {p2 : Int32} {M : oM} {v : Bool} {M' : oM} (hK : oSR K)  (h : f_X11_within N K p0 p1 p2 M = some (v, M')) : oMet X 1 J_X11_within [(.int p0), (.int p1), (.int p2)] K M (some (.int (oBi v))) K M' := by
  unfold f_X11_within at h
  refine oMet_of (L := [some (.int p0), some (.int p1), some (.int p2)]) jJ_X11_within.1 rfl (Nat.le_of_ble_eq_true rfl) rfl (Nat.le_refl _) (Nat.le_refl _) ?_
  have hd : 1 ≤ 1 := Nat.le_refl _
  refine oe_iload_n (pc := 0) d_X11_within_0 rfl ?_
  refine oe_iload_n (pc := 1) d_X11_within_1 rfl ?_
  refine oe_icmp_lt (pc := 2) (tgt := 14) d_X11_within_2 (by decide) (fun c1 => ?_) (fun c1 => ?_)
  · replace h := (if_pos c1).symm.trans h
    refine oe_iconst (pc := 14) (v := 0) d_X11_within_14 rfl ?_
    obtain ⟨rfl, rfl⟩ := oRes h
    exact oe_iret (pc := 15) d_X11_within_15 ⟨_, rfl, rfl⟩
  · replace h := (if_neg c1).symm.trans h
    refine oe_iload_n (pc := 5) d_X11_within_5 rfl ?_
    refine oe_iload_n (pc := 6) d_X11_within_6 rfl ?_
    refine oe_icmp_gt (pc := 7) (tgt := 14) d_X11_within_7 (by decide) (fun c2 => ?_) (fun c2 => ?_)
    · replace h := (if_pos c2).symm.trans h
      refine oe_iconst (pc := 14) (v := 0) d_X11_within_14 rfl ?_
      obtain ⟨rfl, rfl⟩ := oRes h
      exact oe_iret (pc := 15) d_X11_within_15 ⟨_, rfl, rfl⟩
    · replace h := (if_neg c2).symm.trans h
      refine oe_iconst (pc := 10) (v := 1) d_X11_within_10 rfl ?_
      refine oe_goto (pc := 11) (tgt := 15) d_X11_within_11 (by decide) ?_
      obtain ⟨rfl, rfl⟩ := oRes h
      exact oe_iret (pc := 15) d_X11_within_15 ⟨_, rfl, rfl⟩
theorem d_X11_point_0 : decode J_X11_point.2.1 0 = .ok (.iload_n 1, 1) := by decide +kernel
theorem d_X11_point_1 : decode J_X11_point.2.1 1 = .ok (.iconst 0, 1) := by decide +kernel
theorem d_X11_point_2 : decode J_X11_point.2.1 2 = .ok (.sipush 999, 3) := by decide +kernel
theorem d_X11_point_5 : decode J_X11_point.2.1 5 = .ok (.invokestatic 89, 3) := by decide +kernel
theorem d_X11_point_8 : decode J_X11_point.2.1 8 = .ok (.ifCond .eq 14, 3) := by decide +kernel
theorem d_X11_point_11 : decode J_X11_point.2.1 11 = .ok (.aload_n 0, 1) := by decide +kernel
theorem d_X11_point_12 : decode J_X11_point.2.1 12 = .ok (.getfield 21, 3) := by decide +kernel
theorem d_X11_point_15 : decode J_X11_point.2.1 15 = .ok (.iload_n 1, 1) := by decide +kernel
theorem d_X11_point_16 : decode J_X11_point.2.1 16 = .ok (.invokevirtual 93, 3) := by decide +kernel
theorem d_X11_point_19 : decode J_X11_point.2.1 19 = .ok (.goto 4, 3) := by decide +kernel
theorem d_X11_point_22 : decode J_X11_point.2.1 22 = .ok (.iconst (-1), 1) := by decide +kernel
theorem d_X11_point_23 : decode J_X11_point.2.1 23 = .ok (.ireturn, 1) := by decide +kernel
def f_X11_point (N : Nat) (K : oK) (p1 : Int32) (M : oM) : Option (Int32 × oM) :=
  oB2 (f_X11_within N K p1 (0 : Int32) (999 : Int32) M) (fun v1 M2 => cond v1 (oB2 (f_X4_addPoint N K p1 M2) (fun v4 M5 => some (v4, M5))) (some ((-1), M2)))
set_option maxRecDepth 20000 in
theorem v_X11_point {X : oX} {N : Nat} {K : oK} {p1 : Int32} {M : oM} {v : Int32} {M' : oM} (hK : oSR K)  (h : f_X11_point N K p1 M = some (v, M')) : oMet X 3 J_X11_point [(.ref 0), (.int p1)] K M (some (.int v)) K M' := by
  unfold f_X11_point at h
  refine oMet_of (L := [some (.ref 0), some (.int p1)]) jJ_X11_point.1 rfl (Nat.le_of_ble_eq_true rfl) rfl (Nat.le_refl _) (Nat.le_refl _) ?_
  have hd : 3 ≤ 3 := Nat.le_refl _
  refine oe_iload_n (pc := 0) d_X11_point_0 rfl ?_
  refine oe_iconst (pc := 1) (v := 0) d_X11_point_1 rfl ?_
  refine oe_sipush (pc := 2) (v := 999) d_X11_point_2 rfl ?_
  obtain ⟨v1, M2, q3, h⟩ := oB2_some h
  cases v1 with
  | true =>
    replace h := oCt h
    refine oe_callS (pc := 5) d_X11_point_5 (v_X11_within hK  q3) (by omega) ml_X11_89 jJ_X11_within rfl rfl (Nat.le_of_ble_eq_true rfl) ⟨Nat.le_refl _, Nat.le_refl _⟩ ⟨Nat.le_refl _, Nat.le_refl _⟩ ?_
    refine oe_if_eq (pc := 8) (tgt := 22) d_X11_point_8 (by decide) (fun c => absurd c (by decide)) (fun _ => ?_)
    refine oe_aload_n (pc := 11) d_X11_point_11 rfl ?_
    refine oe_getr (pc := 12) d_X11_point_12 fl_X11_21 ock11 (k := 1) (b := 6) (Nat.le_of_ble_eq_true rfl) (by decide) (oLt hK (a := 0) (Nat.le_of_ble_eq_true rfl)) (oSho hK (a := 0) (Nat.le_of_ble_eq_true rfl) rfl) (oRfK hK rfl) ?_
    refine oe_iload_n (pc := 15) d_X11_point_15 rfl ?_
    obtain ⟨v4, M5, q6, h⟩ := oB2_some h
    refine oe_callV (pc := 16) (ci := 4) d_X11_point_16 (v_X4_addPoint hK  q6) (by omega) ml_X11_93 jJ_X4_addPoint rfl rfl (oLt hK (a := 6) (Nat.le_of_ble_eq_true rfl)) (oSho hK (a := 6) (Nat.le_of_ble_eq_true rfl) rfl) ock4 rfl (Nat.le_of_ble_eq_true rfl) ⟨Nat.le_refl _, Nat.le_refl _⟩ ⟨Nat.le_refl _, Nat.le_refl _⟩ ?_
    refine oe_goto (pc := 19) (tgt := 23) d_X11_point_19 (by decide) ?_
    obtain ⟨rfl, rfl⟩ := oRes h
    exact oe_iret (pc := 23) d_X11_point_23 ⟨_, rfl, rfl⟩
  | false =>
    replace h := oCf h
    refine oe_callS (pc := 5) d_X11_point_5 (v_X11_within hK  q3) (by omega) ml_X11_89 jJ_X11_within rfl rfl (Nat.le_of_ble_eq_true rfl) ⟨Nat.le_refl _, Nat.le_refl _⟩ ⟨Nat.le_refl _, Nat.le_refl _⟩ ?_
    refine oe_if_eq (pc := 8) (tgt := 22) d_X11_point_8 (by decide) (fun _ => ?_) (fun c => absurd (by decide) c)
    refine oe_iconst (pc := 22) (v := (-1)) d_X11_point_22 rfl ?_
    obtain ⟨rfl, rfl⟩ := oRes h
    exact oe_iret (pc := 23) d_X11_point_23 ⟨_, rfl, rfl⟩
theorem d_X11_height_0 : decode J_X11_height.2.1 0 = .ok (.aload_n 0, 1) := by decide +kernel
theorem d_X11_height_1 : decode J_X11_height.2.1 1 = .ok (.getfield 21, 3) := by decide +kernel
theorem d_X11_height_4 : decode J_X11_height.2.1 4 = .ok (.iload_n 1, 1) := by decide +kernel
theorem d_X11_height_5 : decode J_X11_height.2.1 5 = .ok (.invokevirtual 97, 3) := by decide +kernel
theorem d_X11_height_8 : decode J_X11_height.2.1 8 = .ok (.ifCond .eq 14, 3) := by decide +kernel
theorem d_X11_height_11 : decode J_X11_height.2.1 11 = .ok (.iload_n 2, 1) := by decide +kernel
theorem d_X11_height_12 : decode J_X11_height.2.1 12 = .ok (.iconst 0, 1) := by decide +kernel
theorem d_X11_height_13 : decode J_X11_height.2.1 13 = .ok (.sipush 999, 3) := by decide +kernel
theorem d_X11_height_16 : decode J_X11_height.2.1 16 = .ok (.invokestatic 89, 3) := by decide +kernel
theorem d_X11_height_19 : decode J_X11_height.2.1 19 = .ok (.ifCond .ne 5, 3) := by decide +kernel
theorem d_X11_height_22 : decode J_X11_height.2.1 22 = .ok (.iconst (-1), 1) := by decide +kernel
theorem d_X11_height_23 : decode J_X11_height.2.1 23 = .ok (.ireturn, 1) := by decide +kernel
theorem d_X11_height_24 : decode J_X11_height.2.1 24 = .ok (.aload_n 0, 1) := by decide +kernel
theorem d_X11_height_25 : decode J_X11_height.2.1 25 = .ok (.getfield 10, 3) := by decide +kernel
theorem d_X11_height_28 : decode J_X11_height.2.1 28 = .ok (.bipush 9, 2) := by decide +kernel
theorem d_X11_height_30 : decode J_X11_height.2.1 30 = .ok (.iload_n 1, 1) := by decide +kernel
theorem d_X11_height_31 : decode J_X11_height.2.1 31 = .ok (.iadd, 1) := by decide +kernel
theorem d_X11_height_32 : decode J_X11_height.2.1 32 = .ok (.iload_n 2, 1) := by decide +kernel
theorem d_X11_height_33 : decode J_X11_height.2.1 33 = .ok (.invokevirtual 101, 3) := by decide +kernel
theorem d_X11_height_36 : decode J_X11_height.2.1 36 = .ok (.ireturn, 1) := by decide +kernel
def f_X11_height (N : Nat) (K : oK) (p1 : Int32) (p2 : Int32) (M : oM) : Option (Int32 × oM) :=
  oB2 (f_X4_isPoint N K p1 M) (fun v1 M2 => cond v1 (oB2 (f_X11_within N K p2 (0 : Int32) (999 : Int32) M2) (fun v4 M5 => cond v4 (oB2 (f_X8_become N K ((9 : Int32) + p1) p2 M5) (fun v7 M8 => some (v7, M8))) (some ((-1), M5)))) (some ((-1), M2)))
set_option maxRecDepth 20000 in
theorem v_X11_height {X : oX} {N : Nat} {K : oK} {p1 : Int32} {p2 : Int32} {M : oM} {v : Int32} {M' : oM} (hK : oSR K)  (h : f_X11_height N K p1 p2 M = some (v, M')) : oMet X 4 J_X11_height [(.ref 0), (.int p1), (.int p2)] K M (some (.int v)) K M' := by
  unfold f_X11_height at h
  refine oMet_of (L := [some (.ref 0), some (.int p1), some (.int p2)]) jJ_X11_height.1 rfl (Nat.le_of_ble_eq_true rfl) rfl (Nat.le_refl _) (Nat.le_refl _) ?_
  have hd : 4 ≤ 4 := Nat.le_refl _
  refine oe_aload_n (pc := 0) d_X11_height_0 rfl ?_
  refine oe_getr (pc := 1) d_X11_height_1 fl_X11_21 ock11 (k := 1) (b := 6) (Nat.le_of_ble_eq_true rfl) (by decide) (oLt hK (a := 0) (Nat.le_of_ble_eq_true rfl)) (oSho hK (a := 0) (Nat.le_of_ble_eq_true rfl) rfl) (oRfK hK rfl) ?_
  refine oe_iload_n (pc := 4) d_X11_height_4 rfl ?_
  obtain ⟨v1, M2, q3, h⟩ := oB2_some h
  cases v1 with
  | true =>
    replace h := oCt h
    refine oe_callV (pc := 5) (ci := 4) d_X11_height_5 (v_X4_isPoint hK  q3) (by omega) ml_X11_97 jJ_X4_isPoint rfl rfl (oLt hK (a := 6) (Nat.le_of_ble_eq_true rfl)) (oSho hK (a := 6) (Nat.le_of_ble_eq_true rfl) rfl) ock4 rfl (Nat.le_of_ble_eq_true rfl) ⟨Nat.le_refl _, Nat.le_refl _⟩ ⟨Nat.le_refl _, Nat.le_refl _⟩ ?_
    refine oe_if_eq (pc := 8) (tgt := 22) d_X11_height_8 (by decide) (fun c => absurd c (by decide)) (fun _ => ?_)
    refine oe_iload_n (pc := 11) d_X11_height_11 rfl ?_
    refine oe_iconst (pc := 12) (v := 0) d_X11_height_12 rfl ?_
    refine oe_sipush (pc := 13) (v := 999) d_X11_height_13 rfl ?_
    obtain ⟨v4, M5, q6, h⟩ := oB2_some h
    cases v4 with
    | true =>
      replace h := oCt h
      refine oe_callS (pc := 16) d_X11_height_16 (v_X11_within hK  q6) (by omega) ml_X11_89 jJ_X11_within rfl rfl (Nat.le_of_ble_eq_true rfl) ⟨Nat.le_refl _, Nat.le_refl _⟩ ⟨Nat.le_refl _, Nat.le_refl _⟩ ?_
      refine oe_if_ne (pc := 19) (tgt := 24) d_X11_height_19 (by decide) (fun _ => ?_) (fun c => absurd c (by decide))
      refine oe_aload_n (pc := 24) d_X11_height_24 rfl ?_
      refine oe_getr (pc := 25) d_X11_height_25 fl_X11_10 ock11 (k := 0) (b := 1) (Nat.le_of_ble_eq_true rfl) (by decide) (oLt hK (a := 0) (Nat.le_of_ble_eq_true rfl)) (oSho hK (a := 0) (Nat.le_of_ble_eq_true rfl) rfl) (oRfK hK rfl) ?_
      refine oe_bipush (pc := 28) (v := 9) d_X11_height_28 rfl ?_
      refine oe_iload_n (pc := 30) d_X11_height_30 rfl ?_
      refine oe_iadd (pc := 31) d_X11_height_31 ?_
      refine oe_iload_n (pc := 32) d_X11_height_32 rfl ?_
      obtain ⟨v7, M8, q9, h⟩ := oB2_some h
      refine oe_callV (pc := 33) (ci := 8) d_X11_height_33 (v_X8_become hK  q9) (by omega) ml_X11_101 jJ_X8_become rfl rfl (oLt hK (a := 1) (Nat.le_of_ble_eq_true rfl)) (oSho hK (a := 1) (Nat.le_of_ble_eq_true rfl) rfl) ock8 rfl (Nat.le_of_ble_eq_true rfl) ⟨Nat.le_refl _, Nat.le_refl _⟩ ⟨Nat.le_refl _, Nat.le_refl _⟩ ?_
      obtain ⟨rfl, rfl⟩ := oRes h
      exact oe_iret (pc := 36) d_X11_height_36 ⟨_, rfl, rfl⟩
    | false =>
      replace h := oCf h
      refine oe_callS (pc := 16) d_X11_height_16 (v_X11_within hK  q6) (by omega) ml_X11_89 jJ_X11_within rfl rfl (Nat.le_of_ble_eq_true rfl) ⟨Nat.le_refl _, Nat.le_refl _⟩ ⟨Nat.le_refl _, Nat.le_refl _⟩ ?_
      refine oe_if_ne (pc := 19) (tgt := 24) d_X11_height_19 (by decide) (fun c => absurd (by decide) c) (fun _ => ?_)
      refine oe_iconst (pc := 22) (v := (-1)) d_X11_height_22 rfl ?_
      obtain ⟨rfl, rfl⟩ := oRes h
      exact oe_iret (pc := 23) d_X11_height_23 ⟨_, rfl, rfl⟩
  | false =>
    replace h := oCf h
    refine oe_callV (pc := 5) (ci := 4) d_X11_height_5 (v_X4_isPoint hK  q3) (by omega) ml_X11_97 jJ_X4_isPoint rfl rfl (oLt hK (a := 6) (Nat.le_of_ble_eq_true rfl)) (oSho hK (a := 6) (Nat.le_of_ble_eq_true rfl) rfl) ock4 rfl (Nat.le_of_ble_eq_true rfl) ⟨Nat.le_refl _, Nat.le_refl _⟩ ⟨Nat.le_refl _, Nat.le_refl _⟩ ?_
    refine oe_if_eq (pc := 8) (tgt := 22) d_X11_height_8 (by decide) (fun _ => ?_) (fun c => absurd (by decide) c)
    refine oe_iconst (pc := 22) (v := (-1)) d_X11_height_22 rfl ?_
    obtain ⟨rfl, rfl⟩ := oRes h
    exact oe_iret (pc := 23) d_X11_height_23 ⟨_, rfl, rfl⟩
