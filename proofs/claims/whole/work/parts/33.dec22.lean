/-! walked by program: X12_refusal, X12_asSort, X12_put, X12_element, X12_shift, X12_taken, X12_count -/
theorem d_X12_refusal_0 : decode J_X12_refusal.2.1 0 = .ok (.iload_n 1, 1) := by decide +kernel
theorem d_X12_refusal_1 : decode J_X12_refusal.2.1 1 = .ok (.invokestatic 237, 3) := by decide +kernel
theorem d_X12_refusal_4 : decode J_X12_refusal.2.1 4 = .ok (.ifCond .ne 5, 3) := by decide +kernel
theorem d_X12_refusal_7 : decode J_X12_refusal.2.1 7 = .ok (.iconst (-1), 1) := by decide +kernel
theorem d_X12_refusal_8 : decode J_X12_refusal.2.1 8 = .ok (.ireturn, 1) := by decide +kernel
theorem d_X12_refusal_9 : decode J_X12_refusal.2.1 9 = .ok (.aload_n 0, 1) := by decide +kernel
theorem d_X12_refusal_10 : decode J_X12_refusal.2.1 10 = .ok (.getfield 122, 3) := by decide +kernel
theorem d_X12_refusal_13 : decode J_X12_refusal.2.1 13 = .ok (.iload_n 1, 1) := by decide +kernel
theorem d_X12_refusal_14 : decode J_X12_refusal.2.1 14 = .ok (.iaload, 1) := by decide +kernel
theorem d_X12_refusal_15 : decode J_X12_refusal.2.1 15 = .ok (.ifCond .ge 6, 3) := by decide +kernel
theorem d_X12_refusal_18 : decode J_X12_refusal.2.1 18 = .ok (.bipush (-11), 2) := by decide +kernel
theorem d_X12_refusal_20 : decode J_X12_refusal.2.1 20 = .ok (.ireturn, 1) := by decide +kernel
theorem d_X12_refusal_21 : decode J_X12_refusal.2.1 21 = .ok (.aload_n 0, 1) := by decide +kernel
theorem d_X12_refusal_22 : decode J_X12_refusal.2.1 22 = .ok (.getfield 122, 3) := by decide +kernel
theorem d_X12_refusal_25 : decode J_X12_refusal.2.1 25 = .ok (.iload_n 1, 1) := by decide +kernel
theorem d_X12_refusal_26 : decode J_X12_refusal.2.1 26 = .ok (.iaload, 1) := by decide +kernel
theorem d_X12_refusal_27 : decode J_X12_refusal.2.1 27 = .ok (.bipush 20, 2) := by decide +kernel
theorem d_X12_refusal_29 : decode J_X12_refusal.2.1 29 = .ok (.if_icmp .ge 6, 3) := by decide +kernel
theorem d_X12_refusal_32 : decode J_X12_refusal.2.1 32 = .ok (.bipush (-12), 2) := by decide +kernel
theorem d_X12_refusal_34 : decode J_X12_refusal.2.1 34 = .ok (.ireturn, 1) := by decide +kernel
theorem d_X12_refusal_35 : decode J_X12_refusal.2.1 35 = .ok (.iload_n 2, 1) := by decide +kernel
theorem d_X12_refusal_36 : decode J_X12_refusal.2.1 36 = .ok (.ifCond .lt 17, 3) := by decide +kernel
theorem d_X12_refusal_39 : decode J_X12_refusal.2.1 39 = .ok (.iload_n 2, 1) := by decide +kernel
theorem d_X12_refusal_40 : decode J_X12_refusal.2.1 40 = .ok (.aload_n 0, 1) := by decide +kernel
theorem d_X12_refusal_41 : decode J_X12_refusal.2.1 41 = .ok (.getfield 125, 3) := by decide +kernel
theorem d_X12_refusal_44 : decode J_X12_refusal.2.1 44 = .ok (.iload_n 1, 1) := by decide +kernel
theorem d_X12_refusal_45 : decode J_X12_refusal.2.1 45 = .ok (.iaload, 1) := by decide +kernel
theorem d_X12_refusal_46 : decode J_X12_refusal.2.1 46 = .ok (.if_icmp .ge 7, 3) := by decide +kernel
theorem d_X12_refusal_49 : decode J_X12_refusal.2.1 49 = .ok (.iconst 0, 1) := by decide +kernel
theorem d_X12_refusal_50 : decode J_X12_refusal.2.1 50 = .ok (.goto 5, 3) := by decide +kernel
theorem d_X12_refusal_53 : decode J_X12_refusal.2.1 53 = .ok (.bipush (-13), 2) := by decide +kernel
theorem d_X12_refusal_55 : decode J_X12_refusal.2.1 55 = .ok (.ireturn, 1) := by decide +kernel
def f_X12_refusal (N : Nat) (K : oK) (p1 : Int32) (p2 : Int32) (M : oM) : Option (Int32 × oM) :=
  oB2 (f_X12_isShelf N K p1 M) (fun v1 M2 => cond v1 (oIx (p1) 6 ((if 0 ≤ (M2.1 97 (p1 : Int32).toNatClampNeg) then oIx (p1) 6 ((if 20 ≤ (M2.1 97 (p1 : Int32).toNatClampNeg) then (if p2 < 0 then some ((-13), M2) else oIx (p1) 6 ((if (M2.1 98 (p1 : Int32).toNatClampNeg) ≤ p2 then some ((-13), M2) else some (0, M2)))) else some ((-12), M2))) else some ((-11), M2)))) (some ((-1), M2)))
set_option maxRecDepth 20000 in
theorem v_X12_refusal {X : oX} {N : Nat} {K : oK} {p1 : Int32} {p2 : Int32} {M : oM} {v : Int32} {M' : oM} (hK : oSR K)  (h : f_X12_refusal N K p1 p2 M = some (v, M')) : oMet X 3 J_X12_refusal [(.ref 59), (.int p1), (.int p2)] K M (some (.int v)) K M' := by
  unfold f_X12_refusal at h
  refine oMet_of (L := [some (.ref 59), some (.int p1), some (.int p2)]) jJ_X12_refusal.1 rfl (Nat.le_of_ble_eq_true rfl) rfl (Nat.le_refl _) (Nat.le_refl _) ?_
  have hd : 3 ≤ 3 := Nat.le_refl _
  refine oe_iload_n (pc := 0) d_X12_refusal_0 rfl ?_
  obtain ⟨v1, M2, q3, h⟩ := oB2_some h
  cases v1 with
  | true =>
    replace h := oCt h
    refine oe_callS (pc := 1) d_X12_refusal_1 (v_X12_isShelf hK  q3) (by omega) ml_X12_237 jJ_X12_isShelf rfl rfl (Nat.le_of_ble_eq_true rfl) ⟨Nat.le_refl _, Nat.le_refl _⟩ ⟨Nat.le_refl _, Nat.le_refl _⟩ ?_
    refine oe_if_ne (pc := 4) (tgt := 9) d_X12_refusal_4 (by decide) (fun _ => ?_) (fun c => absurd c (by decide))
    refine oe_aload_n (pc := 9) d_X12_refusal_9 rfl ?_
    refine oe_getr (pc := 10) d_X12_refusal_10 fl_X12_122 ock12 (k := 62) (b := 97) (Nat.le_of_ble_eq_true rfl) (by decide) (oLt hK (a := 59) (Nat.le_of_ble_eq_true rfl)) (oSho hK (a := 59) (Nat.le_of_ble_eq_true rfl) rfl) (oRfK hK rfl) ?_
    refine oe_iload_n (pc := 13) d_X12_refusal_13 rfl ?_
    obtain ⟨i4, h⟩ := oIx_some h
    refine oe_iald (pc := 14) d_X12_refusal_14 (oLt hK (a := 97) (Nat.le_of_ble_eq_true rfl)) (oSha hK (a := 97) (Nat.le_of_ble_eq_true rfl) rfl) i4 ?_
    refine oe_if_ge (pc := 15) (tgt := 21) d_X12_refusal_15 (by decide) (fun c5 => ?_) (fun c5 => ?_)
    · replace h := (if_pos c5).symm.trans h
      refine oe_aload_n (pc := 21) d_X12_refusal_21 rfl ?_
      refine oe_getr (pc := 22) d_X12_refusal_22 fl_X12_122 ock12 (k := 62) (b := 97) (Nat.le_of_ble_eq_true rfl) (by decide) (oLt hK (a := 59) (Nat.le_of_ble_eq_true rfl)) (oSho hK (a := 59) (Nat.le_of_ble_eq_true rfl) rfl) (oRfK hK rfl) ?_
      refine oe_iload_n (pc := 25) d_X12_refusal_25 rfl ?_
      obtain ⟨i6, h⟩ := oIx_some h
      refine oe_iald (pc := 26) d_X12_refusal_26 (oLt hK (a := 97) (Nat.le_of_ble_eq_true rfl)) (oSha hK (a := 97) (Nat.le_of_ble_eq_true rfl) rfl) i6 ?_
      refine oe_bipush (pc := 27) (v := 20) d_X12_refusal_27 rfl ?_
      refine oe_icmp_ge (pc := 29) (tgt := 35) d_X12_refusal_29 (by decide) (fun c7 => ?_) (fun c7 => ?_)
      · replace h := (if_pos c7).symm.trans h
        refine oe_iload_n (pc := 35) d_X12_refusal_35 rfl ?_
        refine oe_if_lt (pc := 36) (tgt := 53) d_X12_refusal_36 (by decide) (fun c8 => ?_) (fun c8 => ?_)
        · replace h := (if_pos c8).symm.trans h
          refine oe_bipush (pc := 53) (v := (-13)) d_X12_refusal_53 rfl ?_
          obtain ⟨rfl, rfl⟩ := oRes h
          exact oe_iret (pc := 55) d_X12_refusal_55 ⟨_, rfl, rfl⟩
        · replace h := (if_neg c8).symm.trans h
          refine oe_iload_n (pc := 39) d_X12_refusal_39 rfl ?_
          refine oe_aload_n (pc := 40) d_X12_refusal_40 rfl ?_
          refine oe_getr (pc := 41) d_X12_refusal_41 fl_X12_125 ock12 (k := 63) (b := 98) (Nat.le_of_ble_eq_true rfl) (by decide) (oLt hK (a := 59) (Nat.le_of_ble_eq_true rfl)) (oSho hK (a := 59) (Nat.le_of_ble_eq_true rfl) rfl) (oRfK hK rfl) ?_
          refine oe_iload_n (pc := 44) d_X12_refusal_44 rfl ?_
          obtain ⟨i9, h⟩ := oIx_some h
          refine oe_iald (pc := 45) d_X12_refusal_45 (oLt hK (a := 98) (Nat.le_of_ble_eq_true rfl)) (oSha hK (a := 98) (Nat.le_of_ble_eq_true rfl) rfl) i9 ?_
          refine oe_icmp_ge (pc := 46) (tgt := 53) d_X12_refusal_46 (by decide) (fun c10 => ?_) (fun c10 => ?_)
          · replace h := (if_pos c10).symm.trans h
            refine oe_bipush (pc := 53) (v := (-13)) d_X12_refusal_53 rfl ?_
            obtain ⟨rfl, rfl⟩ := oRes h
            exact oe_iret (pc := 55) d_X12_refusal_55 ⟨_, rfl, rfl⟩
          · replace h := (if_neg c10).symm.trans h
            refine oe_iconst (pc := 49) (v := 0) d_X12_refusal_49 rfl ?_
            refine oe_goto (pc := 50) (tgt := 55) d_X12_refusal_50 (by decide) ?_
            obtain ⟨rfl, rfl⟩ := oRes h
            exact oe_iret (pc := 55) d_X12_refusal_55 ⟨_, rfl, rfl⟩
      · replace h := (if_neg c7).symm.trans h
        refine oe_bipush (pc := 32) (v := (-12)) d_X12_refusal_32 rfl ?_
        obtain ⟨rfl, rfl⟩ := oRes h
        exact oe_iret (pc := 34) d_X12_refusal_34 ⟨_, rfl, rfl⟩
    · replace h := (if_neg c5).symm.trans h
      refine oe_bipush (pc := 18) (v := (-11)) d_X12_refusal_18 rfl ?_
      obtain ⟨rfl, rfl⟩ := oRes h
      exact oe_iret (pc := 20) d_X12_refusal_20 ⟨_, rfl, rfl⟩
  | false =>
    replace h := oCf h
    refine oe_callS (pc := 1) d_X12_refusal_1 (v_X12_isShelf hK  q3) (by omega) ml_X12_237 jJ_X12_isShelf rfl rfl (Nat.le_of_ble_eq_true rfl) ⟨Nat.le_refl _, Nat.le_refl _⟩ ⟨Nat.le_refl _, Nat.le_refl _⟩ ?_
    refine oe_if_ne (pc := 4) (tgt := 9) d_X12_refusal_4 (by decide) (fun c => absurd (by decide) c) (fun _ => ?_)
    refine oe_iconst (pc := 7) (v := (-1)) d_X12_refusal_7 rfl ?_
    obtain ⟨rfl, rfl⟩ := oRes h
    exact oe_iret (pc := 8) d_X12_refusal_8 ⟨_, rfl, rfl⟩
theorem d_X12_asSort_0 : decode J_X12_asSort.2.1 0 = .ok (.iload_n 0, 1) := by decide +kernel
theorem d_X12_asSort_1 : decode J_X12_asSort.2.1 1 = .ok (.ifCond .ne 10, 3) := by decide +kernel
theorem d_X12_asSort_4 : decode J_X12_asSort.2.1 4 = .ok (.lload_n 1, 1) := by decide +kernel
theorem d_X12_asSort_5 : decode J_X12_asSort.2.1 5 = .ok (.l2i, 1) := by decide +kernel
theorem d_X12_asSort_6 : decode J_X12_asSort.2.1 6 = .ok (.i2b, 1) := by decide +kernel
theorem d_X12_asSort_7 : decode J_X12_asSort.2.1 7 = .ok (.i2l, 1) := by decide +kernel
theorem d_X12_asSort_8 : decode J_X12_asSort.2.1 8 = .ok (.goto 46, 3) := by decide +kernel
theorem d_X12_asSort_11 : decode J_X12_asSort.2.1 11 = .ok (.iload_n 0, 1) := by decide +kernel
theorem d_X12_asSort_12 : decode J_X12_asSort.2.1 12 = .ok (.iconst 1, 1) := by decide +kernel
theorem d_X12_asSort_13 : decode J_X12_asSort.2.1 13 = .ok (.if_icmp .ne 10, 3) := by decide +kernel
theorem d_X12_asSort_16 : decode J_X12_asSort.2.1 16 = .ok (.lload_n 1, 1) := by decide +kernel
theorem d_X12_asSort_17 : decode J_X12_asSort.2.1 17 = .ok (.l2i, 1) := by decide +kernel
theorem d_X12_asSort_18 : decode J_X12_asSort.2.1 18 = .ok (.i2s, 1) := by decide +kernel
theorem d_X12_asSort_19 : decode J_X12_asSort.2.1 19 = .ok (.i2l, 1) := by decide +kernel
theorem d_X12_asSort_20 : decode J_X12_asSort.2.1 20 = .ok (.goto 34, 3) := by decide +kernel
theorem d_X12_asSort_23 : decode J_X12_asSort.2.1 23 = .ok (.iload_n 0, 1) := by decide +kernel
theorem d_X12_asSort_24 : decode J_X12_asSort.2.1 24 = .ok (.iconst 2, 1) := by decide +kernel
theorem d_X12_asSort_25 : decode J_X12_asSort.2.1 25 = .ok (.if_icmp .ne 9, 3) := by decide +kernel
theorem d_X12_asSort_28 : decode J_X12_asSort.2.1 28 = .ok (.lload_n 1, 1) := by decide +kernel
theorem d_X12_asSort_29 : decode J_X12_asSort.2.1 29 = .ok (.l2i, 1) := by decide +kernel
theorem d_X12_asSort_30 : decode J_X12_asSort.2.1 30 = .ok (.i2l, 1) := by decide +kernel
theorem d_X12_asSort_31 : decode J_X12_asSort.2.1 31 = .ok (.goto 23, 3) := by decide +kernel
theorem d_X12_asSort_34 : decode J_X12_asSort.2.1 34 = .ok (.iload_n 0, 1) := by decide +kernel
theorem d_X12_asSort_35 : decode J_X12_asSort.2.1 35 = .ok (.iconst 4, 1) := by decide +kernel
theorem d_X12_asSort_36 : decode J_X12_asSort.2.1 36 = .ok (.if_icmp .ne 17, 3) := by decide +kernel
theorem d_X12_asSort_39 : decode J_X12_asSort.2.1 39 = .ok (.lload_n 1, 1) := by decide +kernel
theorem d_X12_asSort_40 : decode J_X12_asSort.2.1 40 = .ok (.lconst 0, 1) := by decide +kernel
theorem d_X12_asSort_41 : decode J_X12_asSort.2.1 41 = .ok (.lcmp, 1) := by decide +kernel
theorem d_X12_asSort_42 : decode J_X12_asSort.2.1 42 = .ok (.ifCond .eq 7, 3) := by decide +kernel
theorem d_X12_asSort_45 : decode J_X12_asSort.2.1 45 = .ok (.lconst 1, 1) := by decide +kernel
theorem d_X12_asSort_46 : decode J_X12_asSort.2.1 46 = .ok (.goto 8, 3) := by decide +kernel
theorem d_X12_asSort_49 : decode J_X12_asSort.2.1 49 = .ok (.lconst 0, 1) := by decide +kernel
theorem d_X12_asSort_50 : decode J_X12_asSort.2.1 50 = .ok (.goto 4, 3) := by decide +kernel
theorem d_X12_asSort_53 : decode J_X12_asSort.2.1 53 = .ok (.lload_n 1, 1) := by decide +kernel
theorem d_X12_asSort_54 : decode J_X12_asSort.2.1 54 = .ok (.lreturn, 1) := by decide +kernel
def f_X12_asSort (N : Nat) (K : oK) (p0 : Int32) (p1 : Int64) (M : oM) : Option (Int64 × oM) :=
  (if p0 = 0 then some ((((p1 : Int64).toInt32 : Int32).toInt8.toInt32 : Int32).toInt64, M) else (if p0 = 1 then some ((((p1 : Int64).toInt32 : Int32).toInt16.toInt32 : Int32).toInt64, M) else (if p0 = 2 then some (((p1 : Int64).toInt32 : Int32).toInt64, M) else (if p0 = 4 then (if (lg_cmp (p1) (0)) = 0 then some (0, M) else some (1, M)) else some (p1, M)))))
set_option maxRecDepth 20000 in
theorem v_X12_asSort {X : oX} {N : Nat} {K : oK} {p0 : Int32} {p1 : Int64} {M : oM} {v : Int64} {M' : oM} (hK : oSR K)  (h : f_X12_asSort N K p0 p1 M = some (v, M')) : oMet X 1 J_X12_asSort [(.int p0), (.long p1)] K M (some (.long v)) K M' := by
  unfold f_X12_asSort at h
  refine oMet_of (L := [some (.int p0), some (.long p1), none]) jJ_X12_asSort.1 rfl (Nat.le_of_ble_eq_true rfl) rfl (Nat.le_refl _) (Nat.le_refl _) ?_
  have hd : 1 ≤ 1 := Nat.le_refl _
  refine oe_iload_n (pc := 0) d_X12_asSort_0 rfl ?_
  refine oe_if_ne (pc := 1) (tgt := 11) d_X12_asSort_1 (by decide) (fun c1 => ?_) (fun c1 => ?_)
  · replace h := (if_neg c1).symm.trans h
    refine oe_iload_n (pc := 11) d_X12_asSort_11 rfl ?_
    refine oe_iconst (pc := 12) (v := 1) d_X12_asSort_12 rfl ?_
    refine oe_icmp_ne (pc := 13) (tgt := 23) d_X12_asSort_13 (by decide) (fun c2 => ?_) (fun c2 => ?_)
    · replace h := (if_neg c2).symm.trans h
      refine oe_iload_n (pc := 23) d_X12_asSort_23 rfl ?_
      refine oe_iconst (pc := 24) (v := 2) d_X12_asSort_24 rfl ?_
      refine oe_icmp_ne (pc := 25) (tgt := 34) d_X12_asSort_25 (by decide) (fun c3 => ?_) (fun c3 => ?_)
      · replace h := (if_neg c3).symm.trans h
        refine oe_iload_n (pc := 34) d_X12_asSort_34 rfl ?_
        refine oe_iconst (pc := 35) (v := 4) d_X12_asSort_35 rfl ?_
        refine oe_icmp_ne (pc := 36) (tgt := 53) d_X12_asSort_36 (by decide) (fun c4 => ?_) (fun c4 => ?_)
        · replace h := (if_neg c4).symm.trans h
          refine oe_lload_n (pc := 53) d_X12_asSort_53 rfl ?_
          obtain ⟨rfl, rfl⟩ := oRes h
          exact oe_lret (pc := 54) d_X12_asSort_54 rfl
        · replace h := (if_pos c4).symm.trans h
          refine oe_lload_n (pc := 39) d_X12_asSort_39 rfl ?_
          refine oe_lconst (pc := 40) (v := 0) d_X12_asSort_40 rfl ?_
          refine oe_lcmp (pc := 41) d_X12_asSort_41 ?_
          refine oe_if_eq (pc := 42) (tgt := 49) d_X12_asSort_42 (by decide) (fun c5 => ?_) (fun c5 => ?_)
          · replace h := (if_pos c5).symm.trans h
            refine oe_lconst (pc := 49) (v := 0) d_X12_asSort_49 rfl ?_
            refine oe_goto (pc := 50) (tgt := 54) d_X12_asSort_50 (by decide) ?_
            obtain ⟨rfl, rfl⟩ := oRes h
            exact oe_lret (pc := 54) d_X12_asSort_54 rfl
          · replace h := (if_neg c5).symm.trans h
            refine oe_lconst (pc := 45) (v := 1) d_X12_asSort_45 rfl ?_
            refine oe_goto (pc := 46) (tgt := 54) d_X12_asSort_46 (by decide) ?_
            obtain ⟨rfl, rfl⟩ := oRes h
            exact oe_lret (pc := 54) d_X12_asSort_54 rfl
      · replace h := (if_pos c3).symm.trans h
        refine oe_lload_n (pc := 28) d_X12_asSort_28 rfl ?_
        refine oe_l2i (pc := 29) d_X12_asSort_29 ?_
        refine oe_i2l (pc := 30) d_X12_asSort_30 ?_
        refine oe_goto (pc := 31) (tgt := 54) d_X12_asSort_31 (by decide) ?_
        obtain ⟨rfl, rfl⟩ := oRes h
        exact oe_lret (pc := 54) d_X12_asSort_54 rfl
    · replace h := (if_pos c2).symm.trans h
      refine oe_lload_n (pc := 16) d_X12_asSort_16 rfl ?_
      refine oe_l2i (pc := 17) d_X12_asSort_17 ?_
      refine oe_i2s (pc := 18) d_X12_asSort_18 ?_
      refine oe_i2l (pc := 19) d_X12_asSort_19 ?_
      refine oe_goto (pc := 20) (tgt := 54) d_X12_asSort_20 (by decide) ?_
      obtain ⟨rfl, rfl⟩ := oRes h
      exact oe_lret (pc := 54) d_X12_asSort_54 rfl
  · replace h := (if_pos c1).symm.trans h
    refine oe_lload_n (pc := 4) d_X12_asSort_4 rfl ?_
    refine oe_l2i (pc := 5) d_X12_asSort_5 ?_
    refine oe_i2b (pc := 6) d_X12_asSort_6 ?_
    refine oe_i2l (pc := 7) d_X12_asSort_7 ?_
    refine oe_goto (pc := 8) (tgt := 54) d_X12_asSort_8 (by decide) ?_
    obtain ⟨rfl, rfl⟩ := oRes h
    exact oe_lret (pc := 54) d_X12_asSort_54 rfl
theorem d_X12_put_0 : decode J_X12_put.2.1 0 = .ok (.aload_n 0, 1) := by decide +kernel
theorem d_X12_put_1 : decode J_X12_put.2.1 1 = .ok (.iload_n 1, 1) := by decide +kernel
theorem d_X12_put_2 : decode J_X12_put.2.1 2 = .ok (.iload_n 2, 1) := by decide +kernel
theorem d_X12_put_3 : decode J_X12_put.2.1 3 = .ok (.invokevirtual 381, 3) := by decide +kernel
theorem d_X12_put_6 : decode J_X12_put.2.1 6 = .ok (.istore 5, 2) := by decide +kernel
theorem d_X12_put_8 : decode J_X12_put.2.1 8 = .ok (.iload 5, 2) := by decide +kernel
theorem d_X12_put_10 : decode J_X12_put.2.1 10 = .ok (.ifCond .ne 27, 3) := by decide +kernel
theorem d_X12_put_13 : decode J_X12_put.2.1 13 = .ok (.aload_n 0, 1) := by decide +kernel
theorem d_X12_put_14 : decode J_X12_put.2.1 14 = .ok (.getfield 128, 3) := by decide +kernel
theorem d_X12_put_17 : decode J_X12_put.2.1 17 = .ok (.bipush 60, 2) := by decide +kernel
theorem d_X12_put_19 : decode J_X12_put.2.1 19 = .ok (.iload_n 1, 1) := by decide +kernel
theorem d_X12_put_20 : decode J_X12_put.2.1 20 = .ok (.imul, 1) := by decide +kernel
theorem d_X12_put_21 : decode J_X12_put.2.1 21 = .ok (.iload_n 2, 1) := by decide +kernel
theorem d_X12_put_22 : decode J_X12_put.2.1 22 = .ok (.iadd, 1) := by decide +kernel
theorem d_X12_put_23 : decode J_X12_put.2.1 23 = .ok (.aload_n 0, 1) := by decide +kernel
theorem d_X12_put_24 : decode J_X12_put.2.1 24 = .ok (.getfield 122, 3) := by decide +kernel
theorem d_X12_put_27 : decode J_X12_put.2.1 27 = .ok (.iload_n 1, 1) := by decide +kernel
theorem d_X12_put_28 : decode J_X12_put.2.1 28 = .ok (.iaload, 1) := by decide +kernel
theorem d_X12_put_29 : decode J_X12_put.2.1 29 = .ok (.bipush 20, 2) := by decide +kernel
theorem d_X12_put_31 : decode J_X12_put.2.1 31 = .ok (.isub, 1) := by decide +kernel
theorem d_X12_put_32 : decode J_X12_put.2.1 32 = .ok (.lload_n 3, 1) := by decide +kernel
theorem d_X12_put_33 : decode J_X12_put.2.1 33 = .ok (.invokestatic 384, 3) := by decide +kernel
theorem d_X12_put_36 : decode J_X12_put.2.1 36 = .ok (.lastore, 1) := by decide +kernel
theorem d_X12_put_37 : decode J_X12_put.2.1 37 = .ok (.iload 5, 2) := by decide +kernel
theorem d_X12_put_39 : decode J_X12_put.2.1 39 = .ok (.ifCond .ne 7, 3) := by decide +kernel
theorem d_X12_put_42 : decode J_X12_put.2.1 42 = .ok (.iconst 1, 1) := by decide +kernel
theorem d_X12_put_43 : decode J_X12_put.2.1 43 = .ok (.goto 5, 3) := by decide +kernel
theorem d_X12_put_46 : decode J_X12_put.2.1 46 = .ok (.iload 5, 2) := by decide +kernel
theorem d_X12_put_48 : decode J_X12_put.2.1 48 = .ok (.ireturn, 1) := by decide +kernel
def f_X12_put_37 (N : Nat) (K : oK)  (p5 : Int32) (M : oM) : Option (Int32 × oM) :=
  (if p5 = 0 then some (1, M) else some (p5, M))
set_option maxRecDepth 20000 in
theorem v_X12_put_37 {X : oX} {d N : Nat} {K : oK}  {p5 : Int32} {M : oM} {v : Int32} {M' : oM}  (hd : 4 ≤ d) (hK : oSR K)   (h : f_X12_put_37 N K  p5 M = some (v, M')) : oEv X d J_X12_put 37 [none, none, none, none, none, some (.int p5)] [] K M (some (.int v)) K M' := by
  unfold f_X12_put_37 at h
  refine oe_iload (pc := 37) d_X12_put_37 rfl ?_
  refine oe_if_ne (pc := 39) (tgt := 46) d_X12_put_39 (by decide) (fun c5 => ?_) (fun c5 => ?_)
  · replace h := (if_neg c5).symm.trans h
    refine oe_iload (pc := 46) d_X12_put_46 rfl ?_
    obtain ⟨rfl, rfl⟩ := oRes h
    exact oe_iret (pc := 48) d_X12_put_48 ⟨_, rfl, rfl⟩
  · replace h := (if_pos c5).symm.trans h
    refine oe_iconst (pc := 42) (v := 1) d_X12_put_42 rfl ?_
    refine oe_goto (pc := 43) (tgt := 48) d_X12_put_43 (by decide) ?_
    obtain ⟨rfl, rfl⟩ := oRes h
    exact oe_iret (pc := 48) d_X12_put_48 ⟨_, rfl, rfl⟩
def f_X12_put (N : Nat) (K : oK) (p1 : Int32) (p2 : Int32) (p3 : Int64) (M : oM) : Option (Int32 × oM) :=
  oB2 (f_X12_refusal N K p1 p2 M) (fun v1 M2 => (if v1 = 0 then oIx (p1) 6 (oB2 (f_X12_asSort N K ((M2.1 97 (p1 : Int32).toNatClampNeg) - 20) p3 M2) (fun v7 M8 => oIx ((((60 : Int32) * p1) + p2)) 360 ((f_X12_put_37 N K  v1 (oUpL M8 99 ((((60 : Int32) * p1) + p2) : Int32).toNatClampNeg v7))))) else (f_X12_put_37 N K  v1 M2)))
set_option maxRecDepth 20000 in
theorem v_X12_put {X : oX} {N : Nat} {K : oK} {p1 : Int32} {p2 : Int32} {p3 : Int64} {M : oM} {v : Int32} {M' : oM} (hK : oSR K)  (h : f_X12_put N K p1 p2 p3 M = some (v, M')) : oMet X 4 J_X12_put [(.ref 59), (.int p1), (.int p2), (.long p3)] K M (some (.int v)) K M' := by
  unfold f_X12_put at h
  refine oMet_of (L := [some (.ref 59), some (.int p1), some (.int p2), some (.long p3), none, none]) jJ_X12_put.1 rfl (Nat.le_of_ble_eq_true rfl) rfl (Nat.le_refl _) (Nat.le_refl _) ?_
  have hd : 4 ≤ 4 := Nat.le_refl _
  refine oe_aload_n (pc := 0) d_X12_put_0 rfl ?_
  refine oe_iload_n (pc := 1) d_X12_put_1 rfl ?_
  refine oe_iload_n (pc := 2) d_X12_put_2 rfl ?_
  obtain ⟨v1, M2, q3, h⟩ := oB2_some h
  refine oe_callV (pc := 3) (ci := 12) d_X12_put_3 (v_X12_refusal hK  q3) (by omega) ml_X12_381 jJ_X12_refusal rfl rfl (oLt hK (a := 59) (Nat.le_of_ble_eq_true rfl)) (oSho hK (a := 59) (Nat.le_of_ble_eq_true rfl) rfl) ock12 rfl (Nat.le_of_ble_eq_true rfl) ⟨Nat.le_refl _, Nat.le_refl _⟩ ⟨Nat.le_refl _, Nat.le_refl _⟩ ?_
  refine oe_istore (pc := 6) (L2 := [_, _, _, _, _, _]) d_X12_put_6 rfl (Nat.le_of_ble_eq_true rfl) rfl ?_
  refine oe_iload (pc := 8) d_X12_put_8 rfl ?_
  refine oe_if_ne (pc := 10) (tgt := 37) d_X12_put_10 (by decide) (fun c4 => ?_) (fun c4 => ?_)
  · replace h := (if_neg c4).symm.trans h
    refine oEv.fg [false, false, false, false, false, true] ?_
    exact v_X12_put_37 hd hK   h
  · replace h := (if_pos c4).symm.trans h
    refine oe_aload_n (pc := 13) d_X12_put_13 rfl ?_
    refine oe_getr (pc := 14) d_X12_put_14 fl_X12_128 ock12 (k := 64) (b := 99) (Nat.le_of_ble_eq_true rfl) (by decide) (oLt hK (a := 59) (Nat.le_of_ble_eq_true rfl)) (oSho hK (a := 59) (Nat.le_of_ble_eq_true rfl) rfl) (oRfK hK rfl) ?_
    refine oe_bipush (pc := 17) (v := 60) d_X12_put_17 rfl ?_
    refine oe_iload_n (pc := 19) d_X12_put_19 rfl ?_
    refine oe_imul (pc := 20) d_X12_put_20 ?_
    refine oe_iload_n (pc := 21) d_X12_put_21 rfl ?_
    refine oe_iadd (pc := 22) d_X12_put_22 ?_
    refine oe_aload_n (pc := 23) d_X12_put_23 rfl ?_
    refine oe_getr (pc := 24) d_X12_put_24 fl_X12_122 ock12 (k := 62) (b := 97) (Nat.le_of_ble_eq_true rfl) (by decide) (oLt hK (a := 59) (Nat.le_of_ble_eq_true rfl)) (oSho hK (a := 59) (Nat.le_of_ble_eq_true rfl) rfl) (oRfK hK rfl) ?_
    refine oe_iload_n (pc := 27) d_X12_put_27 rfl ?_
    obtain ⟨i6, h⟩ := oIx_some h
    refine oe_iald (pc := 28) d_X12_put_28 (oLt hK (a := 97) (Nat.le_of_ble_eq_true rfl)) (oSha hK (a := 97) (Nat.le_of_ble_eq_true rfl) rfl) i6 ?_
    refine oe_bipush (pc := 29) (v := 20) d_X12_put_29 rfl ?_
    refine oe_isub (pc := 31) d_X12_put_31 ?_
    refine oe_lload_n (pc := 32) d_X12_put_32 rfl ?_
    obtain ⟨v7, M8, q9, h⟩ := oB2_some h
    refine oe_callS (pc := 33) d_X12_put_33 (v_X12_asSort hK  q9) (by omega) ml_X12_384 jJ_X12_asSort rfl rfl (Nat.le_of_ble_eq_true rfl) ⟨Nat.le_refl _, Nat.le_refl _⟩ ⟨Nat.le_refl _, Nat.le_refl _⟩ ?_
    obtain ⟨i10, h⟩ := oIx_some h
    refine oe_last (pc := 36) d_X12_put_36 (oLt hK (a := 99) (Nat.le_of_ble_eq_true rfl)) (oSha hK (a := 99) (Nat.le_of_ble_eq_true rfl) rfl) i10 ?_
    refine oEv.fg [false, false, false, false, false, true] ?_
    exact v_X12_put_37 hd hK   h
theorem d_X12_element_0 : decode J_X12_element.2.1 0 = .ok (.aload_n 0, 1) := by decide +kernel
theorem d_X12_element_1 : decode J_X12_element.2.1 1 = .ok (.iload_n 1, 1) := by decide +kernel
theorem d_X12_element_2 : decode J_X12_element.2.1 2 = .ok (.iload_n 2, 1) := by decide +kernel
theorem d_X12_element_3 : decode J_X12_element.2.1 3 = .ok (.invokevirtual 381, 3) := by decide +kernel
theorem d_X12_element_6 : decode J_X12_element.2.1 6 = .ok (.ifCond .eq 9, 3) := by decide +kernel
theorem d_X12_element_9 : decode J_X12_element.2.1 9 = .ok (.ldc2_w 390, 3) := by decide +kernel
theorem d_X12_element_12 : decode J_X12_element.2.1 12 = .ok (.goto 14, 3) := by decide +kernel
theorem d_X12_element_15 : decode J_X12_element.2.1 15 = .ok (.aload_n 0, 1) := by decide +kernel
theorem d_X12_element_16 : decode J_X12_element.2.1 16 = .ok (.getfield 128, 3) := by decide +kernel
theorem d_X12_element_19 : decode J_X12_element.2.1 19 = .ok (.bipush 60, 2) := by decide +kernel
theorem d_X12_element_21 : decode J_X12_element.2.1 21 = .ok (.iload_n 1, 1) := by decide +kernel
theorem d_X12_element_22 : decode J_X12_element.2.1 22 = .ok (.imul, 1) := by decide +kernel
theorem d_X12_element_23 : decode J_X12_element.2.1 23 = .ok (.iload_n 2, 1) := by decide +kernel
theorem d_X12_element_24 : decode J_X12_element.2.1 24 = .ok (.iadd, 1) := by decide +kernel
theorem d_X12_element_25 : decode J_X12_element.2.1 25 = .ok (.laload, 1) := by decide +kernel
theorem d_X12_element_26 : decode J_X12_element.2.1 26 = .ok (.lreturn, 1) := by decide +kernel
def f_X12_element (N : Nat) (K : oK) (p1 : Int32) (p2 : Int32) (M : oM) : Option (Int64 × oM) :=
  oB2 (f_X12_refusal N K p1 p2 M) (fun v1 M2 => (if v1 = 0 then oIx ((((60 : Int32) * p1) + p2)) 360 (some ((M2.2 99 ((((60 : Int32) * p1) + p2) : Int32).toNatClampNeg), M2)) else some ((-9223372036854775808), M2)))
set_option maxRecDepth 20000 in
theorem v_X12_element {X : oX} {N : Nat} {K : oK} {p1 : Int32} {p2 : Int32} {M : oM} {v : Int64} {M' : oM} (hK : oSR K)  (h : f_X12_element N K p1 p2 M = some (v, M')) : oMet X 4 J_X12_element [(.ref 59), (.int p1), (.int p2)] K M (some (.long v)) K M' := by
  unfold f_X12_element at h
  refine oMet_of (L := [some (.ref 59), some (.int p1), some (.int p2)]) jJ_X12_element.1 rfl (Nat.le_of_ble_eq_true rfl) rfl (Nat.le_refl _) (Nat.le_refl _) ?_
  have hd : 4 ≤ 4 := Nat.le_refl _
  refine oe_aload_n (pc := 0) d_X12_element_0 rfl ?_
  refine oe_iload_n (pc := 1) d_X12_element_1 rfl ?_
  refine oe_iload_n (pc := 2) d_X12_element_2 rfl ?_
  obtain ⟨v1, M2, q3, h⟩ := oB2_some h
  refine oe_callV (pc := 3) (ci := 12) d_X12_element_3 (v_X12_refusal hK  q3) (by omega) ml_X12_381 jJ_X12_refusal rfl rfl (oLt hK (a := 59) (Nat.le_of_ble_eq_true rfl)) (oSho hK (a := 59) (Nat.le_of_ble_eq_true rfl) rfl) ock12 rfl (Nat.le_of_ble_eq_true rfl) ⟨Nat.le_refl _, Nat.le_refl _⟩ ⟨Nat.le_refl _, Nat.le_refl _⟩ ?_
  refine oe_if_eq (pc := 6) (tgt := 15) d_X12_element_6 (by decide) (fun c4 => ?_) (fun c4 => ?_)
  · replace h := (if_pos c4).symm.trans h
    refine oe_aload_n (pc := 15) d_X12_element_15 rfl ?_
    refine oe_getr (pc := 16) d_X12_element_16 fl_X12_128 ock12 (k := 64) (b := 99) (Nat.le_of_ble_eq_true rfl) (by decide) (oLt hK (a := 59) (Nat.le_of_ble_eq_true rfl)) (oSho hK (a := 59) (Nat.le_of_ble_eq_true rfl) rfl) (oRfK hK rfl) ?_
    refine oe_bipush (pc := 19) (v := 60) d_X12_element_19 rfl ?_
    refine oe_iload_n (pc := 21) d_X12_element_21 rfl ?_
    refine oe_imul (pc := 22) d_X12_element_22 ?_
    refine oe_iload_n (pc := 23) d_X12_element_23 rfl ?_
    refine oe_iadd (pc := 24) d_X12_element_24 ?_
    obtain ⟨i5, h⟩ := oIx_some h
    refine oe_lald (pc := 25) d_X12_element_25 (oLt hK (a := 99) (Nat.le_of_ble_eq_true rfl)) (oSha hK (a := 99) (Nat.le_of_ble_eq_true rfl) rfl) i5 ?_
    obtain ⟨rfl, rfl⟩ := oRes h
    exact oe_lret (pc := 26) d_X12_element_26 rfl
  · replace h := (if_neg c4).symm.trans h
    refine oe_ldc2 (pc := 9) d_X12_element_9 co_X12_390 ?_
    refine oe_goto (pc := 12) (tgt := 26) d_X12_element_12 (by decide) ?_
    obtain ⟨rfl, rfl⟩ := oRes h
    exact oe_lret (pc := 26) d_X12_element_26 rfl
theorem d_X12_shift_0 : decode J_X12_shift.2.1 0 = .ok (.iload_n 1, 1) := by decide +kernel
theorem d_X12_shift_1 : decode J_X12_shift.2.1 1 = .ok (.invokestatic 237, 3) := by decide +kernel
theorem d_X12_shift_4 : decode J_X12_shift.2.1 4 = .ok (.ifCond .eq 10, 3) := by decide +kernel
theorem d_X12_shift_7 : decode J_X12_shift.2.1 7 = .ok (.iload_n 3, 1) := by decide +kernel
theorem d_X12_shift_8 : decode J_X12_shift.2.1 8 = .ok (.invokestatic 237, 3) := by decide +kernel
theorem d_X12_shift_11 : decode J_X12_shift.2.1 11 = .ok (.ifCond .ne 5, 3) := by decide +kernel
theorem d_X12_shift_14 : decode J_X12_shift.2.1 14 = .ok (.iconst (-1), 1) := by decide +kernel
theorem d_X12_shift_15 : decode J_X12_shift.2.1 15 = .ok (.ireturn, 1) := by decide +kernel
theorem d_X12_shift_16 : decode J_X12_shift.2.1 16 = .ok (.aload_n 0, 1) := by decide +kernel
theorem d_X12_shift_17 : decode J_X12_shift.2.1 17 = .ok (.getfield 122, 3) := by decide +kernel
theorem d_X12_shift_20 : decode J_X12_shift.2.1 20 = .ok (.iload_n 1, 1) := by decide +kernel
theorem d_X12_shift_21 : decode J_X12_shift.2.1 21 = .ok (.iaload, 1) := by decide +kernel
theorem d_X12_shift_22 : decode J_X12_shift.2.1 22 = .ok (.ifCond .lt 12, 3) := by decide +kernel
theorem d_X12_shift_25 : decode J_X12_shift.2.1 25 = .ok (.aload_n 0, 1) := by decide +kernel
theorem d_X12_shift_26 : decode J_X12_shift.2.1 26 = .ok (.getfield 122, 3) := by decide +kernel
theorem d_X12_shift_29 : decode J_X12_shift.2.1 29 = .ok (.iload_n 3, 1) := by decide +kernel
theorem d_X12_shift_30 : decode J_X12_shift.2.1 30 = .ok (.iaload, 1) := by decide +kernel
theorem d_X12_shift_31 : decode J_X12_shift.2.1 31 = .ok (.ifCond .ge 6, 3) := by decide +kernel
theorem d_X12_shift_34 : decode J_X12_shift.2.1 34 = .ok (.bipush (-11), 2) := by decide +kernel
theorem d_X12_shift_36 : decode J_X12_shift.2.1 36 = .ok (.ireturn, 1) := by decide +kernel
theorem d_X12_shift_37 : decode J_X12_shift.2.1 37 = .ok (.aload_n 0, 1) := by decide +kernel
theorem d_X12_shift_38 : decode J_X12_shift.2.1 38 = .ok (.getfield 122, 3) := by decide +kernel
theorem d_X12_shift_41 : decode J_X12_shift.2.1 41 = .ok (.iload_n 1, 1) := by decide +kernel
theorem d_X12_shift_42 : decode J_X12_shift.2.1 42 = .ok (.iaload, 1) := by decide +kernel
theorem d_X12_shift_43 : decode J_X12_shift.2.1 43 = .ok (.bipush 20, 2) := by decide +kernel
theorem d_X12_shift_45 : decode J_X12_shift.2.1 45 = .ok (.if_icmp .lt 18, 3) := by decide +kernel
theorem d_X12_shift_48 : decode J_X12_shift.2.1 48 = .ok (.aload_n 0, 1) := by decide +kernel
theorem d_X12_shift_49 : decode J_X12_shift.2.1 49 = .ok (.getfield 122, 3) := by decide +kernel
theorem d_X12_shift_52 : decode J_X12_shift.2.1 52 = .ok (.iload_n 1, 1) := by decide +kernel
theorem d_X12_shift_53 : decode J_X12_shift.2.1 53 = .ok (.iaload, 1) := by decide +kernel
theorem d_X12_shift_54 : decode J_X12_shift.2.1 54 = .ok (.aload_n 0, 1) := by decide +kernel
theorem d_X12_shift_55 : decode J_X12_shift.2.1 55 = .ok (.getfield 122, 3) := by decide +kernel
theorem d_X12_shift_58 : decode J_X12_shift.2.1 58 = .ok (.iload_n 3, 1) := by decide +kernel
theorem d_X12_shift_59 : decode J_X12_shift.2.1 59 = .ok (.iaload, 1) := by decide +kernel
theorem d_X12_shift_60 : decode J_X12_shift.2.1 60 = .ok (.if_icmp .eq 6, 3) := by decide +kernel
theorem d_X12_shift_63 : decode J_X12_shift.2.1 63 = .ok (.bipush (-12), 2) := by decide +kernel
theorem d_X12_shift_65 : decode J_X12_shift.2.1 65 = .ok (.ireturn, 1) := by decide +kernel
theorem d_X12_shift_66 : decode J_X12_shift.2.1 66 = .ok (.iload 5, 2) := by decide +kernel
theorem d_X12_shift_68 : decode J_X12_shift.2.1 68 = .ok (.ifCond .lt 39, 3) := by decide +kernel
theorem d_X12_shift_71 : decode J_X12_shift.2.1 71 = .ok (.iload_n 2, 1) := by decide +kernel
theorem d_X12_shift_72 : decode J_X12_shift.2.1 72 = .ok (.ifCond .lt 35, 3) := by decide +kernel
theorem d_X12_shift_75 : decode J_X12_shift.2.1 75 = .ok (.iload 4, 2) := by decide +kernel
theorem d_X12_shift_77 : decode J_X12_shift.2.1 77 = .ok (.ifCond .lt 30, 3) := by decide +kernel
theorem d_X12_shift_80 : decode J_X12_shift.2.1 80 = .ok (.iload_n 2, 1) := by decide +kernel
theorem d_X12_shift_81 : decode J_X12_shift.2.1 81 = .ok (.aload_n 0, 1) := by decide +kernel
theorem d_X12_shift_82 : decode J_X12_shift.2.1 82 = .ok (.getfield 125, 3) := by decide +kernel
theorem d_X12_shift_85 : decode J_X12_shift.2.1 85 = .ok (.iload_n 1, 1) := by decide +kernel
theorem d_X12_shift_86 : decode J_X12_shift.2.1 86 = .ok (.iaload, 1) := by decide +kernel
theorem d_X12_shift_87 : decode J_X12_shift.2.1 87 = .ok (.iload 5, 2) := by decide +kernel
theorem d_X12_shift_89 : decode J_X12_shift.2.1 89 = .ok (.isub, 1) := by decide +kernel
theorem d_X12_shift_90 : decode J_X12_shift.2.1 90 = .ok (.if_icmp .gt 17, 3) := by decide +kernel
theorem d_X12_shift_93 : decode J_X12_shift.2.1 93 = .ok (.iload 4, 2) := by decide +kernel
theorem d_X12_shift_95 : decode J_X12_shift.2.1 95 = .ok (.aload_n 0, 1) := by decide +kernel
theorem d_X12_shift_96 : decode J_X12_shift.2.1 96 = .ok (.getfield 125, 3) := by decide +kernel
theorem d_X12_shift_99 : decode J_X12_shift.2.1 99 = .ok (.iload_n 3, 1) := by decide +kernel
theorem d_X12_shift_100 : decode J_X12_shift.2.1 100 = .ok (.iaload, 1) := by decide +kernel
theorem d_X12_shift_101 : decode J_X12_shift.2.1 101 = .ok (.iload 5, 2) := by decide +kernel
theorem d_X12_shift_103 : decode J_X12_shift.2.1 103 = .ok (.isub, 1) := by decide +kernel
theorem d_X12_shift_104 : decode J_X12_shift.2.1 104 = .ok (.if_icmp .le 6, 3) := by decide +kernel
theorem d_X12_shift_107 : decode J_X12_shift.2.1 107 = .ok (.bipush (-13), 2) := by decide +kernel
theorem d_X12_shift_109 : decode J_X12_shift.2.1 109 = .ok (.ireturn, 1) := by decide +kernel
theorem d_X12_shift_110 : decode J_X12_shift.2.1 110 = .ok (.iconst 0, 1) := by decide +kernel
theorem d_X12_shift_111 : decode J_X12_shift.2.1 111 = .ok (.istore 6, 2) := by decide +kernel
theorem d_X12_shift_113 : decode J_X12_shift.2.1 113 = .ok (.iload 6, 2) := by decide +kernel
theorem d_X12_shift_115 : decode J_X12_shift.2.1 115 = .ok (.iload 5, 2) := by decide +kernel
theorem d_X12_shift_117 : decode J_X12_shift.2.1 117 = .ok (.if_icmp .ge 30, 3) := by decide +kernel
theorem d_X12_shift_120 : decode J_X12_shift.2.1 120 = .ok (.aload_n 0, 1) := by decide +kernel
theorem d_X12_shift_121 : decode J_X12_shift.2.1 121 = .ok (.getfield 132, 3) := by decide +kernel
theorem d_X12_shift_124 : decode J_X12_shift.2.1 124 = .ok (.iload 6, 2) := by decide +kernel
theorem d_X12_shift_126 : decode J_X12_shift.2.1 126 = .ok (.aload_n 0, 1) := by decide +kernel
theorem d_X12_shift_127 : decode J_X12_shift.2.1 127 = .ok (.getfield 128, 3) := by decide +kernel
theorem d_X12_shift_130 : decode J_X12_shift.2.1 130 = .ok (.bipush 60, 2) := by decide +kernel
theorem d_X12_shift_132 : decode J_X12_shift.2.1 132 = .ok (.iload_n 1, 1) := by decide +kernel
theorem d_X12_shift_133 : decode J_X12_shift.2.1 133 = .ok (.imul, 1) := by decide +kernel
theorem d_X12_shift_134 : decode J_X12_shift.2.1 134 = .ok (.iload_n 2, 1) := by decide +kernel
theorem d_X12_shift_135 : decode J_X12_shift.2.1 135 = .ok (.iadd, 1) := by decide +kernel
theorem d_X12_shift_136 : decode J_X12_shift.2.1 136 = .ok (.iload 6, 2) := by decide +kernel
theorem d_X12_shift_138 : decode J_X12_shift.2.1 138 = .ok (.iadd, 1) := by decide +kernel
theorem d_X12_shift_139 : decode J_X12_shift.2.1 139 = .ok (.laload, 1) := by decide +kernel
theorem d_X12_shift_140 : decode J_X12_shift.2.1 140 = .ok (.lastore, 1) := by decide +kernel
theorem d_X12_shift_141 : decode J_X12_shift.2.1 141 = .ok (.iinc 6 1, 3) := by decide +kernel
theorem d_X12_shift_144 : decode J_X12_shift.2.1 144 = .ok (.goto (-31), 3) := by decide +kernel
theorem d_X12_shift_147 : decode J_X12_shift.2.1 147 = .ok (.iconst 0, 1) := by decide +kernel
theorem d_X12_shift_148 : decode J_X12_shift.2.1 148 = .ok (.istore 6, 2) := by decide +kernel
theorem d_X12_shift_150 : decode J_X12_shift.2.1 150 = .ok (.iload 6, 2) := by decide +kernel
theorem d_X12_shift_152 : decode J_X12_shift.2.1 152 = .ok (.iload 5, 2) := by decide +kernel
theorem d_X12_shift_154 : decode J_X12_shift.2.1 154 = .ok (.if_icmp .ge 31, 3) := by decide +kernel
theorem d_X12_shift_157 : decode J_X12_shift.2.1 157 = .ok (.aload_n 0, 1) := by decide +kernel
theorem d_X12_shift_158 : decode J_X12_shift.2.1 158 = .ok (.getfield 128, 3) := by decide +kernel
theorem d_X12_shift_161 : decode J_X12_shift.2.1 161 = .ok (.bipush 60, 2) := by decide +kernel
theorem d_X12_shift_163 : decode J_X12_shift.2.1 163 = .ok (.iload_n 3, 1) := by decide +kernel
theorem d_X12_shift_164 : decode J_X12_shift.2.1 164 = .ok (.imul, 1) := by decide +kernel
theorem d_X12_shift_165 : decode J_X12_shift.2.1 165 = .ok (.iload 4, 2) := by decide +kernel
theorem d_X12_shift_167 : decode J_X12_shift.2.1 167 = .ok (.iadd, 1) := by decide +kernel
theorem d_X12_shift_168 : decode J_X12_shift.2.1 168 = .ok (.iload 6, 2) := by decide +kernel
theorem d_X12_shift_170 : decode J_X12_shift.2.1 170 = .ok (.iadd, 1) := by decide +kernel
theorem d_X12_shift_171 : decode J_X12_shift.2.1 171 = .ok (.aload_n 0, 1) := by decide +kernel
theorem d_X12_shift_172 : decode J_X12_shift.2.1 172 = .ok (.getfield 132, 3) := by decide +kernel
theorem d_X12_shift_175 : decode J_X12_shift.2.1 175 = .ok (.iload 6, 2) := by decide +kernel
theorem d_X12_shift_177 : decode J_X12_shift.2.1 177 = .ok (.laload, 1) := by decide +kernel
theorem d_X12_shift_178 : decode J_X12_shift.2.1 178 = .ok (.lastore, 1) := by decide +kernel
theorem d_X12_shift_179 : decode J_X12_shift.2.1 179 = .ok (.iinc 6 1, 3) := by decide +kernel
theorem d_X12_shift_182 : decode J_X12_shift.2.1 182 = .ok (.goto (-32), 3) := by decide +kernel
theorem d_X12_shift_185 : decode J_X12_shift.2.1 185 = .ok (.iload 5, 2) := by decide +kernel
theorem d_X12_shift_187 : decode J_X12_shift.2.1 187 = .ok (.ireturn, 1) := by decide +kernel
def f_X12_shift_150 (N : Nat) (K : oK)  : Nat → Int32 → Int32 → Int32 → Int32 → oM → Option (Int32 × oM)
  | 0, _, _, _, _, _ => none
  | n + 1, p3, p4, p5, p6, M => (fun r150 => (if p5 ≤ p6 then some (p5, M) else oIx (p6) 60 (oIx (((((60 : Int32) * p3) + p4) + p6)) 360 ((r150 p3 p4 p5 (p6 + 1) (oUpL M 99 (((((60 : Int32) * p3) + p4) + p6) : Int32).toNatClampNeg (M.2 100 (p6 : Int32).toNatClampNeg))))))) (f_X12_shift_150 N K  n)
set_option maxRecDepth 20000 in
theorem v_X12_shift_150_L {X : oX} {d N : Nat} {K : oK}  (hd : 3 ≤ d) (hK : oSR K)  : ∀ (n : Nat) (p3 : Int32) (p4 : Int32) (p5 : Int32) (p6 : Int32) (M : oM) (v : Int32) (M' : oM)  , f_X12_shift_150 N K  n p3 p4 p5 p6 M = some (v, M') → oEv X d J_X12_shift 150 [some (.ref 59), none, none, some (.int p3), some (.int p4), some (.int p5), some (.int p6)] [] K M (some (.int v)) K M' := by
  intro n
  induction n with
  | zero =>
    intro p3 p4 p5 p6 M v M'   h
    cases h
  | succ n hr150 =>
    intro p3 p4 p5 p6 M v M'   h
    refine oe_iload (pc := 150) d_X12_shift_150 rfl ?_
    refine oe_iload (pc := 152) d_X12_shift_152 rfl ?_
    refine oe_icmp_ge (pc := 154) (tgt := 185) d_X12_shift_154 (by decide) (fun c24 => ?_) (fun c24 => ?_)
    · replace h := (if_pos c24).symm.trans h
      refine oe_iload (pc := 185) d_X12_shift_185 rfl ?_
      obtain ⟨rfl, rfl⟩ := oRes h
      exact oe_iret (pc := 187) d_X12_shift_187 ⟨_, rfl, rfl⟩
    · replace h := (if_neg c24).symm.trans h
      refine oe_aload_n (pc := 157) d_X12_shift_157 rfl ?_
      refine oe_getr (pc := 158) d_X12_shift_158 fl_X12_128 ock12 (k := 64) (b := 99) (Nat.le_of_ble_eq_true rfl) (by decide) (oLt hK (a := 59) (Nat.le_of_ble_eq_true rfl)) (oSho hK (a := 59) (Nat.le_of_ble_eq_true rfl) rfl) (oRfK hK rfl) ?_
      refine oe_bipush (pc := 161) (v := 60) d_X12_shift_161 rfl ?_
      refine oe_iload_n (pc := 163) d_X12_shift_163 rfl ?_
      refine oe_imul (pc := 164) d_X12_shift_164 ?_
      refine oe_iload (pc := 165) d_X12_shift_165 rfl ?_
      refine oe_iadd (pc := 167) d_X12_shift_167 ?_
      refine oe_iload (pc := 168) d_X12_shift_168 rfl ?_
      refine oe_iadd (pc := 170) d_X12_shift_170 ?_
      refine oe_aload_n (pc := 171) d_X12_shift_171 rfl ?_
      refine oe_getr (pc := 172) d_X12_shift_172 fl_X12_132 ock12 (k := 65) (b := 100) (Nat.le_of_ble_eq_true rfl) (by decide) (oLt hK (a := 59) (Nat.le_of_ble_eq_true rfl)) (oSho hK (a := 59) (Nat.le_of_ble_eq_true rfl) rfl) (oRfK hK rfl) ?_
      refine oe_iload (pc := 175) d_X12_shift_175 rfl ?_
      obtain ⟨i25, h⟩ := oIx_some h
      refine oe_lald (pc := 177) d_X12_shift_177 (oLt hK (a := 100) (Nat.le_of_ble_eq_true rfl)) (oSha hK (a := 100) (Nat.le_of_ble_eq_true rfl) rfl) i25 ?_
      obtain ⟨i26, h⟩ := oIx_some h
      refine oe_last (pc := 178) d_X12_shift_178 (oLt hK (a := 99) (Nat.le_of_ble_eq_true rfl)) (oSha hK (a := 99) (Nat.le_of_ble_eq_true rfl) rfl) i26 ?_
      refine oe_iinc (pc := 179) (v := (p6 + 1)) (L2 := [_, _, _, _, _, _, _]) d_X12_shift_179 rfl rfl rfl (Nat.le_of_ble_eq_true rfl) rfl ?_
      refine oe_goto (pc := 182) (tgt := 150) d_X12_shift_182 (by decide) ?_
      exact hr150 _ _ _ _ _ _ _ h
theorem v_X12_shift_150 {X : oX} {d N : Nat} {K : oK}  {p3 : Int32} {p4 : Int32} {p5 : Int32} {p6 : Int32} {M : oM} {v : Int32} {M' : oM}  (hd : 3 ≤ d) (hK : oSR K)   (h : f_X12_shift_150 N K  N p3 p4 p5 p6 M = some (v, M')) : oEv X d J_X12_shift 150 [some (.ref 59), none, none, some (.int p3), some (.int p4), some (.int p5), some (.int p6)] [] K M (some (.int v)) K M' := v_X12_shift_150_L hd hK  N p3 p4 p5 p6 M v M'   h
def f_X12_shift_113 (N : Nat) (K : oK)  : Nat → Int32 → Int32 → Int32 → Int32 → Int32 → Int32 → oM → Option (Int32 × oM)
  | 0, _, _, _, _, _, _, _ => none
  | n + 1, p1, p2, p3, p4, p5, p6, M => (fun r113 => (if p5 ≤ p6 then (f_X12_shift_150 N K  N p3 p4 p5 0 M) else oIx (((((60 : Int32) * p1) + p2) + p6)) 360 (oIx (p6) 60 ((r113 p1 p2 p3 p4 p5 (p6 + 1) (oUpL M 100 (p6 : Int32).toNatClampNeg (M.2 99 (((((60 : Int32) * p1) + p2) + p6) : Int32).toNatClampNeg))))))) (f_X12_shift_113 N K  n)
set_option maxRecDepth 20000 in
theorem v_X12_shift_113_L {X : oX} {d N : Nat} {K : oK}  (hd : 3 ≤ d) (hK : oSR K)  : ∀ (n : Nat) (p1 : Int32) (p2 : Int32) (p3 : Int32) (p4 : Int32) (p5 : Int32) (p6 : Int32) (M : oM) (v : Int32) (M' : oM)  , f_X12_shift_113 N K  n p1 p2 p3 p4 p5 p6 M = some (v, M') → oEv X d J_X12_shift 113 [some (.ref 59), some (.int p1), some (.int p2), some (.int p3), some (.int p4), some (.int p5), some (.int p6)] [] K M (some (.int v)) K M' := by
  intro n
  induction n with
  | zero =>
    intro p1 p2 p3 p4 p5 p6 M v M'   h
    cases h
  | succ n hr113 =>
    intro p1 p2 p3 p4 p5 p6 M v M'   h
    refine oe_iload (pc := 113) d_X12_shift_113 rfl ?_
    refine oe_iload (pc := 115) d_X12_shift_115 rfl ?_
    refine oe_icmp_ge (pc := 117) (tgt := 147) d_X12_shift_117 (by decide) (fun c23 => ?_) (fun c23 => ?_)
    · replace h := (if_pos c23).symm.trans h
      refine oe_iconst (pc := 147) (v := 0) d_X12_shift_147 rfl ?_
      refine oe_istore (pc := 148) (L2 := [_, _, _, _, _, _, _]) d_X12_shift_148 rfl (Nat.le_of_ble_eq_true rfl) rfl ?_
      refine oEv.fg [true, false, false, true, true, true, true] ?_
      exact v_X12_shift_150 hd hK   h
    · replace h := (if_neg c23).symm.trans h
      refine oe_aload_n (pc := 120) d_X12_shift_120 rfl ?_
      refine oe_getr (pc := 121) d_X12_shift_121 fl_X12_132 ock12 (k := 65) (b := 100) (Nat.le_of_ble_eq_true rfl) (by decide) (oLt hK (a := 59) (Nat.le_of_ble_eq_true rfl)) (oSho hK (a := 59) (Nat.le_of_ble_eq_true rfl) rfl) (oRfK hK rfl) ?_
      refine oe_iload (pc := 124) d_X12_shift_124 rfl ?_
      refine oe_aload_n (pc := 126) d_X12_shift_126 rfl ?_
      refine oe_getr (pc := 127) d_X12_shift_127 fl_X12_128 ock12 (k := 64) (b := 99) (Nat.le_of_ble_eq_true rfl) (by decide) (oLt hK (a := 59) (Nat.le_of_ble_eq_true rfl)) (oSho hK (a := 59) (Nat.le_of_ble_eq_true rfl) rfl) (oRfK hK rfl) ?_
      refine oe_bipush (pc := 130) (v := 60) d_X12_shift_130 rfl ?_
      refine oe_iload_n (pc := 132) d_X12_shift_132 rfl ?_
      refine oe_imul (pc := 133) d_X12_shift_133 ?_
      refine oe_iload_n (pc := 134) d_X12_shift_134 rfl ?_
      refine oe_iadd (pc := 135) d_X12_shift_135 ?_
      refine oe_iload (pc := 136) d_X12_shift_136 rfl ?_
      refine oe_iadd (pc := 138) d_X12_shift_138 ?_
      obtain ⟨i27, h⟩ := oIx_some h
      refine oe_lald (pc := 139) d_X12_shift_139 (oLt hK (a := 99) (Nat.le_of_ble_eq_true rfl)) (oSha hK (a := 99) (Nat.le_of_ble_eq_true rfl) rfl) i27 ?_
      obtain ⟨i28, h⟩ := oIx_some h
      refine oe_last (pc := 140) d_X12_shift_140 (oLt hK (a := 100) (Nat.le_of_ble_eq_true rfl)) (oSha hK (a := 100) (Nat.le_of_ble_eq_true rfl) rfl) i28 ?_
      refine oe_iinc (pc := 141) (v := (p6 + 1)) (L2 := [_, _, _, _, _, _, _]) d_X12_shift_141 rfl rfl rfl (Nat.le_of_ble_eq_true rfl) rfl ?_
      refine oe_goto (pc := 144) (tgt := 113) d_X12_shift_144 (by decide) ?_
      exact hr113 _ _ _ _ _ _ _ _ _ h
theorem v_X12_shift_113 {X : oX} {d N : Nat} {K : oK}  {p1 : Int32} {p2 : Int32} {p3 : Int32} {p4 : Int32} {p5 : Int32} {p6 : Int32} {M : oM} {v : Int32} {M' : oM}  (hd : 3 ≤ d) (hK : oSR K)   (h : f_X12_shift_113 N K  N p1 p2 p3 p4 p5 p6 M = some (v, M')) : oEv X d J_X12_shift 113 [some (.ref 59), some (.int p1), some (.int p2), some (.int p3), some (.int p4), some (.int p5), some (.int p6)] [] K M (some (.int v)) K M' := v_X12_shift_113_L hd hK  N p1 p2 p3 p4 p5 p6 M v M'   h
def f_X12_shift (N : Nat) (K : oK) (p1 : Int32) (p2 : Int32) (p3 : Int32) (p4 : Int32) (p5 : Int32) (M : oM) : Option (Int32 × oM) :=
  oB2 (f_X12_isShelf N K p1 M) (fun v1 M2 => cond v1 (oB2 (f_X12_isShelf N K p3 M2) (fun v4 M5 => cond v4 (oIx (p1) 6 ((if (M5.1 97 (p1 : Int32).toNatClampNeg) < 0 then some ((-11), M5) else oIx (p3) 6 ((if 0 ≤ (M5.1 97 (p3 : Int32).toNatClampNeg) then oIx (p1) 6 ((if (M5.1 97 (p1 : Int32).toNatClampNeg) < 20 then some ((-12), M5) else oIx (p1) 6 (oIx (p3) 6 ((if (M5.1 97 (p1 : Int32).toNatClampNeg) = (M5.1 97 (p3 : Int32).toNatClampNeg) then (if p5 < 0 then some ((-13), M5) else (if p2 < 0 then some ((-13), M5) else (if p4 < 0 then some ((-13), M5) else oIx (p1) 6 ((if ((M5.1 98 (p1 : Int32).toNatClampNeg) - p5) < p2 then some ((-13), M5) else oIx (p3) 6 ((if p4 ≤ ((M5.1 98 (p3 : Int32).toNatClampNeg) - p5) then (f_X12_shift_113 N K  N p1 p2 p3 p4 p5 0 M5) else some ((-13), M5)))))))) else some ((-12), M5)))))) else some ((-11), M5)))))) (some ((-1), M5)))) (some ((-1), M2)))
set_option maxRecDepth 20000 in
theorem v_X12_shift {X : oX} {N : Nat} {K : oK} {p1 : Int32} {p2 : Int32} {p3 : Int32} {p4 : Int32} {p5 : Int32} {M : oM} {v : Int32} {M' : oM} (hK : oSR K)  (h : f_X12_shift N K p1 p2 p3 p4 p5 M = some (v, M')) : oMet X 3 J_X12_shift [(.ref 59), (.int p1), (.int p2), (.int p3), (.int p4), (.int p5)] K M (some (.int v)) K M' := by
  unfold f_X12_shift at h
  refine oMet_of (L := [some (.ref 59), some (.int p1), some (.int p2), some (.int p3), some (.int p4), some (.int p5), none]) jJ_X12_shift.1 rfl (Nat.le_of_ble_eq_true rfl) rfl (Nat.le_refl _) (Nat.le_refl _) ?_
  have hd : 3 ≤ 3 := Nat.le_refl _
  refine oe_iload_n (pc := 0) d_X12_shift_0 rfl ?_
  obtain ⟨v1, M2, q3, h⟩ := oB2_some h
  cases v1 with
  | true =>
    replace h := oCt h
    refine oe_callS (pc := 1) d_X12_shift_1 (v_X12_isShelf hK  q3) (by omega) ml_X12_237 jJ_X12_isShelf rfl rfl (Nat.le_of_ble_eq_true rfl) ⟨Nat.le_refl _, Nat.le_refl _⟩ ⟨Nat.le_refl _, Nat.le_refl _⟩ ?_
    refine oe_if_eq (pc := 4) (tgt := 14) d_X12_shift_4 (by decide) (fun c => absurd c (by decide)) (fun _ => ?_)
    refine oe_iload_n (pc := 7) d_X12_shift_7 rfl ?_
    obtain ⟨v4, M5, q6, h⟩ := oB2_some h
    cases v4 with
    | true =>
      replace h := oCt h
      refine oe_callS (pc := 8) d_X12_shift_8 (v_X12_isShelf hK  q6) (by omega) ml_X12_237 jJ_X12_isShelf rfl rfl (Nat.le_of_ble_eq_true rfl) ⟨Nat.le_refl _, Nat.le_refl _⟩ ⟨Nat.le_refl _, Nat.le_refl _⟩ ?_
      refine oe_if_ne (pc := 11) (tgt := 16) d_X12_shift_11 (by decide) (fun _ => ?_) (fun c => absurd c (by decide))
      refine oe_aload_n (pc := 16) d_X12_shift_16 rfl ?_
      refine oe_getr (pc := 17) d_X12_shift_17 fl_X12_122 ock12 (k := 62) (b := 97) (Nat.le_of_ble_eq_true rfl) (by decide) (oLt hK (a := 59) (Nat.le_of_ble_eq_true rfl)) (oSho hK (a := 59) (Nat.le_of_ble_eq_true rfl) rfl) (oRfK hK rfl) ?_
      refine oe_iload_n (pc := 20) d_X12_shift_20 rfl ?_
      obtain ⟨i7, h⟩ := oIx_some h
      refine oe_iald (pc := 21) d_X12_shift_21 (oLt hK (a := 97) (Nat.le_of_ble_eq_true rfl)) (oSha hK (a := 97) (Nat.le_of_ble_eq_true rfl) rfl) i7 ?_
      refine oe_if_lt (pc := 22) (tgt := 34) d_X12_shift_22 (by decide) (fun c8 => ?_) (fun c8 => ?_)
      · replace h := (if_pos c8).symm.trans h
        refine oe_bipush (pc := 34) (v := (-11)) d_X12_shift_34 rfl ?_
        obtain ⟨rfl, rfl⟩ := oRes h
        exact oe_iret (pc := 36) d_X12_shift_36 ⟨_, rfl, rfl⟩
      · replace h := (if_neg c8).symm.trans h
        refine oe_aload_n (pc := 25) d_X12_shift_25 rfl ?_
        refine oe_getr (pc := 26) d_X12_shift_26 fl_X12_122 ock12 (k := 62) (b := 97) (Nat.le_of_ble_eq_true rfl) (by decide) (oLt hK (a := 59) (Nat.le_of_ble_eq_true rfl)) (oSho hK (a := 59) (Nat.le_of_ble_eq_true rfl) rfl) (oRfK hK rfl) ?_
        refine oe_iload_n (pc := 29) d_X12_shift_29 rfl ?_
        obtain ⟨i9, h⟩ := oIx_some h
        refine oe_iald (pc := 30) d_X12_shift_30 (oLt hK (a := 97) (Nat.le_of_ble_eq_true rfl)) (oSha hK (a := 97) (Nat.le_of_ble_eq_true rfl) rfl) i9 ?_
        refine oe_if_ge (pc := 31) (tgt := 37) d_X12_shift_31 (by decide) (fun c10 => ?_) (fun c10 => ?_)
        · replace h := (if_pos c10).symm.trans h
          refine oe_aload_n (pc := 37) d_X12_shift_37 rfl ?_
          refine oe_getr (pc := 38) d_X12_shift_38 fl_X12_122 ock12 (k := 62) (b := 97) (Nat.le_of_ble_eq_true rfl) (by decide) (oLt hK (a := 59) (Nat.le_of_ble_eq_true rfl)) (oSho hK (a := 59) (Nat.le_of_ble_eq_true rfl) rfl) (oRfK hK rfl) ?_
          refine oe_iload_n (pc := 41) d_X12_shift_41 rfl ?_
          obtain ⟨i11, h⟩ := oIx_some h
          refine oe_iald (pc := 42) d_X12_shift_42 (oLt hK (a := 97) (Nat.le_of_ble_eq_true rfl)) (oSha hK (a := 97) (Nat.le_of_ble_eq_true rfl) rfl) i11 ?_
          refine oe_bipush (pc := 43) (v := 20) d_X12_shift_43 rfl ?_
          refine oe_icmp_lt (pc := 45) (tgt := 63) d_X12_shift_45 (by decide) (fun c12 => ?_) (fun c12 => ?_)
          · replace h := (if_pos c12).symm.trans h
            refine oe_bipush (pc := 63) (v := (-12)) d_X12_shift_63 rfl ?_
            obtain ⟨rfl, rfl⟩ := oRes h
            exact oe_iret (pc := 65) d_X12_shift_65 ⟨_, rfl, rfl⟩
          · replace h := (if_neg c12).symm.trans h
            refine oe_aload_n (pc := 48) d_X12_shift_48 rfl ?_
            refine oe_getr (pc := 49) d_X12_shift_49 fl_X12_122 ock12 (k := 62) (b := 97) (Nat.le_of_ble_eq_true rfl) (by decide) (oLt hK (a := 59) (Nat.le_of_ble_eq_true rfl)) (oSho hK (a := 59) (Nat.le_of_ble_eq_true rfl) rfl) (oRfK hK rfl) ?_
            refine oe_iload_n (pc := 52) d_X12_shift_52 rfl ?_
            obtain ⟨i13, h⟩ := oIx_some h
            refine oe_iald (pc := 53) d_X12_shift_53 (oLt hK (a := 97) (Nat.le_of_ble_eq_true rfl)) (oSha hK (a := 97) (Nat.le_of_ble_eq_true rfl) rfl) i13 ?_
            refine oe_aload_n (pc := 54) d_X12_shift_54 rfl ?_
            refine oe_getr (pc := 55) d_X12_shift_55 fl_X12_122 ock12 (k := 62) (b := 97) (Nat.le_of_ble_eq_true rfl) (by decide) (oLt hK (a := 59) (Nat.le_of_ble_eq_true rfl)) (oSho hK (a := 59) (Nat.le_of_ble_eq_true rfl) rfl) (oRfK hK rfl) ?_
            refine oe_iload_n (pc := 58) d_X12_shift_58 rfl ?_
            obtain ⟨i14, h⟩ := oIx_some h
            refine oe_iald (pc := 59) d_X12_shift_59 (oLt hK (a := 97) (Nat.le_of_ble_eq_true rfl)) (oSha hK (a := 97) (Nat.le_of_ble_eq_true rfl) rfl) i14 ?_
            refine oe_icmp_eq (pc := 60) (tgt := 66) d_X12_shift_60 (by decide) (fun c15 => ?_) (fun c15 => ?_)
            · replace h := (if_pos c15).symm.trans h
              refine oe_iload (pc := 66) d_X12_shift_66 rfl ?_
              refine oe_if_lt (pc := 68) (tgt := 107) d_X12_shift_68 (by decide) (fun c16 => ?_) (fun c16 => ?_)
              · replace h := (if_pos c16).symm.trans h
                refine oe_bipush (pc := 107) (v := (-13)) d_X12_shift_107 rfl ?_
                obtain ⟨rfl, rfl⟩ := oRes h
                exact oe_iret (pc := 109) d_X12_shift_109 ⟨_, rfl, rfl⟩
              · replace h := (if_neg c16).symm.trans h
                refine oe_iload_n (pc := 71) d_X12_shift_71 rfl ?_
                refine oe_if_lt (pc := 72) (tgt := 107) d_X12_shift_72 (by decide) (fun c17 => ?_) (fun c17 => ?_)
                · replace h := (if_pos c17).symm.trans h
                  refine oe_bipush (pc := 107) (v := (-13)) d_X12_shift_107 rfl ?_
                  obtain ⟨rfl, rfl⟩ := oRes h
                  exact oe_iret (pc := 109) d_X12_shift_109 ⟨_, rfl, rfl⟩
                · replace h := (if_neg c17).symm.trans h
                  refine oe_iload (pc := 75) d_X12_shift_75 rfl ?_
                  refine oe_if_lt (pc := 77) (tgt := 107) d_X12_shift_77 (by decide) (fun c18 => ?_) (fun c18 => ?_)
                  · replace h := (if_pos c18).symm.trans h
                    refine oe_bipush (pc := 107) (v := (-13)) d_X12_shift_107 rfl ?_
                    obtain ⟨rfl, rfl⟩ := oRes h
                    exact oe_iret (pc := 109) d_X12_shift_109 ⟨_, rfl, rfl⟩
                  · replace h := (if_neg c18).symm.trans h
                    refine oe_iload_n (pc := 80) d_X12_shift_80 rfl ?_
                    refine oe_aload_n (pc := 81) d_X12_shift_81 rfl ?_
                    refine oe_getr (pc := 82) d_X12_shift_82 fl_X12_125 ock12 (k := 63) (b := 98) (Nat.le_of_ble_eq_true rfl) (by decide) (oLt hK (a := 59) (Nat.le_of_ble_eq_true rfl)) (oSho hK (a := 59) (Nat.le_of_ble_eq_true rfl) rfl) (oRfK hK rfl) ?_
                    refine oe_iload_n (pc := 85) d_X12_shift_85 rfl ?_
                    obtain ⟨i19, h⟩ := oIx_some h
                    refine oe_iald (pc := 86) d_X12_shift_86 (oLt hK (a := 98) (Nat.le_of_ble_eq_true rfl)) (oSha hK (a := 98) (Nat.le_of_ble_eq_true rfl) rfl) i19 ?_
                    refine oe_iload (pc := 87) d_X12_shift_87 rfl ?_
                    refine oe_isub (pc := 89) d_X12_shift_89 ?_
                    refine oe_icmp_gt (pc := 90) (tgt := 107) d_X12_shift_90 (by decide) (fun c20 => ?_) (fun c20 => ?_)
                    · replace h := (if_pos c20).symm.trans h
                      refine oe_bipush (pc := 107) (v := (-13)) d_X12_shift_107 rfl ?_
                      obtain ⟨rfl, rfl⟩ := oRes h
                      exact oe_iret (pc := 109) d_X12_shift_109 ⟨_, rfl, rfl⟩
                    · replace h := (if_neg c20).symm.trans h
                      refine oe_iload (pc := 93) d_X12_shift_93 rfl ?_
                      refine oe_aload_n (pc := 95) d_X12_shift_95 rfl ?_
                      refine oe_getr (pc := 96) d_X12_shift_96 fl_X12_125 ock12 (k := 63) (b := 98) (Nat.le_of_ble_eq_true rfl) (by decide) (oLt hK (a := 59) (Nat.le_of_ble_eq_true rfl)) (oSho hK (a := 59) (Nat.le_of_ble_eq_true rfl) rfl) (oRfK hK rfl) ?_
                      refine oe_iload_n (pc := 99) d_X12_shift_99 rfl ?_
                      obtain ⟨i21, h⟩ := oIx_some h
                      refine oe_iald (pc := 100) d_X12_shift_100 (oLt hK (a := 98) (Nat.le_of_ble_eq_true rfl)) (oSha hK (a := 98) (Nat.le_of_ble_eq_true rfl) rfl) i21 ?_
                      refine oe_iload (pc := 101) d_X12_shift_101 rfl ?_
                      refine oe_isub (pc := 103) d_X12_shift_103 ?_
                      refine oe_icmp_le (pc := 104) (tgt := 110) d_X12_shift_104 (by decide) (fun c22 => ?_) (fun c22 => ?_)
                      · replace h := (if_pos c22).symm.trans h
                        refine oe_iconst (pc := 110) (v := 0) d_X12_shift_110 rfl ?_
                        refine oe_istore (pc := 111) (L2 := [_, _, _, _, _, _, _]) d_X12_shift_111 rfl (Nat.le_of_ble_eq_true rfl) rfl ?_
                        exact v_X12_shift_113 hd hK   h
                      · replace h := (if_neg c22).symm.trans h
                        refine oe_bipush (pc := 107) (v := (-13)) d_X12_shift_107 rfl ?_
                        obtain ⟨rfl, rfl⟩ := oRes h
                        exact oe_iret (pc := 109) d_X12_shift_109 ⟨_, rfl, rfl⟩
            · replace h := (if_neg c15).symm.trans h
              refine oe_bipush (pc := 63) (v := (-12)) d_X12_shift_63 rfl ?_
              obtain ⟨rfl, rfl⟩ := oRes h
              exact oe_iret (pc := 65) d_X12_shift_65 ⟨_, rfl, rfl⟩
        · replace h := (if_neg c10).symm.trans h
          refine oe_bipush (pc := 34) (v := (-11)) d_X12_shift_34 rfl ?_
          obtain ⟨rfl, rfl⟩ := oRes h
          exact oe_iret (pc := 36) d_X12_shift_36 ⟨_, rfl, rfl⟩
    | false =>
      replace h := oCf h
      refine oe_callS (pc := 8) d_X12_shift_8 (v_X12_isShelf hK  q6) (by omega) ml_X12_237 jJ_X12_isShelf rfl rfl (Nat.le_of_ble_eq_true rfl) ⟨Nat.le_refl _, Nat.le_refl _⟩ ⟨Nat.le_refl _, Nat.le_refl _⟩ ?_
      refine oe_if_ne (pc := 11) (tgt := 16) d_X12_shift_11 (by decide) (fun c => absurd (by decide) c) (fun _ => ?_)
      refine oe_iconst (pc := 14) (v := (-1)) d_X12_shift_14 rfl ?_
      obtain ⟨rfl, rfl⟩ := oRes h
      exact oe_iret (pc := 15) d_X12_shift_15 ⟨_, rfl, rfl⟩
  | false =>
    replace h := oCf h
    refine oe_callS (pc := 1) d_X12_shift_1 (v_X12_isShelf hK  q3) (by omega) ml_X12_237 jJ_X12_isShelf rfl rfl (Nat.le_of_ble_eq_true rfl) ⟨Nat.le_refl _, Nat.le_refl _⟩ ⟨Nat.le_refl _, Nat.le_refl _⟩ ?_
    refine oe_if_eq (pc := 4) (tgt := 14) d_X12_shift_4 (by decide) (fun _ => ?_) (fun c => absurd (by decide) c)
    refine oe_iconst (pc := 14) (v := (-1)) d_X12_shift_14 rfl ?_
    obtain ⟨rfl, rfl⟩ := oRes h
    exact oe_iret (pc := 15) d_X12_shift_15 ⟨_, rfl, rfl⟩
theorem d_X12_taken_0 : decode J_X12_taken.2.1 0 = .ok (.iload_n 1, 1) := by decide +kernel
theorem d_X12_taken_1 : decode J_X12_taken.2.1 1 = .ok (.invokestatic 237, 3) := by decide +kernel
theorem d_X12_taken_4 : decode J_X12_taken.2.1 4 = .ok (.ifCond .eq 15, 3) := by decide +kernel
theorem d_X12_taken_7 : decode J_X12_taken.2.1 7 = .ok (.iload_n 2, 1) := by decide +kernel
theorem d_X12_taken_8 : decode J_X12_taken.2.1 8 = .ok (.i2l, 1) := by decide +kernel
theorem d_X12_taken_9 : decode J_X12_taken.2.1 9 = .ok (.lconst 0, 1) := by decide +kernel
theorem d_X12_taken_10 : decode J_X12_taken.2.1 10 = .ok (.ldc2_w 225, 3) := by decide +kernel
theorem d_X12_taken_13 : decode J_X12_taken.2.1 13 = .ok (.invokestatic 145, 3) := by decide +kernel
theorem d_X12_taken_16 : decode J_X12_taken.2.1 16 = .ok (.ifCond .ne 5, 3) := by decide +kernel
theorem d_X12_taken_19 : decode J_X12_taken.2.1 19 = .ok (.iconst (-1), 1) := by decide +kernel
theorem d_X12_taken_20 : decode J_X12_taken.2.1 20 = .ok (.ireturn, 1) := by decide +kernel
theorem d_X12_taken_21 : decode J_X12_taken.2.1 21 = .ok (.aload_n 0, 1) := by decide +kernel
theorem d_X12_taken_22 : decode J_X12_taken.2.1 22 = .ok (.getfield 122, 3) := by decide +kernel
theorem d_X12_taken_25 : decode J_X12_taken.2.1 25 = .ok (.iload_n 1, 1) := by decide +kernel
theorem d_X12_taken_26 : decode J_X12_taken.2.1 26 = .ok (.iaload, 1) := by decide +kernel
theorem d_X12_taken_27 : decode J_X12_taken.2.1 27 = .ok (.ifCond .ge 6, 3) := by decide +kernel
theorem d_X12_taken_30 : decode J_X12_taken.2.1 30 = .ok (.bipush (-11), 2) := by decide +kernel
theorem d_X12_taken_32 : decode J_X12_taken.2.1 32 = .ok (.ireturn, 1) := by decide +kernel
theorem d_X12_taken_33 : decode J_X12_taken.2.1 33 = .ok (.aload_n 0, 1) := by decide +kernel
theorem d_X12_taken_34 : decode J_X12_taken.2.1 34 = .ok (.getfield 122, 3) := by decide +kernel
theorem d_X12_taken_37 : decode J_X12_taken.2.1 37 = .ok (.iload_n 1, 1) := by decide +kernel
theorem d_X12_taken_38 : decode J_X12_taken.2.1 38 = .ok (.iaload, 1) := by decide +kernel
theorem d_X12_taken_39 : decode J_X12_taken.2.1 39 = .ok (.bipush 20, 2) := by decide +kernel
theorem d_X12_taken_41 : decode J_X12_taken.2.1 41 = .ok (.if_icmp .lt 6, 3) := by decide +kernel
theorem d_X12_taken_44 : decode J_X12_taken.2.1 44 = .ok (.bipush (-12), 2) := by decide +kernel
theorem d_X12_taken_46 : decode J_X12_taken.2.1 46 = .ok (.ireturn, 1) := by decide +kernel
theorem d_X12_taken_47 : decode J_X12_taken.2.1 47 = .ok (.aload_n 0, 1) := by decide +kernel
theorem d_X12_taken_48 : decode J_X12_taken.2.1 48 = .ok (.aload_n 0, 1) := by decide +kernel
theorem d_X12_taken_49 : decode J_X12_taken.2.1 49 = .ok (.getfield 122, 3) := by decide +kernel
theorem d_X12_taken_52 : decode J_X12_taken.2.1 52 = .ok (.iload_n 1, 1) := by decide +kernel
theorem d_X12_taken_53 : decode J_X12_taken.2.1 53 = .ok (.iaload, 1) := by decide +kernel
theorem d_X12_taken_54 : decode J_X12_taken.2.1 54 = .ok (.invokevirtual 392, 3) := by decide +kernel
theorem d_X12_taken_57 : decode J_X12_taken.2.1 57 = .ok (.istore_n 3, 1) := by decide +kernel
theorem d_X12_taken_58 : decode J_X12_taken.2.1 58 = .ok (.iload_n 3, 1) := by decide +kernel
theorem d_X12_taken_59 : decode J_X12_taken.2.1 59 = .ok (.iload_n 2, 1) := by decide +kernel
theorem d_X12_taken_60 : decode J_X12_taken.2.1 60 = .ok (.if_icmp .eq 15, 3) := by decide +kernel
theorem d_X12_taken_63 : decode J_X12_taken.2.1 63 = .ok (.iload_n 3, 1) := by decide +kernel
theorem d_X12_taken_64 : decode J_X12_taken.2.1 64 = .ok (.ifCond .le 11, 3) := by decide +kernel
theorem d_X12_taken_67 : decode J_X12_taken.2.1 67 = .ok (.iload_n 3, 1) := by decide +kernel
theorem d_X12_taken_68 : decode J_X12_taken.2.1 68 = .ok (.invokestatic 395, 3) := by decide +kernel
theorem d_X12_taken_71 : decode J_X12_taken.2.1 71 = .ok (.istore_n 3, 1) := by decide +kernel
theorem d_X12_taken_72 : decode J_X12_taken.2.1 72 = .ok (.goto (-14), 3) := by decide +kernel
theorem d_X12_taken_75 : decode J_X12_taken.2.1 75 = .ok (.iload_n 3, 1) := by decide +kernel
theorem d_X12_taken_76 : decode J_X12_taken.2.1 76 = .ok (.iload_n 2, 1) := by decide +kernel
theorem d_X12_taken_77 : decode J_X12_taken.2.1 77 = .ok (.if_icmp .ne 16, 3) := by decide +kernel
theorem d_X12_taken_80 : decode J_X12_taken.2.1 80 = .ok (.aload_n 0, 1) := by decide +kernel
theorem d_X12_taken_81 : decode J_X12_taken.2.1 81 = .ok (.aload_n 0, 1) := by decide +kernel
theorem d_X12_taken_82 : decode J_X12_taken.2.1 82 = .ok (.getfield 122, 3) := by decide +kernel
theorem d_X12_taken_85 : decode J_X12_taken.2.1 85 = .ok (.iload_n 1, 1) := by decide +kernel
theorem d_X12_taken_86 : decode J_X12_taken.2.1 86 = .ok (.iaload, 1) := by decide +kernel
theorem d_X12_taken_87 : decode J_X12_taken.2.1 87 = .ok (.invokevirtual 392, 3) := by decide +kernel
theorem d_X12_taken_90 : decode J_X12_taken.2.1 90 = .ok (.goto 5, 3) := by decide +kernel
theorem d_X12_taken_93 : decode J_X12_taken.2.1 93 = .ok (.bipush (-12), 2) := by decide +kernel
theorem d_X12_taken_95 : decode J_X12_taken.2.1 95 = .ok (.ireturn, 1) := by decide +kernel
def f_X12_taken_75 (N : Nat) (K : oK)  (p1 : Int32) (p2 : Int32) (p3 : Int32) (M : oM) : Option (Int32 × oM) :=
  (if p3 = p2 then oIx (p1) 6 (oB2 (f_X12_kindOf N K (M.1 97 (p1 : Int32).toNatClampNeg) M) (fun v18 M19 => some (v18, M19))) else some ((-12), M))
set_option maxRecDepth 20000 in
theorem v_X12_taken_75 {X : oX} {d N : Nat} {K : oK}  {p1 : Int32} {p2 : Int32} {p3 : Int32} {M : oM} {v : Int32} {M' : oM}  (hd : 3 ≤ d) (hK : oSR K)   (h : f_X12_taken_75 N K  p1 p2 p3 M = some (v, M')) : oEv X d J_X12_taken 75 [some (.ref 59), some (.int p1), some (.int p2), some (.int p3)] [] K M (some (.int v)) K M' := by
  unfold f_X12_taken_75 at h
  refine oe_iload_n (pc := 75) d_X12_taken_75 rfl ?_
  refine oe_iload_n (pc := 76) d_X12_taken_76 rfl ?_
  refine oe_icmp_ne (pc := 77) (tgt := 93) d_X12_taken_77 (by decide) (fun c16 => ?_) (fun c16 => ?_)
  · replace h := (if_neg c16).symm.trans h
    refine oe_bipush (pc := 93) (v := (-12)) d_X12_taken_93 rfl ?_
    obtain ⟨rfl, rfl⟩ := oRes h
    exact oe_iret (pc := 95) d_X12_taken_95 ⟨_, rfl, rfl⟩
  · replace h := (if_pos c16).symm.trans h
    refine oe_aload_n (pc := 80) d_X12_taken_80 rfl ?_
    refine oe_aload_n (pc := 81) d_X12_taken_81 rfl ?_
    refine oe_getr (pc := 82) d_X12_taken_82 fl_X12_122 ock12 (k := 62) (b := 97) (Nat.le_of_ble_eq_true rfl) (by decide) (oLt hK (a := 59) (Nat.le_of_ble_eq_true rfl)) (oSho hK (a := 59) (Nat.le_of_ble_eq_true rfl) rfl) (oRfK hK rfl) ?_
    refine oe_iload_n (pc := 85) d_X12_taken_85 rfl ?_
    obtain ⟨i17, h⟩ := oIx_some h
    refine oe_iald (pc := 86) d_X12_taken_86 (oLt hK (a := 97) (Nat.le_of_ble_eq_true rfl)) (oSha hK (a := 97) (Nat.le_of_ble_eq_true rfl) rfl) i17 ?_
    obtain ⟨v18, M19, q20, h⟩ := oB2_some h
    refine oe_callV (pc := 87) (ci := 12) d_X12_taken_87 (v_X12_kindOf hK  q20) (by omega) ml_X12_392 jJ_X12_kindOf rfl rfl (oLt hK (a := 59) (Nat.le_of_ble_eq_true rfl)) (oSho hK (a := 59) (Nat.le_of_ble_eq_true rfl) rfl) ock12 rfl (Nat.le_of_ble_eq_true rfl) ⟨Nat.le_refl _, Nat.le_refl _⟩ ⟨Nat.le_refl _, Nat.le_refl _⟩ ?_
    refine oe_goto (pc := 90) (tgt := 95) d_X12_taken_90 (by decide) ?_
    obtain ⟨rfl, rfl⟩ := oRes h
    exact oe_iret (pc := 95) d_X12_taken_95 ⟨_, rfl, rfl⟩
def f_X12_taken_58 (N : Nat) (K : oK)  : Nat → Int32 → Int32 → Int32 → oM → Option (Int32 × oM)
  | 0, _, _, _, _ => none
  | n + 1, p1, p2, p3, M => (fun r58 => (if p3 = p2 then (f_X12_taken_75 N K  p1 p2 p3 M) else (if p3 ≤ 0 then (f_X12_taken_75 N K  p1 p2 p3 M) else oB2 (f_X12_above N K p3 M) (fun v22 M23 => (r58 p1 p2 v22 M23))))) (f_X12_taken_58 N K  n)
set_option maxRecDepth 20000 in
theorem v_X12_taken_58_L {X : oX} {d N : Nat} {K : oK}  (hd : 3 ≤ d) (hK : oSR K)  : ∀ (n : Nat) (p1 : Int32) (p2 : Int32) (p3 : Int32) (M : oM) (v : Int32) (M' : oM)  , f_X12_taken_58 N K  n p1 p2 p3 M = some (v, M') → oEv X d J_X12_taken 58 [some (.ref 59), some (.int p1), some (.int p2), some (.int p3)] [] K M (some (.int v)) K M' := by
  intro n
  induction n with
  | zero =>
    intro p1 p2 p3 M v M'   h
    cases h
  | succ n hr58 =>
    intro p1 p2 p3 M v M'   h
    refine oe_iload_n (pc := 58) d_X12_taken_58 rfl ?_
    refine oe_iload_n (pc := 59) d_X12_taken_59 rfl ?_
    refine oe_icmp_eq (pc := 60) (tgt := 75) d_X12_taken_60 (by decide) (fun c15 => ?_) (fun c15 => ?_)
    · replace h := (if_pos c15).symm.trans h
      exact v_X12_taken_75 hd hK   h
    · replace h := (if_neg c15).symm.trans h
      refine oe_iload_n (pc := 63) d_X12_taken_63 rfl ?_
      refine oe_if_le (pc := 64) (tgt := 75) d_X12_taken_64 (by decide) (fun c21 => ?_) (fun c21 => ?_)
      · replace h := (if_pos c21).symm.trans h
        exact v_X12_taken_75 hd hK   h
      · replace h := (if_neg c21).symm.trans h
        refine oe_iload_n (pc := 67) d_X12_taken_67 rfl ?_
        obtain ⟨v22, M23, q24, h⟩ := oB2_some h
        refine oe_callS (pc := 68) d_X12_taken_68 (v_X12_above hK  q24) (by omega) ml_X12_395 jJ_X12_above rfl rfl (Nat.le_of_ble_eq_true rfl) ⟨Nat.le_refl _, Nat.le_refl _⟩ ⟨Nat.le_refl _, Nat.le_refl _⟩ ?_
        refine oe_istore_n (pc := 71) (L2 := [_, _, _, _]) d_X12_taken_71 rfl rfl (Nat.le_of_ble_eq_true rfl) rfl ?_
        refine oe_goto (pc := 72) (tgt := 58) d_X12_taken_72 (by decide) ?_
        exact hr58 _ _ _ _ _ _ h
theorem v_X12_taken_58 {X : oX} {d N : Nat} {K : oK}  {p1 : Int32} {p2 : Int32} {p3 : Int32} {M : oM} {v : Int32} {M' : oM}  (hd : 3 ≤ d) (hK : oSR K)   (h : f_X12_taken_58 N K  N p1 p2 p3 M = some (v, M')) : oEv X d J_X12_taken 58 [some (.ref 59), some (.int p1), some (.int p2), some (.int p3)] [] K M (some (.int v)) K M' := v_X12_taken_58_L hd hK  N p1 p2 p3 M v M'   h
def f_X12_taken (N : Nat) (K : oK) (p1 : Int32) (p2 : Int32) (M : oM) : Option (Int32 × oM) :=
  oB2 (f_X12_isShelf N K p1 M) (fun v1 M2 => cond v1 (oB2 (f_X12_within N K ((p2 : Int32).toInt64) 0 5 M2) (fun v4 M5 => cond v4 (oIx (p1) 6 ((if 0 ≤ (M5.1 97 (p1 : Int32).toNatClampNeg) then oIx (p1) 6 ((if (M5.1 97 (p1 : Int32).toNatClampNeg) < 20 then oIx (p1) 6 (oB2 (f_X12_kindOf N K (M5.1 97 (p1 : Int32).toNatClampNeg) M5) (fun v12 M13 => (f_X12_taken_58 N K  N p1 p2 v12 M13))) else some ((-12), M5))) else some ((-11), M5)))) (some ((-1), M5)))) (some ((-1), M2)))
set_option maxRecDepth 20000 in
theorem v_X12_taken {X : oX} {N : Nat} {K : oK} {p1 : Int32} {p2 : Int32} {M : oM} {v : Int32} {M' : oM} (hK : oSR K)  (h : f_X12_taken N K p1 p2 M = some (v, M')) : oMet X 3 J_X12_taken [(.ref 59), (.int p1), (.int p2)] K M (some (.int v)) K M' := by
  unfold f_X12_taken at h
  refine oMet_of (L := [some (.ref 59), some (.int p1), some (.int p2), none]) jJ_X12_taken.1 rfl (Nat.le_of_ble_eq_true rfl) rfl (Nat.le_refl _) (Nat.le_refl _) ?_
  have hd : 3 ≤ 3 := Nat.le_refl _
  refine oe_iload_n (pc := 0) d_X12_taken_0 rfl ?_
  obtain ⟨v1, M2, q3, h⟩ := oB2_some h
  cases v1 with
  | true =>
    replace h := oCt h
    refine oe_callS (pc := 1) d_X12_taken_1 (v_X12_isShelf hK  q3) (by omega) ml_X12_237 jJ_X12_isShelf rfl rfl (Nat.le_of_ble_eq_true rfl) ⟨Nat.le_refl _, Nat.le_refl _⟩ ⟨Nat.le_refl _, Nat.le_refl _⟩ ?_
    refine oe_if_eq (pc := 4) (tgt := 19) d_X12_taken_4 (by decide) (fun c => absurd c (by decide)) (fun _ => ?_)
    refine oe_iload_n (pc := 7) d_X12_taken_7 rfl ?_
    refine oe_i2l (pc := 8) d_X12_taken_8 ?_
    refine oe_lconst (pc := 9) (v := 0) d_X12_taken_9 rfl ?_
    refine oe_ldc2 (pc := 10) d_X12_taken_10 co_X12_225 ?_
    obtain ⟨v4, M5, q6, h⟩ := oB2_some h
    cases v4 with
    | true =>
      replace h := oCt h
      refine oe_callS (pc := 13) d_X12_taken_13 (v_X12_within hK  q6) (by omega) ml_X12_145 jJ_X12_within rfl rfl (Nat.le_of_ble_eq_true rfl) ⟨Nat.le_refl _, Nat.le_refl _⟩ ⟨Nat.le_refl _, Nat.le_refl _⟩ ?_
      refine oe_if_ne (pc := 16) (tgt := 21) d_X12_taken_16 (by decide) (fun _ => ?_) (fun c => absurd c (by decide))
      refine oe_aload_n (pc := 21) d_X12_taken_21 rfl ?_
      refine oe_getr (pc := 22) d_X12_taken_22 fl_X12_122 ock12 (k := 62) (b := 97) (Nat.le_of_ble_eq_true rfl) (by decide) (oLt hK (a := 59) (Nat.le_of_ble_eq_true rfl)) (oSho hK (a := 59) (Nat.le_of_ble_eq_true rfl) rfl) (oRfK hK rfl) ?_
      refine oe_iload_n (pc := 25) d_X12_taken_25 rfl ?_
      obtain ⟨i7, h⟩ := oIx_some h
      refine oe_iald (pc := 26) d_X12_taken_26 (oLt hK (a := 97) (Nat.le_of_ble_eq_true rfl)) (oSha hK (a := 97) (Nat.le_of_ble_eq_true rfl) rfl) i7 ?_
      refine oe_if_ge (pc := 27) (tgt := 33) d_X12_taken_27 (by decide) (fun c8 => ?_) (fun c8 => ?_)
      · replace h := (if_pos c8).symm.trans h
        refine oe_aload_n (pc := 33) d_X12_taken_33 rfl ?_
        refine oe_getr (pc := 34) d_X12_taken_34 fl_X12_122 ock12 (k := 62) (b := 97) (Nat.le_of_ble_eq_true rfl) (by decide) (oLt hK (a := 59) (Nat.le_of_ble_eq_true rfl)) (oSho hK (a := 59) (Nat.le_of_ble_eq_true rfl) rfl) (oRfK hK rfl) ?_
        refine oe_iload_n (pc := 37) d_X12_taken_37 rfl ?_
        obtain ⟨i9, h⟩ := oIx_some h
        refine oe_iald (pc := 38) d_X12_taken_38 (oLt hK (a := 97) (Nat.le_of_ble_eq_true rfl)) (oSha hK (a := 97) (Nat.le_of_ble_eq_true rfl) rfl) i9 ?_
        refine oe_bipush (pc := 39) (v := 20) d_X12_taken_39 rfl ?_
        refine oe_icmp_lt (pc := 41) (tgt := 47) d_X12_taken_41 (by decide) (fun c10 => ?_) (fun c10 => ?_)
        · replace h := (if_pos c10).symm.trans h
          refine oe_aload_n (pc := 47) d_X12_taken_47 rfl ?_
          refine oe_aload_n (pc := 48) d_X12_taken_48 rfl ?_
          refine oe_getr (pc := 49) d_X12_taken_49 fl_X12_122 ock12 (k := 62) (b := 97) (Nat.le_of_ble_eq_true rfl) (by decide) (oLt hK (a := 59) (Nat.le_of_ble_eq_true rfl)) (oSho hK (a := 59) (Nat.le_of_ble_eq_true rfl) rfl) (oRfK hK rfl) ?_
          refine oe_iload_n (pc := 52) d_X12_taken_52 rfl ?_
          obtain ⟨i11, h⟩ := oIx_some h
          refine oe_iald (pc := 53) d_X12_taken_53 (oLt hK (a := 97) (Nat.le_of_ble_eq_true rfl)) (oSha hK (a := 97) (Nat.le_of_ble_eq_true rfl) rfl) i11 ?_
          obtain ⟨v12, M13, q14, h⟩ := oB2_some h
          refine oe_callV (pc := 54) (ci := 12) d_X12_taken_54 (v_X12_kindOf hK  q14) (by omega) ml_X12_392 jJ_X12_kindOf rfl rfl (oLt hK (a := 59) (Nat.le_of_ble_eq_true rfl)) (oSho hK (a := 59) (Nat.le_of_ble_eq_true rfl) rfl) ock12 rfl (Nat.le_of_ble_eq_true rfl) ⟨Nat.le_refl _, Nat.le_refl _⟩ ⟨Nat.le_refl _, Nat.le_refl _⟩ ?_
          refine oe_istore_n (pc := 57) (L2 := [_, _, _, _]) d_X12_taken_57 rfl rfl (Nat.le_of_ble_eq_true rfl) rfl ?_
          exact v_X12_taken_58 hd hK   h
        · replace h := (if_neg c10).symm.trans h
          refine oe_bipush (pc := 44) (v := (-12)) d_X12_taken_44 rfl ?_
          obtain ⟨rfl, rfl⟩ := oRes h
          exact oe_iret (pc := 46) d_X12_taken_46 ⟨_, rfl, rfl⟩
      · replace h := (if_neg c8).symm.trans h
        refine oe_bipush (pc := 30) (v := (-11)) d_X12_taken_30 rfl ?_
        obtain ⟨rfl, rfl⟩ := oRes h
        exact oe_iret (pc := 32) d_X12_taken_32 ⟨_, rfl, rfl⟩
    | false =>
      replace h := oCf h
      refine oe_callS (pc := 13) d_X12_taken_13 (v_X12_within hK  q6) (by omega) ml_X12_145 jJ_X12_within rfl rfl (Nat.le_of_ble_eq_true rfl) ⟨Nat.le_refl _, Nat.le_refl _⟩ ⟨Nat.le_refl _, Nat.le_refl _⟩ ?_
      refine oe_if_ne (pc := 16) (tgt := 21) d_X12_taken_16 (by decide) (fun c => absurd (by decide) c) (fun _ => ?_)
      refine oe_iconst (pc := 19) (v := (-1)) d_X12_taken_19 rfl ?_
      obtain ⟨rfl, rfl⟩ := oRes h
      exact oe_iret (pc := 20) d_X12_taken_20 ⟨_, rfl, rfl⟩
  | false =>
    replace h := oCf h
    refine oe_callS (pc := 1) d_X12_taken_1 (v_X12_isShelf hK  q3) (by omega) ml_X12_237 jJ_X12_isShelf rfl rfl (Nat.le_of_ble_eq_true rfl) ⟨Nat.le_refl _, Nat.le_refl _⟩ ⟨Nat.le_refl _, Nat.le_refl _⟩ ?_
    refine oe_if_eq (pc := 4) (tgt := 19) d_X12_taken_4 (by decide) (fun _ => ?_) (fun c => absurd (by decide) c)
    refine oe_iconst (pc := 19) (v := (-1)) d_X12_taken_19 rfl ?_
    obtain ⟨rfl, rfl⟩ := oRes h
    exact oe_iret (pc := 20) d_X12_taken_20 ⟨_, rfl, rfl⟩
theorem d_X12_count_0 : decode J_X12_count.2.1 0 = .ok (.iload_n 1, 1) := by decide +kernel
theorem d_X12_count_1 : decode J_X12_count.2.1 1 = .ok (.tableswitch 96 0 8 #[51, 56, 61, 66, 71, 76, 81, 86, 91], 51) := by decide +kernel
theorem d_X12_count_52 : decode J_X12_count.2.1 52 = .ok (.aload_n 0, 1) := by decide +kernel
theorem d_X12_count_53 : decode J_X12_count.2.1 53 = .ok (.getfield 142, 3) := by decide +kernel
theorem d_X12_count_56 : decode J_X12_count.2.1 56 = .ok (.ireturn, 1) := by decide +kernel
theorem d_X12_count_57 : decode J_X12_count.2.1 57 = .ok (.aload_n 0, 1) := by decide +kernel
theorem d_X12_count_58 : decode J_X12_count.2.1 58 = .ok (.getfield 149, 3) := by decide +kernel
theorem d_X12_count_61 : decode J_X12_count.2.1 61 = .ok (.ireturn, 1) := by decide +kernel
theorem d_X12_count_62 : decode J_X12_count.2.1 62 = .ok (.aload_n 0, 1) := by decide +kernel
theorem d_X12_count_63 : decode J_X12_count.2.1 63 = .ok (.getfield 154, 3) := by decide +kernel
theorem d_X12_count_66 : decode J_X12_count.2.1 66 = .ok (.ireturn, 1) := by decide +kernel
theorem d_X12_count_67 : decode J_X12_count.2.1 67 = .ok (.aload_n 0, 1) := by decide +kernel
theorem d_X12_count_68 : decode J_X12_count.2.1 68 = .ok (.getfield 222, 3) := by decide +kernel
theorem d_X12_count_71 : decode J_X12_count.2.1 71 = .ok (.ireturn, 1) := by decide +kernel
theorem d_X12_count_72 : decode J_X12_count.2.1 72 = .ok (.aload_n 0, 1) := by decide +kernel
theorem d_X12_count_73 : decode J_X12_count.2.1 73 = .ok (.getfield 180, 3) := by decide +kernel
theorem d_X12_count_76 : decode J_X12_count.2.1 76 = .ok (.ireturn, 1) := by decide +kernel
theorem d_X12_count_77 : decode J_X12_count.2.1 77 = .ok (.aload_n 0, 1) := by decide +kernel
theorem d_X12_count_78 : decode J_X12_count.2.1 78 = .ok (.getfield 334, 3) := by decide +kernel
theorem d_X12_count_81 : decode J_X12_count.2.1 81 = .ok (.ireturn, 1) := by decide +kernel
theorem d_X12_count_82 : decode J_X12_count.2.1 82 = .ok (.aload_n 0, 1) := by decide +kernel
theorem d_X12_count_83 : decode J_X12_count.2.1 83 = .ok (.getfield 349, 3) := by decide +kernel
theorem d_X12_count_86 : decode J_X12_count.2.1 86 = .ok (.ireturn, 1) := by decide +kernel
theorem d_X12_count_87 : decode J_X12_count.2.1 87 = .ok (.aload_n 0, 1) := by decide +kernel
theorem d_X12_count_88 : decode J_X12_count.2.1 88 = .ok (.getfield 135, 3) := by decide +kernel
theorem d_X12_count_91 : decode J_X12_count.2.1 91 = .ok (.ireturn, 1) := by decide +kernel
theorem d_X12_count_92 : decode J_X12_count.2.1 92 = .ok (.aload_n 0, 1) := by decide +kernel
theorem d_X12_count_93 : decode J_X12_count.2.1 93 = .ok (.getfield 357, 3) := by decide +kernel
theorem d_X12_count_96 : decode J_X12_count.2.1 96 = .ok (.ireturn, 1) := by decide +kernel
theorem d_X12_count_97 : decode J_X12_count.2.1 97 = .ok (.iconst (-1), 1) := by decide +kernel
theorem d_X12_count_98 : decode J_X12_count.2.1 98 = .ok (.ireturn, 1) := by decide +kernel
def f_X12_count (N : Nat) (K : oK) (p1 : Int32) (M : oM) : Option (Int32 × oM) :=
  (if p1 = 0 then some ((M.1 59 6), M) else (if p1 = 1 then some ((M.1 59 7), M) else (if p1 = 2 then some ((M.1 59 11), M) else (if p1 = 3 then some ((M.1 59 20), M) else (if p1 = 4 then some ((M.1 59 15), M) else (if p1 = 5 then some ((M.1 59 49), M) else (if p1 = 6 then some ((M.1 59 55), M) else (if p1 = 7 then some ((M.1 59 5), M) else (if p1 = 8 then some ((M.1 59 59), M) else some ((-1), M))))))))))
set_option maxRecDepth 20000 in
theorem v_X12_count {X : oX} {N : Nat} {K : oK} {p1 : Int32} {M : oM} {v : Int32} {M' : oM} (hK : oSR K)  (h : f_X12_count N K p1 M = some (v, M')) : oMet X 1 J_X12_count [(.ref 59), (.int p1)] K M (some (.int v)) K M' := by
  unfold f_X12_count at h
  refine oMet_of (L := [some (.ref 59), some (.int p1)]) jJ_X12_count.1 rfl (Nat.le_of_ble_eq_true rfl) rfl (Nat.le_refl _) (Nat.le_refl _) ?_
  have hd : 1 ≤ 1 := Nat.le_refl _
  refine oe_iload_n (pc := 0) d_X12_count_0 rfl ?_
  by_cases c1_0 : p1 = 0
  · replace h := (if_pos c1_0).symm.trans h
    refine oe_tableIn (pc := 1) (tgt := 52) (off := 51) d_X12_count_1 (by rw [c1_0]; decide) (by rw [c1_0]; decide) (by rw [c1_0]; rfl) (by decide) ?_
    refine oe_aload_n (pc := 52) d_X12_count_52 rfl ?_
    refine oe_getf (pc := 53) d_X12_count_53 fl_X12_142 ock12 (k := 6) (Nat.le_of_ble_eq_true rfl) rfl (oLt hK (a := 59) (Nat.le_of_ble_eq_true rfl)) (oSho hK (a := 59) (Nat.le_of_ble_eq_true rfl) rfl) ?_
    obtain ⟨rfl, rfl⟩ := oRes h
    exact oe_iret (pc := 56) d_X12_count_56 ⟨_, rfl, rfl⟩
  · replace h := (if_neg c1_0).symm.trans h
    by_cases c1_1 : p1 = 1
    · replace h := (if_pos c1_1).symm.trans h
      refine oe_tableIn (pc := 1) (tgt := 57) (off := 56) d_X12_count_1 (by rw [c1_1]; decide) (by rw [c1_1]; decide) (by rw [c1_1]; rfl) (by decide) ?_
      refine oe_aload_n (pc := 57) d_X12_count_57 rfl ?_
      refine oe_getf (pc := 58) d_X12_count_58 fl_X12_149 ock12 (k := 7) (Nat.le_of_ble_eq_true rfl) rfl (oLt hK (a := 59) (Nat.le_of_ble_eq_true rfl)) (oSho hK (a := 59) (Nat.le_of_ble_eq_true rfl) rfl) ?_
      obtain ⟨rfl, rfl⟩ := oRes h
      exact oe_iret (pc := 61) d_X12_count_61 ⟨_, rfl, rfl⟩
    · replace h := (if_neg c1_1).symm.trans h
      by_cases c1_2 : p1 = 2
      · replace h := (if_pos c1_2).symm.trans h
        refine oe_tableIn (pc := 1) (tgt := 62) (off := 61) d_X12_count_1 (by rw [c1_2]; decide) (by rw [c1_2]; decide) (by rw [c1_2]; rfl) (by decide) ?_
        refine oe_aload_n (pc := 62) d_X12_count_62 rfl ?_
        refine oe_getf (pc := 63) d_X12_count_63 fl_X12_154 ock12 (k := 11) (Nat.le_of_ble_eq_true rfl) rfl (oLt hK (a := 59) (Nat.le_of_ble_eq_true rfl)) (oSho hK (a := 59) (Nat.le_of_ble_eq_true rfl) rfl) ?_
        obtain ⟨rfl, rfl⟩ := oRes h
        exact oe_iret (pc := 66) d_X12_count_66 ⟨_, rfl, rfl⟩
      · replace h := (if_neg c1_2).symm.trans h
        by_cases c1_3 : p1 = 3
        · replace h := (if_pos c1_3).symm.trans h
          refine oe_tableIn (pc := 1) (tgt := 67) (off := 66) d_X12_count_1 (by rw [c1_3]; decide) (by rw [c1_3]; decide) (by rw [c1_3]; rfl) (by decide) ?_
          refine oe_aload_n (pc := 67) d_X12_count_67 rfl ?_
          refine oe_getf (pc := 68) d_X12_count_68 fl_X12_222 ock12 (k := 20) (Nat.le_of_ble_eq_true rfl) rfl (oLt hK (a := 59) (Nat.le_of_ble_eq_true rfl)) (oSho hK (a := 59) (Nat.le_of_ble_eq_true rfl) rfl) ?_
          obtain ⟨rfl, rfl⟩ := oRes h
          exact oe_iret (pc := 71) d_X12_count_71 ⟨_, rfl, rfl⟩
        · replace h := (if_neg c1_3).symm.trans h
          by_cases c1_4 : p1 = 4
          · replace h := (if_pos c1_4).symm.trans h
            refine oe_tableIn (pc := 1) (tgt := 72) (off := 71) d_X12_count_1 (by rw [c1_4]; decide) (by rw [c1_4]; decide) (by rw [c1_4]; rfl) (by decide) ?_
            refine oe_aload_n (pc := 72) d_X12_count_72 rfl ?_
            refine oe_getf (pc := 73) d_X12_count_73 fl_X12_180 ock12 (k := 15) (Nat.le_of_ble_eq_true rfl) rfl (oLt hK (a := 59) (Nat.le_of_ble_eq_true rfl)) (oSho hK (a := 59) (Nat.le_of_ble_eq_true rfl) rfl) ?_
            obtain ⟨rfl, rfl⟩ := oRes h
            exact oe_iret (pc := 76) d_X12_count_76 ⟨_, rfl, rfl⟩
          · replace h := (if_neg c1_4).symm.trans h
            by_cases c1_5 : p1 = 5
            · replace h := (if_pos c1_5).symm.trans h
              refine oe_tableIn (pc := 1) (tgt := 77) (off := 76) d_X12_count_1 (by rw [c1_5]; decide) (by rw [c1_5]; decide) (by rw [c1_5]; rfl) (by decide) ?_
              refine oe_aload_n (pc := 77) d_X12_count_77 rfl ?_
              refine oe_getf (pc := 78) d_X12_count_78 fl_X12_334 ock12 (k := 49) (Nat.le_of_ble_eq_true rfl) rfl (oLt hK (a := 59) (Nat.le_of_ble_eq_true rfl)) (oSho hK (a := 59) (Nat.le_of_ble_eq_true rfl) rfl) ?_
              obtain ⟨rfl, rfl⟩ := oRes h
              exact oe_iret (pc := 81) d_X12_count_81 ⟨_, rfl, rfl⟩
            · replace h := (if_neg c1_5).symm.trans h
              by_cases c1_6 : p1 = 6
              · replace h := (if_pos c1_6).symm.trans h
                refine oe_tableIn (pc := 1) (tgt := 82) (off := 81) d_X12_count_1 (by rw [c1_6]; decide) (by rw [c1_6]; decide) (by rw [c1_6]; rfl) (by decide) ?_
                refine oe_aload_n (pc := 82) d_X12_count_82 rfl ?_
                refine oe_getf (pc := 83) d_X12_count_83 fl_X12_349 ock12 (k := 55) (Nat.le_of_ble_eq_true rfl) rfl (oLt hK (a := 59) (Nat.le_of_ble_eq_true rfl)) (oSho hK (a := 59) (Nat.le_of_ble_eq_true rfl) rfl) ?_
                obtain ⟨rfl, rfl⟩ := oRes h
                exact oe_iret (pc := 86) d_X12_count_86 ⟨_, rfl, rfl⟩
              · replace h := (if_neg c1_6).symm.trans h
                by_cases c1_7 : p1 = 7
                · replace h := (if_pos c1_7).symm.trans h
                  refine oe_tableIn (pc := 1) (tgt := 87) (off := 86) d_X12_count_1 (by rw [c1_7]; decide) (by rw [c1_7]; decide) (by rw [c1_7]; rfl) (by decide) ?_
                  refine oe_aload_n (pc := 87) d_X12_count_87 rfl ?_
                  refine oe_getf (pc := 88) d_X12_count_88 fl_X12_135 ock12 (k := 5) (Nat.le_of_ble_eq_true rfl) rfl (oLt hK (a := 59) (Nat.le_of_ble_eq_true rfl)) (oSho hK (a := 59) (Nat.le_of_ble_eq_true rfl) rfl) ?_
                  obtain ⟨rfl, rfl⟩ := oRes h
                  exact oe_iret (pc := 91) d_X12_count_91 ⟨_, rfl, rfl⟩
                · replace h := (if_neg c1_7).symm.trans h
                  by_cases c1_8 : p1 = 8
                  · replace h := (if_pos c1_8).symm.trans h
                    refine oe_tableIn (pc := 1) (tgt := 92) (off := 91) d_X12_count_1 (by rw [c1_8]; decide) (by rw [c1_8]; decide) (by rw [c1_8]; rfl) (by decide) ?_
                    refine oe_aload_n (pc := 92) d_X12_count_92 rfl ?_
                    refine oe_getf (pc := 93) d_X12_count_93 fl_X12_357 ock12 (k := 59) (Nat.le_of_ble_eq_true rfl) rfl (oLt hK (a := 59) (Nat.le_of_ble_eq_true rfl)) (oSho hK (a := 59) (Nat.le_of_ble_eq_true rfl) rfl) ?_
                    obtain ⟨rfl, rfl⟩ := oRes h
                    exact oe_iret (pc := 96) d_X12_count_96 ⟨_, rfl, rfl⟩
                  · replace h := (if_neg c1_8).symm.trans h
                    refine oe_tableOut (pc := 1) (tgt := 97) d_X12_count_1 (by have := oNe (k := 0) c1_0 rfl; have := oNe (k := 1) c1_1 rfl; have := oNe (k := 2) c1_2 rfl; have := oNe (k := 3) c1_3 rfl; have := oNe (k := 4) c1_4 rfl; have := oNe (k := 5) c1_5 rfl; have := oNe (k := 6) c1_6 rfl; have := oNe (k := 7) c1_7 rfl; have := oNe (k := 8) c1_8 rfl; omega) (by decide) ?_
                    refine oe_iconst (pc := 97) (v := (-1)) d_X12_count_97 rfl ?_
                    obtain ⟨rfl, rfl⟩ := oRes h
                    exact oe_iret (pc := 98) d_X12_count_98 ⟨_, rfl, rfl⟩
