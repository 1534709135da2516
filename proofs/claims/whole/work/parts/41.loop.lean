/-! the law, from its loop's head, over any picture that the calls keep -/
def oPcs : List Nat := [224, 247, 280, 323, 366, 399, 432, 445, 478, 511, 544, 597, 650, 683, 726, 759, 802, 835, 878, 921, 964, 1007, 1040, 1063, 1096, 1109, 1152, 1175, 1208, 1261, 1294, 1337, 1350, 1373, 1386, 1399, 1442, 1465, 1498, 1541, 1614, 1648, 1711, 1744]
abbrev oHd (i : Int32) : List (Option Value) := [some (.ref 1000000), some (.ref 0), some (.ref 59), some (.int i)]
/-- what a round of the law needs -/
def oStepOk (X : oX) (I : oK → oM → Prop) : Prop := ∀ (K : oK) (M : oM), I K M → ∀ (i : Int32), (∀ k : Nat, k < 6 → vp_in (i + nI k) X.1) → ∀ pc ∈ oPcs, ∃ (K2 : oK) (M2 : oM), I K2 M2 ∧ (K.1 ≤ K2.1 ∧ K.2.1 ≤ K2.2.1) ∧
  ∀ (K' : oK) (M' : oM), (K2.1 ≤ K'.1 ∧ K2.2.1 ≤ K'.2.1) → oEv X 40 J_L 18 (oHd (i + 6)) [] K2 M2 (some (.int 1)) K' M' → oEv X 40 J_L pc (oHd i) [] K M (some (.int 1)) K' M'
set_option maxRecDepth 20000 in
theorem law_run {X : oX} (hX : X.1 ≤ 384) (I : oK → oM → Prop) (hst : oStepOk X I) : ∀ (n i : Nat) (K : oK) (M : oM), I K M → i ≤ 390 → 390 < i + 6 * n → ∃ (K' : oK) (M' : oM), I K' M' ∧ (K.1 ≤ K'.1 ∧ K.2.1 ≤ K'.2.1) ∧ oEv X 40 J_L 18 (oHd (nI i)) [] K M (some (.int 1)) K' M' := by
  intro n
  induction n with
  | zero => intro i K M _ h1 h2; omega
  | succ n ih =>
    intro i K M hI h1 h2
    have eL : (Int32.ofNat X.1 - 6).toInt = (X.1 : Int) - 6 := by
      have := pk_sub_toInt (a := X.1) (b := 6) (by omega) (by omega)
      exact this
    have ei : (nI i).toInt = (i : Int) := nI_toInt (by omega)
    by_cases hgt : X.1 < i + 6
    · -- the end
      refine ⟨K, M, hI, ⟨Nat.le_refl _, Nat.le_refl _⟩, ?_⟩
      refine oe_iload_n (pc := 18) d_L_18 rfl ?_
      refine oe_aload_n (pc := 19) d_L_19 rfl ?_
      refine oe_slen (pc := 20) d_L_20 ?_
      refine oe_bipush (pc := 21) (v := 6) d_L_21 rfl ?_
      refine oe_isub (pc := 23) d_L_23 ?_
      refine oe_icmp_gt (pc := 24) (tgt := 1773) d_L_24 (by decide) (fun _ => ?_) (fun c => absurd (Int32.lt_iff_toInt_lt.mpr (by rw [eL, ei]; omega)) c)
      refine oe_iconst (pc := 1773) (v := 1) d_L_1773 rfl ?_
      exact oe_iret (pc := 1774) d_L_1774 ⟨_, rfl, rfl⟩
    · have hin : ∀ k : Nat, k < 6 → vp_in (nI i + nI k) X.1 := fun k hk => by
        rw [nI_add]
        exact vp_in_nI (by omega) (by omega)
      have h0 : vp_in (nI i) X.1 := vp_in_nI (by omega) (by omega)
      have e6 : nI i + 6 = nI (i + 6) := nI_add i 6
      have go : ∀ pc ∈ oPcs, ∃ (K' : oK) (M' : oM), I K' M' ∧ (K.1 ≤ K'.1 ∧ K.2.1 ≤ K'.2.1) ∧ oEv X 40 J_L pc (oHd (nI i)) [] K M (some (.int 1)) K' M' := by
        intro pc hpc
        obtain ⟨K2, M2, hI2, hle, hk⟩ := hst K M hI (nI i) hin pc hpc
        obtain ⟨K', M', hI', hle', hev⟩ := ih (i + 6) K2 M2 hI2 (by omega) (by omega)
        refine ⟨K', M', hI', ⟨Nat.le_trans hle.1 hle'.1, Nat.le_trans hle.2 hle'.2⟩, hk K' M' hle' ?_⟩
        rw [e6]
        exact hev
      have head : ∀ (K' : oK) (M' : oM), oEv X 40 J_L 33 (oHd (nI i)) [.int (X.2 (nI i).toNatClampNeg &&& 63)] K M (some (.int 1)) K' M' → oEv X 40 J_L 18 (oHd (nI i)) [] K M (some (.int 1)) K' M' := by
        intro K' M' hk
        refine oe_iload_n (pc := 18) d_L_18 rfl ?_
        refine oe_aload_n (pc := 19) d_L_19 rfl ?_
        refine oe_slen (pc := 20) d_L_20 ?_
        refine oe_bipush (pc := 21) (v := 6) d_L_21 rfl ?_
        refine oe_isub (pc := 23) d_L_23 ?_
        refine oe_icmp_gt (pc := 24) (tgt := 1773) d_L_24 (by decide) (fun c => absurd (Int32.lt_iff_toInt_lt.mp c) (by rw [eL, ei]; omega)) (fun _ => ?_)
        refine oe_aload_n (pc := 27) d_L_27 rfl ?_
        refine oe_iload_n (pc := 28) d_L_28 rfl ?_
        refine oe_sld (pc := 29) d_L_29 h0 ?_
        refine oe_bipush (pc := 30) (v := 63) d_L_30 rfl ?_
        exact oe_iand (pc := 32) d_L_32 hk
      generalize hx : X.2 (nI i).toNatClampNeg &&& 63 = sw at head
      by_cases c0 : sw = 0
      · obtain ⟨K', M', hI', hle, hev⟩ := go 224 (by decide)
        exact ⟨K', M', hI', hle, head K' M' (oe_tableIn (pc := 33) (tgt := 224) (off := 191) d_L_33 (by rw [c0]; decide) (by rw [c0]; decide) (by rw [c0]; rfl) (by decide) hev)⟩
      by_cases c1 : sw = 1
      · obtain ⟨K', M', hI', hle, hev⟩ := go 247 (by decide)
        exact ⟨K', M', hI', hle, head K' M' (oe_tableIn (pc := 33) (tgt := 247) (off := 214) d_L_33 (by rw [c1]; decide) (by rw [c1]; decide) (by rw [c1]; rfl) (by decide) hev)⟩
      by_cases c2 : sw = 2
      · obtain ⟨K', M', hI', hle, hev⟩ := go 280 (by decide)
        exact ⟨K', M', hI', hle, head K' M' (oe_tableIn (pc := 33) (tgt := 280) (off := 247) d_L_33 (by rw [c2]; decide) (by rw [c2]; decide) (by rw [c2]; rfl) (by decide) hev)⟩
      by_cases c3 : sw = 3
      · obtain ⟨K', M', hI', hle, hev⟩ := go 323 (by decide)
        exact ⟨K', M', hI', hle, head K' M' (oe_tableIn (pc := 33) (tgt := 323) (off := 290) d_L_33 (by rw [c3]; decide) (by rw [c3]; decide) (by rw [c3]; rfl) (by decide) hev)⟩
      by_cases c4 : sw = 4
      · obtain ⟨K', M', hI', hle, hev⟩ := go 366 (by decide)
        exact ⟨K', M', hI', hle, head K' M' (oe_tableIn (pc := 33) (tgt := 366) (off := 333) d_L_33 (by rw [c4]; decide) (by rw [c4]; decide) (by rw [c4]; rfl) (by decide) hev)⟩
      by_cases c5 : sw = 5
      · obtain ⟨K', M', hI', hle, hev⟩ := go 399 (by decide)
        exact ⟨K', M', hI', hle, head K' M' (oe_tableIn (pc := 33) (tgt := 399) (off := 366) d_L_33 (by rw [c5]; decide) (by rw [c5]; decide) (by rw [c5]; rfl) (by decide) hev)⟩
      by_cases c6 : sw = 6
      · obtain ⟨K', M', hI', hle, hev⟩ := go 432 (by decide)
        exact ⟨K', M', hI', hle, head K' M' (oe_tableIn (pc := 33) (tgt := 432) (off := 399) d_L_33 (by rw [c6]; decide) (by rw [c6]; decide) (by rw [c6]; rfl) (by decide) hev)⟩
      by_cases c7 : sw = 7
      · obtain ⟨K', M', hI', hle, hev⟩ := go 445 (by decide)
        exact ⟨K', M', hI', hle, head K' M' (oe_tableIn (pc := 33) (tgt := 445) (off := 412) d_L_33 (by rw [c7]; decide) (by rw [c7]; decide) (by rw [c7]; rfl) (by decide) hev)⟩
      by_cases c8 : sw = 8
      · obtain ⟨K', M', hI', hle, hev⟩ := go 478 (by decide)
        exact ⟨K', M', hI', hle, head K' M' (oe_tableIn (pc := 33) (tgt := 478) (off := 445) d_L_33 (by rw [c8]; decide) (by rw [c8]; decide) (by rw [c8]; rfl) (by decide) hev)⟩
      by_cases c9 : sw = 9
      · obtain ⟨K', M', hI', hle, hev⟩ := go 511 (by decide)
        exact ⟨K', M', hI', hle, head K' M' (oe_tableIn (pc := 33) (tgt := 511) (off := 478) d_L_33 (by rw [c9]; decide) (by rw [c9]; decide) (by rw [c9]; rfl) (by decide) hev)⟩
      by_cases c10 : sw = 10
      · obtain ⟨K', M', hI', hle, hev⟩ := go 544 (by decide)
        exact ⟨K', M', hI', hle, head K' M' (oe_tableIn (pc := 33) (tgt := 544) (off := 511) d_L_33 (by rw [c10]; decide) (by rw [c10]; decide) (by rw [c10]; rfl) (by decide) hev)⟩
      by_cases c11 : sw = 11
      · obtain ⟨K', M', hI', hle, hev⟩ := go 597 (by decide)
        exact ⟨K', M', hI', hle, head K' M' (oe_tableIn (pc := 33) (tgt := 597) (off := 564) d_L_33 (by rw [c11]; decide) (by rw [c11]; decide) (by rw [c11]; rfl) (by decide) hev)⟩
      by_cases c12 : sw = 12
      · obtain ⟨K', M', hI', hle, hev⟩ := go 650 (by decide)
        exact ⟨K', M', hI', hle, head K' M' (oe_tableIn (pc := 33) (tgt := 650) (off := 617) d_L_33 (by rw [c12]; decide) (by rw [c12]; decide) (by rw [c12]; rfl) (by decide) hev)⟩
      by_cases c13 : sw = 13
      · obtain ⟨K', M', hI', hle, hev⟩ := go 683 (by decide)
        exact ⟨K', M', hI', hle, head K' M' (oe_tableIn (pc := 33) (tgt := 683) (off := 650) d_L_33 (by rw [c13]; decide) (by rw [c13]; decide) (by rw [c13]; rfl) (by decide) hev)⟩
      by_cases c14 : sw = 14
      · obtain ⟨K', M', hI', hle, hev⟩ := go 726 (by decide)
        exact ⟨K', M', hI', hle, head K' M' (oe_tableIn (pc := 33) (tgt := 726) (off := 693) d_L_33 (by rw [c14]; decide) (by rw [c14]; decide) (by rw [c14]; rfl) (by decide) hev)⟩
      by_cases c15 : sw = 15
      · obtain ⟨K', M', hI', hle, hev⟩ := go 759 (by decide)
        exact ⟨K', M', hI', hle, head K' M' (oe_tableIn (pc := 33) (tgt := 759) (off := 726) d_L_33 (by rw [c15]; decide) (by rw [c15]; decide) (by rw [c15]; rfl) (by decide) hev)⟩
      by_cases c16 : sw = 16
      · obtain ⟨K', M', hI', hle, hev⟩ := go 802 (by decide)
        exact ⟨K', M', hI', hle, head K' M' (oe_tableIn (pc := 33) (tgt := 802) (off := 769) d_L_33 (by rw [c16]; decide) (by rw [c16]; decide) (by rw [c16]; rfl) (by decide) hev)⟩
      by_cases c17 : sw = 17
      · obtain ⟨K', M', hI', hle, hev⟩ := go 835 (by decide)
        exact ⟨K', M', hI', hle, head K' M' (oe_tableIn (pc := 33) (tgt := 835) (off := 802) d_L_33 (by rw [c17]; decide) (by rw [c17]; decide) (by rw [c17]; rfl) (by decide) hev)⟩
      by_cases c18 : sw = 18
      · obtain ⟨K', M', hI', hle, hev⟩ := go 878 (by decide)
        exact ⟨K', M', hI', hle, head K' M' (oe_tableIn (pc := 33) (tgt := 878) (off := 845) d_L_33 (by rw [c18]; decide) (by rw [c18]; decide) (by rw [c18]; rfl) (by decide) hev)⟩
      by_cases c19 : sw = 19
      · obtain ⟨K', M', hI', hle, hev⟩ := go 921 (by decide)
        exact ⟨K', M', hI', hle, head K' M' (oe_tableIn (pc := 33) (tgt := 921) (off := 888) d_L_33 (by rw [c19]; decide) (by rw [c19]; decide) (by rw [c19]; rfl) (by decide) hev)⟩
      by_cases c20 : sw = 20
      · obtain ⟨K', M', hI', hle, hev⟩ := go 964 (by decide)
        exact ⟨K', M', hI', hle, head K' M' (oe_tableIn (pc := 33) (tgt := 964) (off := 931) d_L_33 (by rw [c20]; decide) (by rw [c20]; decide) (by rw [c20]; rfl) (by decide) hev)⟩
      by_cases c21 : sw = 21
      · obtain ⟨K', M', hI', hle, hev⟩ := go 1007 (by decide)
        exact ⟨K', M', hI', hle, head K' M' (oe_tableIn (pc := 33) (tgt := 1007) (off := 974) d_L_33 (by rw [c21]; decide) (by rw [c21]; decide) (by rw [c21]; rfl) (by decide) hev)⟩
      by_cases c22 : sw = 22
      · obtain ⟨K', M', hI', hle, hev⟩ := go 1040 (by decide)
        exact ⟨K', M', hI', hle, head K' M' (oe_tableIn (pc := 33) (tgt := 1040) (off := 1007) d_L_33 (by rw [c22]; decide) (by rw [c22]; decide) (by rw [c22]; rfl) (by decide) hev)⟩
      by_cases c23 : sw = 23
      · obtain ⟨K', M', hI', hle, hev⟩ := go 1063 (by decide)
        exact ⟨K', M', hI', hle, head K' M' (oe_tableIn (pc := 33) (tgt := 1063) (off := 1030) d_L_33 (by rw [c23]; decide) (by rw [c23]; decide) (by rw [c23]; rfl) (by decide) hev)⟩
      by_cases c24 : sw = 24
      · obtain ⟨K', M', hI', hle, hev⟩ := go 1096 (by decide)
        exact ⟨K', M', hI', hle, head K' M' (oe_tableIn (pc := 33) (tgt := 1096) (off := 1063) d_L_33 (by rw [c24]; decide) (by rw [c24]; decide) (by rw [c24]; rfl) (by decide) hev)⟩
      by_cases c25 : sw = 25
      · obtain ⟨K', M', hI', hle, hev⟩ := go 1109 (by decide)
        exact ⟨K', M', hI', hle, head K' M' (oe_tableIn (pc := 33) (tgt := 1109) (off := 1076) d_L_33 (by rw [c25]; decide) (by rw [c25]; decide) (by rw [c25]; rfl) (by decide) hev)⟩
      by_cases c26 : sw = 26
      · obtain ⟨K', M', hI', hle, hev⟩ := go 1152 (by decide)
        exact ⟨K', M', hI', hle, head K' M' (oe_tableIn (pc := 33) (tgt := 1152) (off := 1119) d_L_33 (by rw [c26]; decide) (by rw [c26]; decide) (by rw [c26]; rfl) (by decide) hev)⟩
      by_cases c27 : sw = 27
      · obtain ⟨K', M', hI', hle, hev⟩ := go 1175 (by decide)
        exact ⟨K', M', hI', hle, head K' M' (oe_tableIn (pc := 33) (tgt := 1175) (off := 1142) d_L_33 (by rw [c27]; decide) (by rw [c27]; decide) (by rw [c27]; rfl) (by decide) hev)⟩
      by_cases c28 : sw = 28
      · obtain ⟨K', M', hI', hle, hev⟩ := go 1208 (by decide)
        exact ⟨K', M', hI', hle, head K' M' (oe_tableIn (pc := 33) (tgt := 1208) (off := 1175) d_L_33 (by rw [c28]; decide) (by rw [c28]; decide) (by rw [c28]; rfl) (by decide) hev)⟩
      by_cases c29 : sw = 29
      · obtain ⟨K', M', hI', hle, hev⟩ := go 1261 (by decide)
        exact ⟨K', M', hI', hle, head K' M' (oe_tableIn (pc := 33) (tgt := 1261) (off := 1228) d_L_33 (by rw [c29]; decide) (by rw [c29]; decide) (by rw [c29]; rfl) (by decide) hev)⟩
      by_cases c30 : sw = 30
      · obtain ⟨K', M', hI', hle, hev⟩ := go 1294 (by decide)
        exact ⟨K', M', hI', hle, head K' M' (oe_tableIn (pc := 33) (tgt := 1294) (off := 1261) d_L_33 (by rw [c30]; decide) (by rw [c30]; decide) (by rw [c30]; rfl) (by decide) hev)⟩
      by_cases c31 : sw = 31
      · obtain ⟨K', M', hI', hle, hev⟩ := go 1337 (by decide)
        exact ⟨K', M', hI', hle, head K' M' (oe_tableIn (pc := 33) (tgt := 1337) (off := 1304) d_L_33 (by rw [c31]; decide) (by rw [c31]; decide) (by rw [c31]; rfl) (by decide) hev)⟩
      by_cases c32 : sw = 32
      · obtain ⟨K', M', hI', hle, hev⟩ := go 1350 (by decide)
        exact ⟨K', M', hI', hle, head K' M' (oe_tableIn (pc := 33) (tgt := 1350) (off := 1317) d_L_33 (by rw [c32]; decide) (by rw [c32]; decide) (by rw [c32]; rfl) (by decide) hev)⟩
      by_cases c33 : sw = 33
      · obtain ⟨K', M', hI', hle, hev⟩ := go 1373 (by decide)
        exact ⟨K', M', hI', hle, head K' M' (oe_tableIn (pc := 33) (tgt := 1373) (off := 1340) d_L_33 (by rw [c33]; decide) (by rw [c33]; decide) (by rw [c33]; rfl) (by decide) hev)⟩
      by_cases c34 : sw = 34
      · obtain ⟨K', M', hI', hle, hev⟩ := go 1386 (by decide)
        exact ⟨K', M', hI', hle, head K' M' (oe_tableIn (pc := 33) (tgt := 1386) (off := 1353) d_L_33 (by rw [c34]; decide) (by rw [c34]; decide) (by rw [c34]; rfl) (by decide) hev)⟩
      by_cases c35 : sw = 35
      · obtain ⟨K', M', hI', hle, hev⟩ := go 1399 (by decide)
        exact ⟨K', M', hI', hle, head K' M' (oe_tableIn (pc := 33) (tgt := 1399) (off := 1366) d_L_33 (by rw [c35]; decide) (by rw [c35]; decide) (by rw [c35]; rfl) (by decide) hev)⟩
      by_cases c36 : sw = 36
      · obtain ⟨K', M', hI', hle, hev⟩ := go 1442 (by decide)
        exact ⟨K', M', hI', hle, head K' M' (oe_tableIn (pc := 33) (tgt := 1442) (off := 1409) d_L_33 (by rw [c36]; decide) (by rw [c36]; decide) (by rw [c36]; rfl) (by decide) hev)⟩
      by_cases c37 : sw = 37
      · obtain ⟨K', M', hI', hle, hev⟩ := go 1465 (by decide)
        exact ⟨K', M', hI', hle, head K' M' (oe_tableIn (pc := 33) (tgt := 1465) (off := 1432) d_L_33 (by rw [c37]; decide) (by rw [c37]; decide) (by rw [c37]; rfl) (by decide) hev)⟩
      by_cases c38 : sw = 38
      · obtain ⟨K', M', hI', hle, hev⟩ := go 1498 (by decide)
        exact ⟨K', M', hI', hle, head K' M' (oe_tableIn (pc := 33) (tgt := 1498) (off := 1465) d_L_33 (by rw [c38]; decide) (by rw [c38]; decide) (by rw [c38]; rfl) (by decide) hev)⟩
      by_cases c39 : sw = 39
      · obtain ⟨K', M', hI', hle, hev⟩ := go 1541 (by decide)
        exact ⟨K', M', hI', hle, head K' M' (oe_tableIn (pc := 33) (tgt := 1541) (off := 1508) d_L_33 (by rw [c39]; decide) (by rw [c39]; decide) (by rw [c39]; rfl) (by decide) hev)⟩
      by_cases c40 : sw = 40
      · obtain ⟨K', M', hI', hle, hev⟩ := go 1614 (by decide)
        exact ⟨K', M', hI', hle, head K' M' (oe_tableIn (pc := 33) (tgt := 1614) (off := 1581) d_L_33 (by rw [c40]; decide) (by rw [c40]; decide) (by rw [c40]; rfl) (by decide) hev)⟩
      by_cases c41 : sw = 41
      · obtain ⟨K', M', hI', hle, hev⟩ := go 1648 (by decide)
        exact ⟨K', M', hI', hle, head K' M' (oe_tableIn (pc := 33) (tgt := 1648) (off := 1615) d_L_33 (by rw [c41]; decide) (by rw [c41]; decide) (by rw [c41]; rfl) (by decide) hev)⟩
      by_cases c42 : sw = 42
      · obtain ⟨K', M', hI', hle, hev⟩ := go 1711 (by decide)
        exact ⟨K', M', hI', hle, head K' M' (oe_tableIn (pc := 33) (tgt := 1711) (off := 1678) d_L_33 (by rw [c42]; decide) (by rw [c42]; decide) (by rw [c42]; rfl) (by decide) hev)⟩
      by_cases c43 : sw = 43
      · obtain ⟨K', M', hI', hle, hev⟩ := go 1744 (by decide)
        exact ⟨K', M', hI', hle, head K' M' (oe_tableIn (pc := 33) (tgt := 1744) (off := 1711) d_L_33 (by rw [c43]; decide) (by rw [c43]; decide) (by rw [c43]; rfl) (by decide) hev)⟩
      obtain ⟨K', M', hI', hle, hev⟩ := ih (i + 6) K M hI (by omega) (by omega)
      refine ⟨K', M', hI', hle, head K' M' ?_⟩
      refine oe_tableOut (pc := 33) (tgt := 1767) d_L_33 (by have := oNe (k := 0) c0 rfl; have := oNe (k := 1) c1 rfl; have := oNe (k := 2) c2 rfl; have := oNe (k := 3) c3 rfl; have := oNe (k := 4) c4 rfl; have := oNe (k := 5) c5 rfl; have := oNe (k := 6) c6 rfl; have := oNe (k := 7) c7 rfl; have := oNe (k := 8) c8 rfl; have := oNe (k := 9) c9 rfl; have := oNe (k := 10) c10 rfl; have := oNe (k := 11) c11 rfl; have := oNe (k := 12) c12 rfl; have := oNe (k := 13) c13 rfl; have := oNe (k := 14) c14 rfl; have := oNe (k := 15) c15 rfl; have := oNe (k := 16) c16 rfl; have := oNe (k := 17) c17 rfl; have := oNe (k := 18) c18 rfl; have := oNe (k := 19) c19 rfl; have := oNe (k := 20) c20 rfl; have := oNe (k := 21) c21 rfl; have := oNe (k := 22) c22 rfl; have := oNe (k := 23) c23 rfl; have := oNe (k := 24) c24 rfl; have := oNe (k := 25) c25 rfl; have := oNe (k := 26) c26 rfl; have := oNe (k := 27) c27 rfl; have := oNe (k := 28) c28 rfl; have := oNe (k := 29) c29 rfl; have := oNe (k := 30) c30 rfl; have := oNe (k := 31) c31 rfl; have := oNe (k := 32) c32 rfl; have := oNe (k := 33) c33 rfl; have := oNe (k := 34) c34 rfl; have := oNe (k := 35) c35 rfl; have := oNe (k := 36) c36 rfl; have := oNe (k := 37) c37 rfl; have := oNe (k := 38) c38 rfl; have := oNe (k := 39) c39 rfl; have := oNe (k := 40) c40 rfl; have := oNe (k := 41) c41 rfl; have := oNe (k := 42) c42 rfl; have := oNe (k := 43) c43 rfl; omega) (by decide) ?_
      refine oe_iinc (pc := 1767) (v := nI (i + 6)) (L2 := [_, _, _, _]) d_L_1767 rfl (by rw [← e6]; rfl) rfl (Nat.le_of_ble_eq_true rfl) rfl ?_
      exact oe_goto (pc := 1770) (tgt := 18) d_L_1770 (by decide) hev
