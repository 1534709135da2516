/-! a round of the law keeps what the calls keep -/
theorem oZ0 {K : oK} {M : oM} (h : oInv K M) : 0 < K.1 ∧ (K.2.2.1 0).1 = 11 + 6 ∧ 59 < K.1 ∧ (K.2.2.1 59).1 = 12 + 6 := ⟨oLt h.1 (by decide), oSho h.1 (by decide) (by decide), oLt h.1 (by decide), oSho h.1 (by decide) (by decide)⟩
theorem sp_0 {X : oX} {K : oK} {M : oM} (h : oInv K M) {N : Nat} (hN : 20000000 ≤ N) {i : Int32} (hin : ∀ k : Nat, k < 6 → vp_in (i + nI k) X.1) : ∃ (K2 : oK) (M2 : oM), oInv K2 M2 ∧ (K.1 ≤ K2.1 ∧ K.2.1 ≤ K2.2.1) ∧ ∀ (K' : oK) (M' : oM), (K2.1 ≤ K'.1 ∧ K2.2.1 ≤ K'.2.1) → oEv X 40 J_L 18 (oHd (i + 6)) [] K2 M2 (some (.int 1)) K' M' → oEv X 40 J_L 224 (oHd i) [] K M (some (.int 1)) K' M' := by
  obtain ⟨z1, z2, z3, z4⟩ := oZ0 h
  obtain ⟨r, M1, M2, a1, a2, a3⟩ := ag_point h N (X.2 (i + 1).toNatClampNeg)
  exact ⟨K, M2, a3, ⟨Nat.le_refl _, Nat.le_refl _⟩, fun K' M' hk hev => lc_0 (hin 1 (by decide)) (v_X11_point h.1 a1) (v_X12_point h.1 a2) (by decide) (by decide) z1 z2 z3 z4 ⟨Nat.le_refl _, Nat.le_refl _⟩ ⟨Nat.le_refl _, Nat.le_refl _⟩ hk hev⟩
theorem sp_1 {X : oX} {K : oK} {M : oM} (h : oInv K M) {N : Nat} (hN : 20000000 ≤ N) {i : Int32} (hin : ∀ k : Nat, k < 6 → vp_in (i + nI k) X.1) : ∃ (K2 : oK) (M2 : oM), oInv K2 M2 ∧ (K.1 ≤ K2.1 ∧ K.2.1 ≤ K2.2.1) ∧ ∀ (K' : oK) (M' : oM), (K2.1 ≤ K'.1 ∧ K2.2.1 ≤ K'.2.1) → oEv X 40 J_L 18 (oHd (i + 6)) [] K2 M2 (some (.int 1)) K' M' → oEv X 40 J_L 247 (oHd i) [] K M (some (.int 1)) K' M' := by
  obtain ⟨z1, z2, z3, z4⟩ := oZ0 h
  obtain ⟨r, M1, M2, a1, a2, a3⟩ := ag_height h (N := N) (by omega) (X.2 (i + 1).toNatClampNeg) (X.2 (i + 2).toNatClampNeg)
  exact ⟨K, M2, a3, ⟨Nat.le_refl _, Nat.le_refl _⟩, fun K' M' hk hev => lc_1 (hin 1 (by decide)) (hin 2 (by decide)) (v_X11_height h.1 a1) (v_X12_height h.1 a2) (by decide) (by decide) z1 z2 z3 z4 ⟨Nat.le_refl _, Nat.le_refl _⟩ ⟨Nat.le_refl _, Nat.le_refl _⟩ hk hev⟩
theorem sp_2 {X : oX} {K : oK} {M : oM} (h : oInv K M) {N : Nat} (hN : 20000000 ≤ N) {i : Int32} (hin : ∀ k : Nat, k < 6 → vp_in (i + nI k) X.1) : ∃ (K2 : oK) (M2 : oM), oInv K2 M2 ∧ (K.1 ≤ K2.1 ∧ K.2.1 ≤ K2.2.1) ∧ ∀ (K' : oK) (M' : oM), (K2.1 ≤ K'.1 ∧ K2.2.1 ≤ K'.2.1) → oEv X 40 J_L 18 (oHd (i + 6)) [] K2 M2 (some (.int 1)) K' M' → oEv X 40 J_L 280 (oHd i) [] K M (some (.int 1)) K' M' := by
  obtain ⟨z1, z2, z3, z4⟩ := oZ0 h
  obtain ⟨r, M1, M2, a1, a2, a3⟩ := ag_way h N (X.2 (i + 1).toNatClampNeg) (X.2 (i + 2).toNatClampNeg) (X.2 (i + 3).toNatClampNeg)
  exact ⟨K, M2, a3, ⟨Nat.le_refl _, Nat.le_refl _⟩, fun K' M' hk hev => lc_2 (hin 1 (by decide)) (hin 2 (by decide)) (hin 3 (by decide)) (v_X11_way h.1 a1) (v_X12_way h.1 a2) (by decide) (by decide) z1 z2 z3 z4 ⟨Nat.le_refl _, Nat.le_refl _⟩ ⟨Nat.le_refl _, Nat.le_refl _⟩ hk hev⟩
theorem sp_3 {X : oX} {K : oK} {M : oM} (h : oInv K M) {N : Nat} (hN : 20000000 ≤ N) {i : Int32} (hin : ∀ k : Nat, k < 6 → vp_in (i + nI k) X.1) : ∃ (K2 : oK) (M2 : oM), oInv K2 M2 ∧ (K.1 ≤ K2.1 ∧ K.2.1 ≤ K2.2.1) ∧ ∀ (K' : oK) (M' : oM), (K2.1 ≤ K'.1 ∧ K2.2.1 ≤ K'.2.1) → oEv X 40 J_L 18 (oHd (i + 6)) [] K2 M2 (some (.int 1)) K' M' → oEv X 40 J_L 323 (oHd i) [] K M (some (.int 1)) K' M' := by
  obtain ⟨z1, z2, z3, z4⟩ := oZ0 h
  obtain ⟨r, M1, M2, a1, a2, a3⟩ := ag_bore h (N := N) (by omega) (X.2 (i + 1).toNatClampNeg) (X.2 (i + 2).toNatClampNeg) (X.2 (i + 3).toNatClampNeg)
  exact ⟨K, M2, a3, ⟨Nat.le_refl _, Nat.le_refl _⟩, fun K' M' hk hev => lc_3 (hin 1 (by decide)) (hin 2 (by decide)) (hin 3 (by decide)) (v_X11_bore h.1 a1) (v_X12_bore h.1 a2) (by decide) (by decide) z1 z2 z3 z4 ⟨Nat.le_refl _, Nat.le_refl _⟩ ⟨Nat.le_refl _, Nat.le_refl _⟩ hk hev⟩
theorem sp_4 {X : oX} {K : oK} {M : oM} (h : oInv K M) {N : Nat} (hN : 20000000 ≤ N) {i : Int32} (hin : ∀ k : Nat, k < 6 → vp_in (i + nI k) X.1) : ∃ (K2 : oK) (M2 : oM), oInv K2 M2 ∧ (K.1 ≤ K2.1 ∧ K.2.1 ≤ K2.2.1) ∧ ∀ (K' : oK) (M' : oM), (K2.1 ≤ K'.1 ∧ K2.2.1 ≤ K'.2.1) → oEv X 40 J_L 18 (oHd (i + 6)) [] K2 M2 (some (.int 1)) K' M' → oEv X 40 J_L 366 (oHd i) [] K M (some (.int 1)) K' M' := by
  obtain ⟨z1, z2, z3, z4⟩ := oZ0 h
  obtain ⟨r, M1, M2, a1, a2, a3⟩ := ag_engine h N (X.2 (i + 1).toNatClampNeg) (X.2 (i + 2).toNatClampNeg)
  exact ⟨K, M2, a3, ⟨Nat.le_refl _, Nat.le_refl _⟩, fun K' M' hk hev => lc_4 (hin 1 (by decide)) (hin 2 (by decide)) (v_X11_engine h.1 a1) (v_X12_engine h.1 a2) (by decide) (by decide) z1 z2 z3 z4 ⟨Nat.le_refl _, Nat.le_refl _⟩ ⟨Nat.le_refl _, Nat.le_refl _⟩ hk hev⟩
theorem sp_5 {X : oX} {K : oK} {M : oM} (h : oInv K M) {N : Nat} (hN : 20000000 ≤ N) {i : Int32} (hin : ∀ k : Nat, k < 6 → vp_in (i + nI k) X.1) : ∃ (K2 : oK) (M2 : oM), oInv K2 M2 ∧ (K.1 ≤ K2.1 ∧ K.2.1 ≤ K2.2.1) ∧ ∀ (K' : oK) (M' : oM), (K2.1 ≤ K'.1 ∧ K2.2.1 ≤ K'.2.1) → oEv X 40 J_L 18 (oHd (i + 6)) [] K2 M2 (some (.int 1)) K' M' → oEv X 40 J_L 399 (oHd i) [] K M (some (.int 1)) K' M' := by
  obtain ⟨z1, z2, z3, z4⟩ := oZ0 h
  obtain ⟨r, M1, M2, a1, a2, a3⟩ := ag_feed h (N := N) (by omega) (X.2 (i + 1).toNatClampNeg) (X.2 (i + 2).toNatClampNeg)
  exact ⟨K, M2, a3, ⟨Nat.le_refl _, Nat.le_refl _⟩, fun K' M' hk hev => lc_5 (hin 1 (by decide)) (hin 2 (by decide)) (v_X11_feed h.1 a1) (v_X12_feed h.1 a2) (by decide) (by decide) z1 z2 z3 z4 ⟨Nat.le_refl _, Nat.le_refl _⟩ ⟨Nat.le_refl _, Nat.le_refl _⟩ hk hev⟩
theorem sp_6 {X : oX} {K : oK} {M : oM} (h : oInv K M) {N : Nat} (hN : 20000000 ≤ N) {i : Int32} (hin : ∀ k : Nat, k < 6 → vp_in (i + nI k) X.1) : ∃ (K2 : oK) (M2 : oM), oInv K2 M2 ∧ (K.1 ≤ K2.1 ∧ K.2.1 ≤ K2.2.1) ∧ ∀ (K' : oK) (M' : oM), (K2.1 ≤ K'.1 ∧ K2.2.1 ≤ K'.2.1) → oEv X 40 J_L 18 (oHd (i + 6)) [] K2 M2 (some (.int 1)) K' M' → oEv X 40 J_L 432 (oHd i) [] K M (some (.int 1)) K' M' := by
  obtain ⟨z1, z2, z3, z4⟩ := oZ0 h
  obtain ⟨r, M1, M2, a1, a2, a3⟩ := ag_table h (N := N) (by omega) 
  exact ⟨K, M2, a3, ⟨Nat.le_refl _, Nat.le_refl _⟩, fun K' M' hk hev => lc_6  (v_X11_table h.1 a1) (v_X12_table h.1 a2) (by decide) (by decide) z1 z2 z3 z4 ⟨Nat.le_refl _, Nat.le_refl _⟩ ⟨Nat.le_refl _, Nat.le_refl _⟩ hk hev⟩
theorem sp_7 {X : oX} {K : oK} {M : oM} (h : oInv K M) {N : Nat} (hN : 20000000 ≤ N) {i : Int32} (hin : ∀ k : Nat, k < 6 → vp_in (i + nI k) X.1) : ∃ (K2 : oK) (M2 : oM), oInv K2 M2 ∧ (K.1 ≤ K2.1 ∧ K.2.1 ≤ K2.2.1) ∧ ∀ (K' : oK) (M' : oM), (K2.1 ≤ K'.1 ∧ K2.2.1 ≤ K'.2.1) → oEv X 40 J_L 18 (oHd (i + 6)) [] K2 M2 (some (.int 1)) K' M' → oEv X 40 J_L 445 (oHd i) [] K M (some (.int 1)) K' M' := by
  obtain ⟨z1, z2, z3, z4⟩ := oZ0 h
  obtain ⟨r, M1, M2, a1, a2, a3⟩ := ag_loses h N (X.2 (i + 1).toNatClampNeg) (X.2 (i + 2).toNatClampNeg)
  exact ⟨K, M2, a3, ⟨Nat.le_refl _, Nat.le_refl _⟩, fun K' M' hk hev => lc_7 (hin 1 (by decide)) (hin 2 (by decide)) (v_X11_loses h.1 a1) (v_X12_loses h.1 a2) (by decide) (by decide) z1 z2 z3 z4 ⟨Nat.le_refl _, Nat.le_refl _⟩ ⟨Nat.le_refl _, Nat.le_refl _⟩ hk hev⟩
theorem sp_8 {X : oX} {K : oK} {M : oM} (h : oInv K M) {N : Nat} (hN : 20000000 ≤ N) {i : Int32} (hin : ∀ k : Nat, k < 6 → vp_in (i + nI k) X.1) : ∃ (K2 : oK) (M2 : oM), oInv K2 M2 ∧ (K.1 ≤ K2.1 ∧ K.2.1 ≤ K2.2.1) ∧ ∀ (K' : oK) (M' : oM), (K2.1 ≤ K'.1 ∧ K2.2.1 ≤ K'.2.1) → oEv X 40 J_L 18 (oHd (i + 6)) [] K2 M2 (some (.int 1)) K' M' → oEv X 40 J_L 478 (oHd i) [] K M (some (.int 1)) K' M' := by
  obtain ⟨z1, z2, z3, z4⟩ := oZ0 h
  obtain ⟨r, M1, M2, a1, a2, a3⟩ := ag_lifts h N (X.2 (i + 1).toNatClampNeg) (X.2 (i + 2).toNatClampNeg)
  exact ⟨K, M2, a3, ⟨Nat.le_refl _, Nat.le_refl _⟩, fun K' M' hk hev => lc_8 (hin 1 (by decide)) (hin 2 (by decide)) (v_X11_lifts h.1 a1) (v_X12_lifts h.1 a2) (by decide) (by decide) z1 z2 z3 z4 ⟨Nat.le_refl _, Nat.le_refl _⟩ ⟨Nat.le_refl _, Nat.le_refl _⟩ hk hev⟩
theorem sp_9 {X : oX} {K : oK} {M : oM} (h : oInv K M) {N : Nat} (hN : 20000000 ≤ N) {i : Int32} (hin : ∀ k : Nat, k < 6 → vp_in (i + nI k) X.1) : ∃ (K2 : oK) (M2 : oM), oInv K2 M2 ∧ (K.1 ≤ K2.1 ∧ K.2.1 ≤ K2.2.1) ∧ ∀ (K' : oK) (M' : oM), (K2.1 ≤ K'.1 ∧ K2.2.1 ≤ K'.2.1) → oEv X 40 J_L 18 (oHd (i + 6)) [] K2 M2 (some (.int 1)) K' M' → oEv X 40 J_L 511 (oHd i) [] K M (some (.int 1)) K' M' := by
  obtain ⟨z1, z2, z3, z4⟩ := oZ0 h
  obtain ⟨r, K1, M1, M2, a1, a2, a3, a4, a5⟩ := st_laying (X := X) h N (X.2 (i + 1).toNatClampNeg) (X.2 (i + 2).toNatClampNeg)
  obtain ⟨-, -, y3, y4⟩ := oZ0 a3
  exact ⟨K1, M2, a3, ⟨a4, a5⟩, fun K' M' hk hev => lc_9 (hin 1 (by decide)) (hin 2 (by decide)) a1 (v_X12_laying a3.1 a2) (by decide) (by decide) z1 z2 y3 y4 ⟨a4, a5⟩ ⟨Nat.le_refl _, Nat.le_refl _⟩ hk hev⟩
theorem sp_10 {X : oX} {K : oK} {M : oM} (h : oInv K M) {N : Nat} (hN : 20000000 ≤ N) {i : Int32} (hin : ∀ k : Nat, k < 6 → vp_in (i + nI k) X.1) : ∃ (K2 : oK) (M2 : oM), oInv K2 M2 ∧ (K.1 ≤ K2.1 ∧ K.2.1 ≤ K2.2.1) ∧ ∀ (K' : oK) (M' : oM), (K2.1 ≤ K'.1 ∧ K2.2.1 ≤ K'.2.1) → oEv X 40 J_L 18 (oHd (i + 6)) [] K2 M2 (some (.int 1)) K' M' → oEv X 40 J_L 544 (oHd i) [] K M (some (.int 1)) K' M' := by
  obtain ⟨z1, z2, z3, z4⟩ := oZ0 h
  obtain ⟨r, M1, M2, a1, a2, a3⟩ := ag_part h N (X.2 (i + 1).toNatClampNeg) (X.2 (i + 2).toNatClampNeg) (X.2 (i + 3).toNatClampNeg) (X.2 (i + 4).toNatClampNeg)
  exact ⟨K, M2, a3, ⟨Nat.le_refl _, Nat.le_refl _⟩, fun K' M' hk hev => lc_10 (hin 1 (by decide)) (hin 2 (by decide)) (hin 3 (by decide)) (hin 4 (by decide)) (v_X11_part h.1 a1) (v_X12_part h.1 a2) (by decide) (by decide) z1 z2 z3 z4 ⟨Nat.le_refl _, Nat.le_refl _⟩ ⟨Nat.le_refl _, Nat.le_refl _⟩ hk hev⟩
theorem sp_11 {X : oX} {K : oK} {M : oM} (h : oInv K M) {N : Nat} (hN : 20000000 ≤ N) {i : Int32} (hin : ∀ k : Nat, k < 6 → vp_in (i + nI k) X.1) : ∃ (K2 : oK) (M2 : oM), oInv K2 M2 ∧ (K.1 ≤ K2.1 ∧ K.2.1 ≤ K2.2.1) ∧ ∀ (K' : oK) (M' : oM), (K2.1 ≤ K'.1 ∧ K2.2.1 ≤ K'.2.1) → oEv X 40 J_L 18 (oHd (i + 6)) [] K2 M2 (some (.int 1)) K' M' → oEv X 40 J_L 597 (oHd i) [] K M (some (.int 1)) K' M' := by
  obtain ⟨z1, z2, z3, z4⟩ := oZ0 h
  obtain ⟨r, M1, M2, a1, a2, a3⟩ := ag_parts h (N := N) (by omega) (X.2 (i + 1).toNatClampNeg) (X.2 (i + 2).toNatClampNeg) (X.2 (i + 3).toNatClampNeg) (X.2 (i + 4).toNatClampNeg)
  exact ⟨K, M2, a3, ⟨Nat.le_refl _, Nat.le_refl _⟩, fun K' M' hk hev => lc_11 (hin 1 (by decide)) (hin 2 (by decide)) (hin 3 (by decide)) (hin 4 (by decide)) (v_X11_parts h.1 a1) (v_X12_parts h.1 a2) (by decide) (by decide) z1 z2 z3 z4 ⟨Nat.le_refl _, Nat.le_refl _⟩ ⟨Nat.le_refl _, Nat.le_refl _⟩ hk hev⟩
theorem sp_12 {X : oX} {K : oK} {M : oM} (h : oInv K M) {N : Nat} (hN : 20000000 ≤ N) {i : Int32} (hin : ∀ k : Nat, k < 6 → vp_in (i + nI k) X.1) : ∃ (K2 : oK) (M2 : oM), oInv K2 M2 ∧ (K.1 ≤ K2.1 ∧ K.2.1 ≤ K2.2.1) ∧ ∀ (K' : oK) (M' : oM), (K2.1 ≤ K'.1 ∧ K2.2.1 ≤ K'.2.1) → oEv X 40 J_L 18 (oHd (i + 6)) [] K2 M2 (some (.int 1)) K' M' → oEv X 40 J_L 650 (oHd i) [] K M (some (.int 1)) K' M' := by
  obtain ⟨z1, z2, z3, z4⟩ := oZ0 h
  obtain ⟨r, M1, M2, a1, a2, a3⟩ := ag_of h (N := N) (by omega) (X.2 (i + 1).toNatClampNeg) (X.2 (i + 2).toNatClampNeg)
  exact ⟨K, M2, a3, ⟨Nat.le_refl _, Nat.le_refl _⟩, fun K' M' hk hev => lc_12 (hin 1 (by decide)) (hin 2 (by decide)) (v_X11_of h.1 a1) (v_X12_of h.1 a2) (by decide) (by decide) z1 z2 z3 z4 ⟨Nat.le_refl _, Nat.le_refl _⟩ ⟨Nat.le_refl _, Nat.le_refl _⟩ hk hev⟩
theorem sp_13 {X : oX} {K : oK} {M : oM} (h : oInv K M) {N : Nat} (hN : 20000000 ≤ N) {i : Int32} (hin : ∀ k : Nat, k < 6 → vp_in (i + nI k) X.1) : ∃ (K2 : oK) (M2 : oM), oInv K2 M2 ∧ (K.1 ≤ K2.1 ∧ K.2.1 ≤ K2.2.1) ∧ ∀ (K' : oK) (M' : oM), (K2.1 ≤ K'.1 ∧ K2.2.1 ≤ K'.2.1) → oEv X 40 J_L 18 (oHd (i + 6)) [] K2 M2 (some (.int 1)) K' M' → oEv X 40 J_L 683 (oHd i) [] K M (some (.int 1)) K' M' := by
  obtain ⟨z1, z2, z3, z4⟩ := oZ0 h
  obtain ⟨r, M1, M2, a1, a2, a3⟩ := ag_pressure h (N := N) (by omega) (X.2 (i + 1).toNatClampNeg) (X.2 (i + 2).toNatClampNeg) (X.2 (i + 3).toNatClampNeg)
  exact ⟨K, M2, a3, ⟨Nat.le_refl _, Nat.le_refl _⟩, fun K' M' hk hev => lc_13 (hin 1 (by decide)) (hin 2 (by decide)) (hin 3 (by decide)) (v_X11_pressure h.1 a1) (v_X12_pressure h.1 a2) (by decide) (by decide) z1 z2 z3 z4 ⟨Nat.le_refl _, Nat.le_refl _⟩ ⟨Nat.le_refl _, Nat.le_refl _⟩ hk hev⟩
theorem sp_14 {X : oX} {K : oK} {M : oM} (h : oInv K M) {N : Nat} (hN : 20000000 ≤ N) {i : Int32} (hin : ∀ k : Nat, k < 6 → vp_in (i + nI k) X.1) : ∃ (K2 : oK) (M2 : oM), oInv K2 M2 ∧ (K.1 ≤ K2.1 ∧ K.2.1 ≤ K2.2.1) ∧ ∀ (K' : oK) (M' : oM), (K2.1 ≤ K'.1 ∧ K2.2.1 ≤ K'.2.1) → oEv X 40 J_L 18 (oHd (i + 6)) [] K2 M2 (some (.int 1)) K' M' → oEv X 40 J_L 726 (oHd i) [] K M (some (.int 1)) K' M' := by
  obtain ⟨z1, z2, z3, z4⟩ := oZ0 h
  obtain ⟨r, M1, M2, a1, a2, a3⟩ := ag_flow h (N := N) (by omega) (X.2 (i + 1).toNatClampNeg) (X.2 (i + 2).toNatClampNeg)
  exact ⟨K, M2, a3, ⟨Nat.le_refl _, Nat.le_refl _⟩, fun K' M' hk hev => lc_14 (hin 1 (by decide)) (hin 2 (by decide)) (v_X11_flow h.1 a1) (v_X12_flow h.1 a2) (by decide) (by decide) z1 z2 z3 z4 ⟨Nat.le_refl _, Nat.le_refl _⟩ ⟨Nat.le_refl _, Nat.le_refl _⟩ hk hev⟩
theorem sp_15 {X : oX} {K : oK} {M : oM} (h : oInv K M) {N : Nat} (hN : 20000000 ≤ N) {i : Int32} (hin : ∀ k : Nat, k < 6 → vp_in (i + nI k) X.1) : ∃ (K2 : oK) (M2 : oM), oInv K2 M2 ∧ (K.1 ≤ K2.1 ∧ K.2.1 ≤ K2.2.1) ∧ ∀ (K' : oK) (M' : oM), (K2.1 ≤ K'.1 ∧ K2.2.1 ≤ K'.2.1) → oEv X 40 J_L 18 (oHd (i + 6)) [] K2 M2 (some (.int 1)) K' M' → oEv X 40 J_L 759 (oHd i) [] K M (some (.int 1)) K' M' := by
  obtain ⟨z1, z2, z3, z4⟩ := oZ0 h
  obtain ⟨r, M1, M2, a1, a2, a3⟩ := ag_judge h (N := N) (by omega) (X.2 (i + 1).toNatClampNeg) (X.2 (i + 2).toNatClampNeg) (X.2 (i + 3).toNatClampNeg)
  exact ⟨K, M2, a3, ⟨Nat.le_refl _, Nat.le_refl _⟩, fun K' M' hk hev => lc_15 (hin 1 (by decide)) (hin 2 (by decide)) (hin 3 (by decide)) (v_X11_judge h.1 a1) (v_X12_judge h.1 a2) (by decide) (by decide) z1 z2 z3 z4 ⟨Nat.le_refl _, Nat.le_refl _⟩ ⟨Nat.le_refl _, Nat.le_refl _⟩ hk hev⟩
theorem sp_16 {X : oX} {K : oK} {M : oM} (h : oInv K M) {N : Nat} (hN : 20000000 ≤ N) {i : Int32} (hin : ∀ k : Nat, k < 6 → vp_in (i + nI k) X.1) : ∃ (K2 : oK) (M2 : oM), oInv K2 M2 ∧ (K.1 ≤ K2.1 ∧ K.2.1 ≤ K2.2.1) ∧ ∀ (K' : oK) (M' : oM), (K2.1 ≤ K'.1 ∧ K2.2.1 ≤ K'.2.1) → oEv X 40 J_L 18 (oHd (i + 6)) [] K2 M2 (some (.int 1)) K' M' → oEv X 40 J_L 802 (oHd i) [] K M (some (.int 1)) K' M' := by
  obtain ⟨z1, z2, z3, z4⟩ := oZ0 h
  obtain ⟨r, M1, M2, a1, a2, a3⟩ := ag_bound h (N := N) (by omega) (X.2 (i + 1).toNatClampNeg) (X.2 (i + 2).toNatClampNeg)
  exact ⟨K, M2, a3, ⟨Nat.le_refl _, Nat.le_refl _⟩, fun K' M' hk hev => lc_16 (hin 1 (by decide)) (hin 2 (by decide)) (v_X11_bound h.1 a1) (v_X12_bound h.1 a2) (by decide) (by decide) z1 z2 z3 z4 ⟨Nat.le_refl _, Nat.le_refl _⟩ ⟨Nat.le_refl _, Nat.le_refl _⟩ hk hev⟩
theorem sp_17 {X : oX} {K : oK} {M : oM} (h : oInv K M) {N : Nat} (hN : 20000000 ≤ N) {i : Int32} (hin : ∀ k : Nat, k < 6 → vp_in (i + nI k) X.1) : ∃ (K2 : oK) (M2 : oM), oInv K2 M2 ∧ (K.1 ≤ K2.1 ∧ K.2.1 ≤ K2.2.1) ∧ ∀ (K' : oK) (M' : oM), (K2.1 ≤ K'.1 ∧ K2.2.1 ≤ K'.2.1) → oEv X 40 J_L 18 (oHd (i + 6)) [] K2 M2 (some (.int 1)) K' M' → oEv X 40 J_L 835 (oHd i) [] K M (some (.int 1)) K' M' := by
  obtain ⟨z1, z2, z3, z4⟩ := oZ0 h
  obtain ⟨r, M1, M2, a1, a2, a3⟩ := ag_most h (N := N) (by omega) (X.2 (i + 1).toNatClampNeg) (X.2 (i + 2).toNatClampNeg) (X.2 (i + 3).toNatClampNeg)
  exact ⟨K, M2, a3, ⟨Nat.le_refl _, Nat.le_refl _⟩, fun K' M' hk hev => lc_17 (hin 1 (by decide)) (hin 2 (by decide)) (hin 3 (by decide)) (v_X11_most h.1 a1) (v_X12_most h.1 a2) (by decide) (by decide) z1 z2 z3 z4 ⟨Nat.le_refl _, Nat.le_refl _⟩ ⟨Nat.le_refl _, Nat.le_refl _⟩ hk hev⟩
theorem sp_18 {X : oX} {K : oK} {M : oM} (h : oInv K M) {N : Nat} (hN : 20000000 ≤ N) {i : Int32} (hin : ∀ k : Nat, k < 6 → vp_in (i + nI k) X.1) : ∃ (K2 : oK) (M2 : oM), oInv K2 M2 ∧ (K.1 ≤ K2.1 ∧ K.2.1 ≤ K2.2.1) ∧ ∀ (K' : oK) (M' : oM), (K2.1 ≤ K'.1 ∧ K2.2.1 ≤ K'.2.1) → oEv X 40 J_L 18 (oHd (i + 6)) [] K2 M2 (some (.int 1)) K' M' → oEv X 40 J_L 878 (oHd i) [] K M (some (.int 1)) K' M' := by
  obtain ⟨z1, z2, z3, z4⟩ := oZ0 h
  obtain ⟨r, M1, M2, a1, a2, a3⟩ := ag_worth h (N := N) (by omega) (X.2 (i + 1).toNatClampNeg) (X.2 (i + 2).toNatClampNeg) (X.2 (i + 3).toNatClampNeg)
  exact ⟨K, M2, a3, ⟨Nat.le_refl _, Nat.le_refl _⟩, fun K' M' hk hev => lc_18 (hin 1 (by decide)) (hin 2 (by decide)) (hin 3 (by decide)) (v_X11_worth h.1 a1) (v_X12_worth h.1 a2) (by decide) (by decide) z1 z2 z3 z4 ⟨Nat.le_refl _, Nat.le_refl _⟩ ⟨Nat.le_refl _, Nat.le_refl _⟩ hk hev⟩
theorem sp_19 {X : oX} {K : oK} {M : oM} (h : oInv K M) {N : Nat} (hN : 20000000 ≤ N) {i : Int32} (hin : ∀ k : Nat, k < 6 → vp_in (i + nI k) X.1) : ∃ (K2 : oK) (M2 : oM), oInv K2 M2 ∧ (K.1 ≤ K2.1 ∧ K.2.1 ≤ K2.2.1) ∧ ∀ (K' : oK) (M' : oM), (K2.1 ≤ K'.1 ∧ K2.2.1 ≤ K'.2.1) → oEv X 40 J_L 18 (oHd (i + 6)) [] K2 M2 (some (.int 1)) K' M' → oEv X 40 J_L 921 (oHd i) [] K M (some (.int 1)) K' M' := by
  obtain ⟨z1, z2, z3, z4⟩ := oZ0 h
  obtain ⟨r, M1, M2, a1, a2, a3⟩ := ag_helps h (N := N) (by omega) (X.2 (i + 1).toNatClampNeg) (X.2 (i + 2).toNatClampNeg) (X.2 (i + 3).toNatClampNeg)
  exact ⟨K, M2, a3, ⟨Nat.le_refl _, Nat.le_refl _⟩, fun K' M' hk hev => lc_19 (hin 1 (by decide)) (hin 2 (by decide)) (hin 3 (by decide)) (v_X11_helps h.1 a1) (v_X12_helps h.1 a2) (by decide) (by decide) z1 z2 z3 z4 ⟨Nat.le_refl _, Nat.le_refl _⟩ ⟨Nat.le_refl _, Nat.le_refl _⟩ hk hev⟩
theorem sp_20 {X : oX} {K : oK} {M : oM} (h : oInv K M) {N : Nat} (hN : 20000000 ≤ N) {i : Int32} (hin : ∀ k : Nat, k < 6 → vp_in (i + nI k) X.1) : ∃ (K2 : oK) (M2 : oM), oInv K2 M2 ∧ (K.1 ≤ K2.1 ∧ K.2.1 ≤ K2.2.1) ∧ ∀ (K' : oK) (M' : oM), (K2.1 ≤ K'.1 ∧ K2.2.1 ≤ K'.2.1) → oEv X 40 J_L 18 (oHd (i + 6)) [] K2 M2 (some (.int 1)) K' M' → oEv X 40 J_L 964 (oHd i) [] K M (some (.int 1)) K' M' := by
  obtain ⟨z1, z2, z3, z4⟩ := oZ0 h
  obtain ⟨r, M1, M2, a1, a2, a3⟩ := ag_goes h (N := N) (by omega) (X.2 (i + 1).toNatClampNeg) (X.2 (i + 2).toNatClampNeg) (X.2 (i + 3).toNatClampNeg)
  exact ⟨K, M2, a3, ⟨Nat.le_refl _, Nat.le_refl _⟩, fun K' M' hk hev => lc_20 (hin 1 (by decide)) (hin 2 (by decide)) (hin 3 (by decide)) (v_X11_goes h.1 a1) (v_X12_goes h.1 a2) (by decide) (by decide) z1 z2 z3 z4 ⟨Nat.le_refl _, Nat.le_refl _⟩ ⟨Nat.le_refl _, Nat.le_refl _⟩ hk hev⟩
theorem sp_21 {X : oX} {K : oK} {M : oM} (h : oInv K M) {N : Nat} (hN : 20000000 ≤ N) {i : Int32} (hin : ∀ k : Nat, k < 6 → vp_in (i + nI k) X.1) : ∃ (K2 : oK) (M2 : oM), oInv K2 M2 ∧ (K.1 ≤ K2.1 ∧ K.2.1 ≤ K2.2.1) ∧ ∀ (K' : oK) (M' : oM), (K2.1 ≤ K'.1 ∧ K2.2.1 ≤ K'.2.1) → oEv X 40 J_L 18 (oHd (i + 6)) [] K2 M2 (some (.int 1)) K' M' → oEv X 40 J_L 1007 (oHd i) [] K M (some (.int 1)) K' M' := by
  obtain ⟨z1, z2, z3, z4⟩ := oZ0 h
  obtain ⟨r, M1, M2, a1, a2, a3⟩ := ag_changed h (N := N) (by omega) (X.2 (i + 1).toNatClampNeg) (X.2 (i + 2).toNatClampNeg)
  exact ⟨K, M2, a3, ⟨Nat.le_refl _, Nat.le_refl _⟩, fun K' M' hk hev => lc_21 (hin 1 (by decide)) (hin 2 (by decide)) (v_X11_changed h.1 a1) (v_X12_changed h.1 a2) (by decide) (by decide) z1 z2 z3 z4 ⟨Nat.le_refl _, Nat.le_refl _⟩ ⟨Nat.le_refl _, Nat.le_refl _⟩ hk hev⟩
theorem sp_22 {X : oX} {K : oK} {M : oM} (h : oInv K M) {N : Nat} (hN : 20000000 ≤ N) {i : Int32} (hin : ∀ k : Nat, k < 6 → vp_in (i + nI k) X.1) : ∃ (K2 : oK) (M2 : oM), oInv K2 M2 ∧ (K.1 ≤ K2.1 ∧ K.2.1 ≤ K2.2.1) ∧ ∀ (K' : oK) (M' : oM), (K2.1 ≤ K'.1 ∧ K2.2.1 ≤ K'.2.1) → oEv X 40 J_L 18 (oHd (i + 6)) [] K2 M2 (some (.int 1)) K' M' → oEv X 40 J_L 1040 (oHd i) [] K M (some (.int 1)) K' M' := by
  obtain ⟨z1, z2, z3, z4⟩ := oZ0 h
  obtain ⟨r, M1, M2, a1, a2, a3⟩ := ag_load h N (X.2 (i + 1).toNatClampNeg)
  exact ⟨K, M2, a3, ⟨Nat.le_refl _, Nat.le_refl _⟩, fun K' M' hk hev => lc_22 (hin 1 (by decide)) (v_X11_load h.1 a1) (v_X12_load h.1 a2) (by decide) (by decide) z1 z2 z3 z4 ⟨Nat.le_refl _, Nat.le_refl _⟩ ⟨Nat.le_refl _, Nat.le_refl _⟩ hk hev⟩
theorem sp_23 {X : oX} {K : oK} {M : oM} (h : oInv K M) {N : Nat} (hN : 20000000 ≤ N) {i : Int32} (hin : ∀ k : Nat, k < 6 → vp_in (i + nI k) X.1) : ∃ (K2 : oK) (M2 : oM), oInv K2 M2 ∧ (K.1 ≤ K2.1 ∧ K.2.1 ≤ K2.2.1) ∧ ∀ (K' : oK) (M' : oM), (K2.1 ≤ K'.1 ∧ K2.2.1 ≤ K'.2.1) → oEv X 40 J_L 18 (oHd (i + 6)) [] K2 M2 (some (.int 1)) K' M' → oEv X 40 J_L 1063 (oHd i) [] K M (some (.int 1)) K' M' := by
  obtain ⟨z1, z2, z3, z4⟩ := oZ0 h
  obtain ⟨r, M1, M2, a1, a2, a3⟩ := ag_minutes h (N := N) (by omega) (X.2 (i + 1).toNatClampNeg) (X.2 (i + 2).toNatClampNeg)
  exact ⟨K, M2, a3, ⟨Nat.le_refl _, Nat.le_refl _⟩, fun K' M' hk hev => lc_23 (hin 1 (by decide)) (hin 2 (by decide)) (v_X11_minutes h.1 a1) (v_X12_minutes h.1 a2) (by decide) (by decide) z1 z2 z3 z4 ⟨Nat.le_refl _, Nat.le_refl _⟩ ⟨Nat.le_refl _, Nat.le_refl _⟩ hk hev⟩
theorem sp_24 {X : oX} {K : oK} {M : oM} (h : oInv K M) {N : Nat} (hN : 20000000 ≤ N) {i : Int32} (hin : ∀ k : Nat, k < 6 → vp_in (i + nI k) X.1) : ∃ (K2 : oK) (M2 : oM), oInv K2 M2 ∧ (K.1 ≤ K2.1 ∧ K.2.1 ≤ K2.2.1) ∧ ∀ (K' : oK) (M' : oM), (K2.1 ≤ K'.1 ∧ K2.2.1 ≤ K'.2.1) → oEv X 40 J_L 18 (oHd (i + 6)) [] K2 M2 (some (.int 1)) K' M' → oEv X 40 J_L 1096 (oHd i) [] K M (some (.int 1)) K' M' := by
  obtain ⟨z1, z2, z3, z4⟩ := oZ0 h
  obtain ⟨r, M1, M2, a1, a2, a3⟩ := ag_unload h N 
  exact ⟨K, M2, a3, ⟨Nat.le_refl _, Nat.le_refl _⟩, fun K' M' hk hev => lc_24  (v_X11_unload h.1 a1) (v_X12_unload h.1 a2) (by decide) (by decide) z1 z2 z3 z4 ⟨Nat.le_refl _, Nat.le_refl _⟩ ⟨Nat.le_refl _, Nat.le_refl _⟩ hk hev⟩
theorem sp_25 {X : oX} {K : oK} {M : oM} (h : oInv K M) {N : Nat} (hN : 20000000 ≤ N) {i : Int32} (hin : ∀ k : Nat, k < 6 → vp_in (i + nI k) X.1) : ∃ (K2 : oK) (M2 : oM), oInv K2 M2 ∧ (K.1 ≤ K2.1 ∧ K.2.1 ≤ K2.2.1) ∧ ∀ (K' : oK) (M' : oM), (K2.1 ≤ K'.1 ∧ K2.2.1 ≤ K'.2.1) → oEv X 40 J_L 18 (oHd (i + 6)) [] K2 M2 (some (.int 1)) K' M' → oEv X 40 J_L 1109 (oHd i) [] K M (some (.int 1)) K' M' := by
  obtain ⟨z1, z2, z3, z4⟩ := oZ0 h
  obtain ⟨r, M1, M2, a1, a2, a3⟩ := ag_soon h (N := N) (by omega) (X.2 (i + 1).toNatClampNeg) (X.2 (i + 2).toNatClampNeg) (X.2 (i + 3).toNatClampNeg)
  exact ⟨K, M2, a3, ⟨Nat.le_refl _, Nat.le_refl _⟩, fun K' M' hk hev => lc_25 (hin 1 (by decide)) (hin 2 (by decide)) (hin 3 (by decide)) (v_X11_soon h.1 a1) (v_X12_soon h.1 a2) (by decide) (by decide) z1 z2 z3 z4 ⟨Nat.le_refl _, Nat.le_refl _⟩ ⟨Nat.le_refl _, Nat.le_refl _⟩ hk hev⟩
theorem sp_26 {X : oX} {K : oK} {M : oM} (h : oInv K M) {N : Nat} (hN : 20000000 ≤ N) {i : Int32} (hin : ∀ k : Nat, k < 6 → vp_in (i + nI k) X.1) : ∃ (K2 : oK) (M2 : oM), oInv K2 M2 ∧ (K.1 ≤ K2.1 ∧ K.2.1 ≤ K2.2.1) ∧ ∀ (K' : oK) (M' : oM), (K2.1 ≤ K'.1 ∧ K2.2.1 ≤ K'.2.1) → oEv X 40 J_L 18 (oHd (i + 6)) [] K2 M2 (some (.int 1)) K' M' → oEv X 40 J_L 1152 (oHd i) [] K M (some (.int 1)) K' M' := by
  obtain ⟨z1, z2, z3, z4⟩ := oZ0 h
  obtain ⟨r, M1, M2, a1, a2, a3⟩ := ag_lasts h (N := N) (by omega) (X.2 (i + 1).toNatClampNeg)
  exact ⟨K, M2, a3, ⟨Nat.le_refl _, Nat.le_refl _⟩, fun K' M' hk hev => lc_26 (hin 1 (by decide)) (v_X11_lasts h.1 a1) (v_X12_lasts h.1 a2) (by decide) (by decide) z1 z2 z3 z4 ⟨Nat.le_refl _, Nat.le_refl _⟩ ⟨Nat.le_refl _, Nat.le_refl _⟩ hk hev⟩
theorem sp_27 {X : oX} {K : oK} {M : oM} (h : oInv K M) {N : Nat} (hN : 20000000 ≤ N) {i : Int32} (hin : ∀ k : Nat, k < 6 → vp_in (i + nI k) X.1) : ∃ (K2 : oK) (M2 : oM), oInv K2 M2 ∧ (K.1 ≤ K2.1 ∧ K.2.1 ≤ K2.2.1) ∧ ∀ (K' : oK) (M' : oM), (K2.1 ≤ K'.1 ∧ K2.2.1 ≤ K'.2.1) → oEv X 40 J_L 18 (oHd (i + 6)) [] K2 M2 (some (.int 1)) K' M' → oEv X 40 J_L 1175 (oHd i) [] K M (some (.int 1)) K' M' := by
  obtain ⟨z1, z2, z3, z4⟩ := oZ0 h
  obtain ⟨r, M1, M2, a1, a2, a3⟩ := ag_turn h (N := N) (by omega) (X.2 (i + 1).toNatClampNeg) (X.2 (i + 2).toNatClampNeg)
  exact ⟨K, M2, a3, ⟨Nat.le_refl _, Nat.le_refl _⟩, fun K' M' hk hev => lc_27 (hin 1 (by decide)) (hin 2 (by decide)) (v_X11_turn h.1 a1) (v_X12_turn h.1 a2) (by decide) (by decide) z1 z2 z3 z4 ⟨Nat.le_refl _, Nat.le_refl _⟩ ⟨Nat.le_refl _, Nat.le_refl _⟩ hk hev⟩
theorem sp_28 {X : oX} {K : oK} {M : oM} (h : oInv K M) {N : Nat} (hN : 20000000 ≤ N) {i : Int32} (hin : ∀ k : Nat, k < 6 → vp_in (i + nI k) X.1) : ∃ (K2 : oK) (M2 : oM), oInv K2 M2 ∧ (K.1 ≤ K2.1 ∧ K.2.1 ≤ K2.2.1) ∧ ∀ (K' : oK) (M' : oM), (K2.1 ≤ K'.1 ∧ K2.2.1 ≤ K'.2.1) → oEv X 40 J_L 18 (oHd (i + 6)) [] K2 M2 (some (.int 1)) K' M' → oEv X 40 J_L 1208 (oHd i) [] K M (some (.int 1)) K' M' := by
  obtain ⟨z1, z2, z3, z4⟩ := oZ0 h
  obtain ⟨r, M1, M2, a1, a2, a3⟩ := ag_share h (N := N) (by omega) (X.2 (i + 1).toNatClampNeg) (X.2 (i + 2).toNatClampNeg) (X.2 (i + 3).toNatClampNeg) (X.2 (i + 4).toNatClampNeg)
  exact ⟨K, M2, a3, ⟨Nat.le_refl _, Nat.le_refl _⟩, fun K' M' hk hev => lc_28 (hin 1 (by decide)) (hin 2 (by decide)) (hin 3 (by decide)) (hin 4 (by decide)) (v_X11_share h.1 a1) (v_X12_share h.1 a2) (by decide) (by decide) z1 z2 z3 z4 ⟨Nat.le_refl _, Nat.le_refl _⟩ ⟨Nat.le_refl _, Nat.le_refl _⟩ hk hev⟩
theorem sp_29 {X : oX} {K : oK} {M : oM} (h : oInv K M) {N : Nat} (hN : 20000000 ≤ N) {i : Int32} (hin : ∀ k : Nat, k < 6 → vp_in (i + nI k) X.1) : ∃ (K2 : oK) (M2 : oM), oInv K2 M2 ∧ (K.1 ≤ K2.1 ∧ K.2.1 ≤ K2.2.1) ∧ ∀ (K' : oK) (M' : oM), (K2.1 ≤ K'.1 ∧ K2.2.1 ≤ K'.2.1) → oEv X 40 J_L 18 (oHd (i + 6)) [] K2 M2 (some (.int 1)) K' M' → oEv X 40 J_L 1261 (oHd i) [] K M (some (.int 1)) K' M' := by
  obtain ⟨z1, z2, z3, z4⟩ := oZ0 h
  obtain ⟨r, M1, M2, a1, a2, a3⟩ := ag_thing h N (X.2 (i + 1).toNatClampNeg) (X.2 (i + 2).toNatClampNeg)
  exact ⟨K, M2, a3, ⟨Nat.le_refl _, Nat.le_refl _⟩, fun K' M' hk hev => lc_29 (hin 1 (by decide)) (hin 2 (by decide)) (v_X11_thing h.1 a1) (v_X12_thing h.1 a2) (by decide) (by decide) z1 z2 z3 z4 ⟨Nat.le_refl _, Nat.le_refl _⟩ ⟨Nat.le_refl _, Nat.le_refl _⟩ hk hev⟩
theorem sp_30 {X : oX} {K : oK} {M : oM} (h : oInv K M) {N : Nat} (hN : 20000000 ≤ N) {i : Int32} (hin : ∀ k : Nat, k < 6 → vp_in (i + nI k) X.1) : ∃ (K2 : oK) (M2 : oM), oInv K2 M2 ∧ (K.1 ≤ K2.1 ∧ K.2.1 ≤ K2.2.1) ∧ ∀ (K' : oK) (M' : oM), (K2.1 ≤ K'.1 ∧ K2.2.1 ≤ K'.2.1) → oEv X 40 J_L 18 (oHd (i + 6)) [] K2 M2 (some (.int 1)) K' M' → oEv X 40 J_L 1294 (oHd i) [] K M (some (.int 1)) K' M' := by
  obtain ⟨z1, z2, z3, z4⟩ := oZ0 h
  obtain ⟨r, M1, M2, a1, a2, a3⟩ := ag_cart h (N := N) (by omega) (X.2 (i + 1).toNatClampNeg) (X.2 (i + 2).toNatClampNeg) (X.2 (i + 3).toNatClampNeg)
  exact ⟨K, M2, a3, ⟨Nat.le_refl _, Nat.le_refl _⟩, fun K' M' hk hev => lc_30 (hin 1 (by decide)) (hin 2 (by decide)) (hin 3 (by decide)) (v_X11_cart h.1 a1) (v_X12_cart h.1 a2) (by decide) (by decide) z1 z2 z3 z4 ⟨Nat.le_refl _, Nat.le_refl _⟩ ⟨Nat.le_refl _, Nat.le_refl _⟩ hk hev⟩
theorem sp_31 {X : oX} {K : oK} {M : oM} (h : oInv K M) {N : Nat} (hN : 20000000 ≤ N) {i : Int32} (hin : ∀ k : Nat, k < 6 → vp_in (i + nI k) X.1) : ∃ (K2 : oK) (M2 : oM), oInv K2 M2 ∧ (K.1 ≤ K2.1 ∧ K.2.1 ≤ K2.2.1) ∧ ∀ (K' : oK) (M' : oM), (K2.1 ≤ K'.1 ∧ K2.2.1 ≤ K'.2.1) → oEv X 40 J_L 18 (oHd (i + 6)) [] K2 M2 (some (.int 1)) K' M' → oEv X 40 J_L 1337 (oHd i) [] K M (some (.int 1)) K' M' := by
  obtain ⟨z1, z2, z3, z4⟩ := oZ0 h
  obtain ⟨r, M1, M2, a1, a2, a3⟩ := ag_unthing h N 
  exact ⟨K, M2, a3, ⟨Nat.le_refl _, Nat.le_refl _⟩, fun K' M' hk hev => lc_31  (v_X11_unthing h.1 a1) (v_X12_unthing h.1 a2) (by decide) (by decide) z1 z2 z3 z4 ⟨Nat.le_refl _, Nat.le_refl _⟩ ⟨Nat.le_refl _, Nat.le_refl _⟩ hk hev⟩
theorem sp_32 {X : oX} {K : oK} {M : oM} (h : oInv K M) {N : Nat} (hN : 20000000 ≤ N) {i : Int32} (hin : ∀ k : Nat, k < 6 → vp_in (i + nI k) X.1) : ∃ (K2 : oK) (M2 : oM), oInv K2 M2 ∧ (K.1 ≤ K2.1 ∧ K.2.1 ≤ K2.2.1) ∧ ∀ (K' : oK) (M' : oM), (K2.1 ≤ K'.1 ∧ K2.2.1 ≤ K'.2.1) → oEv X 40 J_L 18 (oHd (i + 6)) [] K2 M2 (some (.int 1)) K' M' → oEv X 40 J_L 1350 (oHd i) [] K M (some (.int 1)) K' M' := by
  obtain ⟨z1, z2, z3, z4⟩ := oZ0 h
  obtain ⟨r, M1, M2, a1, a2, a3⟩ := ag_old h (N := N) (by omega) (X.2 (i + 1).toNatClampNeg)
  exact ⟨K, M2, a3, ⟨Nat.le_refl _, Nat.le_refl _⟩, fun K' M' hk hev => lc_32 (hin 1 (by decide)) (v_X11_old h.1 a1) (v_X12_old h.1 a2) (by decide) (by decide) z1 z2 z3 z4 ⟨Nat.le_refl _, Nat.le_refl _⟩ ⟨Nat.le_refl _, Nat.le_refl _⟩ hk hev⟩
theorem sp_33 {X : oX} {K : oK} {M : oM} (h : oInv K M) {N : Nat} (hN : 20000000 ≤ N) {i : Int32} (hin : ∀ k : Nat, k < 6 → vp_in (i + nI k) X.1) : ∃ (K2 : oK) (M2 : oM), oInv K2 M2 ∧ (K.1 ≤ K2.1 ∧ K.2.1 ≤ K2.2.1) ∧ ∀ (K' : oK) (M' : oM), (K2.1 ≤ K'.1 ∧ K2.2.1 ≤ K'.2.1) → oEv X 40 J_L 18 (oHd (i + 6)) [] K2 M2 (some (.int 1)) K' M' → oEv X 40 J_L 1373 (oHd i) [] K M (some (.int 1)) K' M' := by
  obtain ⟨z1, z2, z3, z4⟩ := oZ0 h
  obtain ⟨r, M1, M2, a1, a2, a3⟩ := ag_undo h N 
  exact ⟨K, M2, a3, ⟨Nat.le_refl _, Nat.le_refl _⟩, fun K' M' hk hev => lc_33  (v_X11_undo h.1 a1) (v_X12_undo h.1 a2) (by decide) (by decide) z1 z2 z3 z4 ⟨Nat.le_refl _, Nat.le_refl _⟩ ⟨Nat.le_refl _, Nat.le_refl _⟩ hk hev⟩
theorem sp_34 {X : oX} {K : oK} {M : oM} (h : oInv K M) {N : Nat} (hN : 20000000 ≤ N) {i : Int32} (hin : ∀ k : Nat, k < 6 → vp_in (i + nI k) X.1) : ∃ (K2 : oK) (M2 : oM), oInv K2 M2 ∧ (K.1 ≤ K2.1 ∧ K.2.1 ≤ K2.2.1) ∧ ∀ (K' : oK) (M' : oM), (K2.1 ≤ K'.1 ∧ K2.2.1 ≤ K'.2.1) → oEv X 40 J_L 18 (oHd (i + 6)) [] K2 M2 (some (.int 1)) K' M' → oEv X 40 J_L 1386 (oHd i) [] K M (some (.int 1)) K' M' := by
  obtain ⟨z1, z2, z3, z4⟩ := oZ0 h
  obtain ⟨r, M1, M2, a1, a2, a3⟩ := ag_redo h N 
  exact ⟨K, M2, a3, ⟨Nat.le_refl _, Nat.le_refl _⟩, fun K' M' hk hev => lc_34  (v_X11_redo h.1 a1) (v_X12_redo h.1 a2) (by decide) (by decide) z1 z2 z3 z4 ⟨Nat.le_refl _, Nat.le_refl _⟩ ⟨Nat.le_refl _, Nat.le_refl _⟩ hk hev⟩
theorem sp_35 {X : oX} {K : oK} {M : oM} (h : oInv K M) {N : Nat} (hN : 20000000 ≤ N) {i : Int32} (hin : ∀ k : Nat, k < 6 → vp_in (i + nI k) X.1) : ∃ (K2 : oK) (M2 : oM), oInv K2 M2 ∧ (K.1 ≤ K2.1 ∧ K.2.1 ≤ K2.2.1) ∧ ∀ (K' : oK) (M' : oM), (K2.1 ≤ K'.1 ∧ K2.2.1 ≤ K'.2.1) → oEv X 40 J_L 18 (oHd (i + 6)) [] K2 M2 (some (.int 1)) K' M' → oEv X 40 J_L 1399 (oHd i) [] K M (some (.int 1)) K' M' := by
  obtain ⟨z1, z2, z3, z4⟩ := oZ0 h
  obtain ⟨r, M1, M2, a1, a2, a3⟩ := ag_act h (N := N) (by omega) (X.2 (i + 1).toNatClampNeg) (X.2 (i + 2).toNatClampNeg) (X.2 (i + 3).toNatClampNeg)
  exact ⟨K, M2, a3, ⟨Nat.le_refl _, Nat.le_refl _⟩, fun K' M' hk hev => lc_35 (hin 1 (by decide)) (hin 2 (by decide)) (hin 3 (by decide)) (v_X11_act h.1 a1) (v_X12_act h.1 a2) (by decide) (by decide) z1 z2 z3 z4 ⟨Nat.le_refl _, Nat.le_refl _⟩ ⟨Nat.le_refl _, Nat.le_refl _⟩ hk hev⟩
theorem sp_36 {X : oX} {K : oK} {M : oM} (h : oInv K M) {N : Nat} (hN : 20000000 ≤ N) {i : Int32} (hin : ∀ k : Nat, k < 6 → vp_in (i + nI k) X.1) : ∃ (K2 : oK) (M2 : oM), oInv K2 M2 ∧ (K.1 ≤ K2.1 ∧ K.2.1 ≤ K2.2.1) ∧ ∀ (K' : oK) (M' : oM), (K2.1 ≤ K'.1 ∧ K2.2.1 ≤ K'.2.1) → oEv X 40 J_L 18 (oHd (i + 6)) [] K2 M2 (some (.int 1)) K' M' → oEv X 40 J_L 1442 (oHd i) [] K M (some (.int 1)) K' M' := by
  obtain ⟨z1, z2, z3, z4⟩ := oZ0 h
  obtain ⟨r, M1, M2, a1, a2, a3⟩ := ag_trace h N (X.2 (i + 1).toNatClampNeg)
  exact ⟨K, M2, a3, ⟨Nat.le_refl _, Nat.le_refl _⟩, fun K' M' hk hev => lc_36 (hin 1 (by decide)) (v_X11_trace h.1 a1) (v_X12_trace h.1 a2) (by decide) (by decide) z1 z2 z3 z4 ⟨Nat.le_refl _, Nat.le_refl _⟩ ⟨Nat.le_refl _, Nat.le_refl _⟩ hk hev⟩
theorem sp_37 {X : oX} {K : oK} {M : oM} (h : oInv K M) {N : Nat} (hN : 20000000 ≤ N) {i : Int32} (hin : ∀ k : Nat, k < 6 → vp_in (i + nI k) X.1) : ∃ (K2 : oK) (M2 : oM), oInv K2 M2 ∧ (K.1 ≤ K2.1 ∧ K.2.1 ≤ K2.2.1) ∧ ∀ (K' : oK) (M' : oM), (K2.1 ≤ K'.1 ∧ K2.2.1 ≤ K'.2.1) → oEv X 40 J_L 18 (oHd (i + 6)) [] K2 M2 (some (.int 1)) K' M' → oEv X 40 J_L 1465 (oHd i) [] K M (some (.int 1)) K' M' := by
  obtain ⟨z1, z2, z3, z4⟩ := oZ0 h
  obtain ⟨r, K1, M1, M2, a1, a2, a3, a4, a5⟩ := st_keep (X := X) h N (X.2 (i + 1).toNatClampNeg) (X.2 (i + 2).toNatClampNeg)
  obtain ⟨-, -, y3, y4⟩ := oZ0 a3
  exact ⟨K1, M2, a3, ⟨a4, a5⟩, fun K' M' hk hev => lc_37 (hin 1 (by decide)) (hin 2 (by decide)) a1 (v_X12_keep a3.1 a2) (by decide) (by decide) z1 z2 y3 y4 ⟨a4, a5⟩ ⟨Nat.le_refl _, Nat.le_refl _⟩ hk hev⟩
theorem sp_38 {X : oX} {K : oK} {M : oM} (h : oInv K M) {N : Nat} (hN : 20000000 ≤ N) {i : Int32} (hin : ∀ k : Nat, k < 6 → vp_in (i + nI k) X.1) : ∃ (K2 : oK) (M2 : oM), oInv K2 M2 ∧ (K.1 ≤ K2.1 ∧ K.2.1 ≤ K2.2.1) ∧ ∀ (K' : oK) (M' : oM), (K2.1 ≤ K'.1 ∧ K2.2.1 ≤ K'.2.1) → oEv X 40 J_L 18 (oHd (i + 6)) [] K2 M2 (some (.int 1)) K' M' → oEv X 40 J_L 1498 (oHd i) [] K M (some (.int 1)) K' M' := by
  obtain ⟨z1, z2, z3, z4⟩ := oZ0 h
  obtain ⟨r, K1, M1, M2, a1, a2, a3, a4, a5⟩ := st_row (X := X) h (N := N) (by omega) (X.2 (i + 1).toNatClampNeg) (X.2 (i + 2).toNatClampNeg) (X.2 (i + 3).toNatClampNeg)
  obtain ⟨-, -, y3, y4⟩ := oZ0 a3
  exact ⟨K1, M2, a3, ⟨a4, a5⟩, fun K' M' hk hev => lc_38 (hin 1 (by decide)) (hin 2 (by decide)) (hin 3 (by decide)) a1 (v_X12_row a3.1 a2) (by decide) (by decide) z1 z2 y3 y4 ⟨a4, a5⟩ ⟨Nat.le_refl _, Nat.le_refl _⟩ hk hev⟩
theorem sp_39 {X : oX} {K : oK} {M : oM} (h : oInv K M) {N : Nat} (hN : 20000000 ≤ N) {i : Int32} (hin : ∀ k : Nat, k < 6 → vp_in (i + nI k) X.1) : ∃ (K2 : oK) (M2 : oM), oInv K2 M2 ∧ (K.1 ≤ K2.1 ∧ K.2.1 ≤ K2.2.1) ∧ ∀ (K' : oK) (M' : oM), (K2.1 ≤ K'.1 ∧ K2.2.1 ≤ K'.2.1) → oEv X 40 J_L 18 (oHd (i + 6)) [] K2 M2 (some (.int 1)) K' M' → oEv X 40 J_L 1541 (oHd i) [] K M (some (.int 1)) K' M' := by
  obtain ⟨z1, z2, z3, z4⟩ := oZ0 h
  obtain ⟨r, M1, M2, a1, a2, a3⟩ := ag_put h N (X.2 (i + 1).toNatClampNeg) (X.2 (i + 2).toNatClampNeg) ((((X.2 (i + 3).toNatClampNeg)).toInt64 <<< ((32 : Int32).toInt64 &&& 63)) ||| (((X.2 (i + 4).toNatClampNeg)).toInt64 &&& 4294967295))
  exact ⟨K, M2, a3, ⟨Nat.le_refl _, Nat.le_refl _⟩, fun K' M' hk hev => lc_39 (hin 1 (by decide)) (hin 2 (by decide)) (hin 3 (by decide)) (hin 4 (by decide)) (v_X11_put h.1 a1) (v_X12_put h.1 a2) (by decide) (by decide) z1 z2 z3 z4 ⟨Nat.le_refl _, Nat.le_refl _⟩ ⟨Nat.le_refl _, Nat.le_refl _⟩ hk hev⟩
theorem sp_40 {X : oX} {K : oK} {M : oM} (h : oInv K M) {N : Nat} (hN : 20000000 ≤ N) {i : Int32} (hin : ∀ k : Nat, k < 6 → vp_in (i + nI k) X.1) : ∃ (K2 : oK) (M2 : oM), oInv K2 M2 ∧ (K.1 ≤ K2.1 ∧ K.2.1 ≤ K2.2.1) ∧ ∀ (K' : oK) (M' : oM), (K2.1 ≤ K'.1 ∧ K2.2.1 ≤ K'.2.1) → oEv X 40 J_L 18 (oHd (i + 6)) [] K2 M2 (some (.int 1)) K' M' → oEv X 40 J_L 1614 (oHd i) [] K M (some (.int 1)) K' M' := by
  obtain ⟨z1, z2, z3, z4⟩ := oZ0 h
  obtain ⟨r, M1, M2, a1, a2, a3⟩ := ag_element h N (X.2 (i + 1).toNatClampNeg) (X.2 (i + 2).toNatClampNeg)
  exact ⟨K, M2, a3, ⟨Nat.le_refl _, Nat.le_refl _⟩, fun K' M' hk hev => lc_40 (hin 1 (by decide)) (hin 2 (by decide)) (v_X11_element h.1 a1) (v_X12_element h.1 a2) (by decide) (by decide) z1 z2 z3 z4 ⟨Nat.le_refl _, Nat.le_refl _⟩ ⟨Nat.le_refl _, Nat.le_refl _⟩ hk hev⟩
theorem sp_41 {X : oX} {K : oK} {M : oM} (h : oInv K M) {N : Nat} (hN : 20000000 ≤ N) {i : Int32} (hin : ∀ k : Nat, k < 6 → vp_in (i + nI k) X.1) : ∃ (K2 : oK) (M2 : oM), oInv K2 M2 ∧ (K.1 ≤ K2.1 ∧ K.2.1 ≤ K2.2.1) ∧ ∀ (K' : oK) (M' : oM), (K2.1 ≤ K'.1 ∧ K2.2.1 ≤ K'.2.1) → oEv X 40 J_L 18 (oHd (i + 6)) [] K2 M2 (some (.int 1)) K' M' → oEv X 40 J_L 1648 (oHd i) [] K M (some (.int 1)) K' M' := by
  obtain ⟨z1, z2, z3, z4⟩ := oZ0 h
  obtain ⟨r, M1, M2, a1, a2, a3⟩ := ag_shift h (N := N) (by omega) (X.2 (i + 1).toNatClampNeg) (X.2 (i + 2).toNatClampNeg) (X.2 (i + 3).toNatClampNeg) (X.2 (i + 4).toNatClampNeg) (X.2 (i + 5).toNatClampNeg)
  exact ⟨K, M2, a3, ⟨Nat.le_refl _, Nat.le_refl _⟩, fun K' M' hk hev => lc_41 (hin 1 (by decide)) (hin 2 (by decide)) (hin 3 (by decide)) (hin 4 (by decide)) (hin 5 (by decide)) (v_X11_shift h.1 a1) (v_X12_shift h.1 a2) (by decide) (by decide) z1 z2 z3 z4 ⟨Nat.le_refl _, Nat.le_refl _⟩ ⟨Nat.le_refl _, Nat.le_refl _⟩ hk hev⟩
theorem sp_42 {X : oX} {K : oK} {M : oM} (h : oInv K M) {N : Nat} (hN : 20000000 ≤ N) {i : Int32} (hin : ∀ k : Nat, k < 6 → vp_in (i + nI k) X.1) : ∃ (K2 : oK) (M2 : oM), oInv K2 M2 ∧ (K.1 ≤ K2.1 ∧ K.2.1 ≤ K2.2.1) ∧ ∀ (K' : oK) (M' : oM), (K2.1 ≤ K'.1 ∧ K2.2.1 ≤ K'.2.1) → oEv X 40 J_L 18 (oHd (i + 6)) [] K2 M2 (some (.int 1)) K' M' → oEv X 40 J_L 1711 (oHd i) [] K M (some (.int 1)) K' M' := by
  obtain ⟨z1, z2, z3, z4⟩ := oZ0 h
  obtain ⟨r, M1, M2, a1, a2, a3⟩ := ag_taken h (N := N) (by omega) (X.2 (i + 1).toNatClampNeg) (X.2 (i + 2).toNatClampNeg)
  exact ⟨K, M2, a3, ⟨Nat.le_refl _, Nat.le_refl _⟩, fun K' M' hk hev => lc_42 (hin 1 (by decide)) (hin 2 (by decide)) (v_X11_taken h.1 a1) (v_X12_taken h.1 a2) (by decide) (by decide) z1 z2 z3 z4 ⟨Nat.le_refl _, Nat.le_refl _⟩ ⟨Nat.le_refl _, Nat.le_refl _⟩ hk hev⟩
theorem sp_43 {X : oX} {K : oK} {M : oM} (h : oInv K M) {N : Nat} (hN : 20000000 ≤ N) {i : Int32} (hin : ∀ k : Nat, k < 6 → vp_in (i + nI k) X.1) : ∃ (K2 : oK) (M2 : oM), oInv K2 M2 ∧ (K.1 ≤ K2.1 ∧ K.2.1 ≤ K2.2.1) ∧ ∀ (K' : oK) (M' : oM), (K2.1 ≤ K'.1 ∧ K2.2.1 ≤ K'.2.1) → oEv X 40 J_L 18 (oHd (i + 6)) [] K2 M2 (some (.int 1)) K' M' → oEv X 40 J_L 1744 (oHd i) [] K M (some (.int 1)) K' M' := by
  obtain ⟨z1, z2, z3, z4⟩ := oZ0 h
  obtain ⟨r, M1, M2, a1, a2, a3⟩ := ag_count h N (X.2 (i + 1).toNatClampNeg)
  exact ⟨K, M2, a3, ⟨Nat.le_refl _, Nat.le_refl _⟩, fun K' M' hk hev => lc_43 (hin 1 (by decide)) (v_X11_count h.1 a1) (v_X12_count h.1 a2) (by decide) (by decide) z1 z2 z3 z4 ⟨Nat.le_refl _, Nat.le_refl _⟩ ⟨Nat.le_refl _, Nat.le_refl _⟩ hk hev⟩
theorem oInv_step (X : oX) : oStepOk X oInv := by
  intro K M h i hin pc hpc
  obtain ⟨N, hN⟩ : ∃ N : Nat, 20000000 ≤ N := ⟨20000000, Nat.le_refl _⟩
  unfold oPcs at hpc
  simp only [List.mem_cons, List.not_mem_nil, or_false] at hpc
  rcases hpc with rfl | rfl | rfl | rfl | rfl | rfl | rfl | rfl | rfl | rfl | rfl | rfl | rfl | rfl | rfl | rfl | rfl | rfl | rfl | rfl | rfl | rfl | rfl | rfl | rfl | rfl | rfl | rfl | rfl | rfl | rfl | rfl | rfl | rfl | rfl | rfl | rfl | rfl | rfl | rfl | rfl | rfl | rfl | rfl
  · exact sp_0 h hN hin
  · exact sp_1 h hN hin
  · exact sp_2 h hN hin
  · exact sp_3 h hN hin
  · exact sp_4 h hN hin
  · exact sp_5 h hN hin
  · exact sp_6 h hN hin
  · exact sp_7 h hN hin
  · exact sp_8 h hN hin
  · exact sp_9 h hN hin
  · exact sp_10 h hN hin
  · exact sp_11 h hN hin
  · exact sp_12 h hN hin
  · exact sp_13 h hN hin
  · exact sp_14 h hN hin
  · exact sp_15 h hN hin
  · exact sp_16 h hN hin
  · exact sp_17 h hN hin
  · exact sp_18 h hN hin
  · exact sp_19 h hN hin
  · exact sp_20 h hN hin
  · exact sp_21 h hN hin
  · exact sp_22 h hN hin
  · exact sp_23 h hN hin
  · exact sp_24 h hN hin
  · exact sp_25 h hN hin
  · exact sp_26 h hN hin
  · exact sp_27 h hN hin
  · exact sp_28 h hN hin
  · exact sp_29 h hN hin
  · exact sp_30 h hN hin
  · exact sp_31 h hN hin
  · exact sp_32 h hN hin
  · exact sp_33 h hN hin
  · exact sp_34 h hN hin
  · exact sp_35 h hN hin
  · exact sp_36 h hN hin
  · exact sp_37 h hN hin
  · exact sp_38 h hN hin
  · exact sp_39 h hN hin
  · exact sp_40 h hN hin
  · exact sp_41 h hN hin
  · exact sp_42 h hN hin
  · exact sp_43 h hN hin
