/-! the most: from the first place; all bores -/
theorem may_0 {E : Nat} {bits : Nat} (hb : bits < 64) (hE : E = 0) : ixB bits 6 = E ∧ bits % 2 ^ 0 = 0 ↔ mayB E bits := by
  have z : ∀ bits, bits < 64 → (ixB bits 6 = 0 ↔ bits = 0) := by decide +kernel
  unfold mayB
  rw [if_pos hE, hE, z bits hb]
  exact ⟨fun q => q.1, fun q => ⟨q, Nat.mod_one _⟩⟩
theorem pl0 {K : oK} {M : oM} (h : oInv K M) {N : Nat} (hN : 1000 ≤ N) {l : Nat} (hl : l < 20) (hy : iLay1 M l) {D : sDt} (hDk : D = DkV M l (M.1 (oLy l) 7).toInt.toNat) (hD : okD D) (hEW : sE D ≤ sW D) {d : Nat} (hq : bq (sW D) 0 d) (need : Int32) {Mb : oM} {V : Nat → Nat → Prop} (hF : fS M Mb) (hm : mHasK M Mb l (M.1 (oLy l) 7).toInt.toNat) (hB : BI D (liftV M) (lossV M) need.toInt (stoM M) V (Mb.1 59 46) (Mb.1 59 47) (Mb.1 59 48)) (hlt : ∀ b' d', V b' d' → d' < d ∧ b' < 2 ^ sW D ∧ mayB (sE D) b') :
    ∃ M2, f_X12_placeFrom N K 6 (nI l) 0 0 (nI d) need Mb = some ((), M2) ∧ fPl Mb M2 ∧ BI D (liftV M) (lossV M) need.toInt (stoM M) (fun b' d' => V b' d' ∨ (d' = d ∧ b' < 2 ^ sW D ∧ mayB (sE D) b')) (M2.1 59 46) (M2.1 59 47) (M2.1 59 48) := by
  have h6 := hD.1
  have h4 := hD.2.1
  have h64 := pow_64 h6
  have key : ∀ b' d', V b' d' → ∀ bits, d' * 10000 + pdg b' (sW D) ≤ d * 10000 + pdg bits (sW D) := fun b' d' q bits => by
    obtain ⟨q1, q2, q3⟩ := hlt b' d' q
    have := may_ix q3
    have hp := pd_b b' (by omega) (by omega)
    rw [(w_st (sW D) (by omega) b' q2).1]
    omega
  by_cases hE : sE D = 0
  · obtain ⟨M2, a1, a2, a3, a4⟩ := plc h hN hl hy hDk hD hq need 0 6 0 0 0 Mb V (by omega) (by omega) (Or.inr rfl) (Nat.zero_le _) (by decide) (by decide) hF hm (fun i hi => absurd hi (Nat.not_lt_zero _)) hB (fun b' d' q bits _ _ _ => key b' d' q bits)
    refine ⟨M2, a1, a2, a4.eq (fun b' d' => ?_)⟩
    unfold PV
    constructor
    · rintro (q | ⟨q1, q2, q3⟩)
      · exact Or.inl q
      · exact Or.inr ⟨q1, q2, (may_0 (by omega) hE).mp q3⟩
    · rintro (q | ⟨q1, q2, q3⟩)
      · exact Or.inl q
      · exact Or.inr ⟨q1, q2, (may_0 (by omega) hE).mpr q3⟩
  · have e45 : Mb.1 59 45 = nI (sE D) := by rw [hDk]; exact hm.1.2
    have f2 : fPl Mb (oUp Mb 90 0 0) := .up (by decide) .rf
    obtain ⟨M2, a1, a2, a3, a4⟩ := plc h hN hl hy hDk hD hq need (sE D - 1) 5 1 1 1 (oUp Mb 90 0 0) V (by omega) (by omega) (Or.inl (by omega)) (by omega) (by decide) (by decide) (hF.tr (fS.pl f2)) (hm.pl f2) (fun i hi => by
      have : i = 0 := by omega
      rw [this, oUp_at, if_pos ⟨rfl, rfl⟩]
      decide +kernel) (by rw [oUp_ro _ _ _ _ (show (59 : Nat) ≠ 90 by decide)]; exact hB) (fun b' d' q bits _ _ _ => key b' d' q bits)
    obtain ⟨n, rfl⟩ : ∃ n, N = n + 2 := ⟨N - 2, by omega⟩
    have e109 : f_X12_placeFrom_109 (n + 2) (f_X12_placeFrom (n + 2) K 5) K (n + 2) (nI l) 0 (nI d) need 0 Mb = some ((), M2) := by
      have hx : ∀ A : Option (Unit × oM), oIx 0 4 A = A := fun A => oIx_p (by decide) (by decide)
      rw [f_X12_placeFrom_109]
      dsimp only
      unfold f_X12_placeFrom_123
      rw [if_pos rfl, if_neg (by decide), hx]
      have a1' : f_X12_placeFrom (n + 2) K 5 (nI l) (0 + 1) (0 + 1) (nI d) need (oUp Mb 90 (0 : Int32).toNatClampNeg 0) = some ((), M2) := a1
      rw [a1', oB2_p, f_X12_placeFrom_109]
      dsimp only
      unfold f_X12_placeFrom_123
      rw [if_pos rfl, if_pos (by decide)]
    refine ⟨M2, ?_, f2.tr a2, a4.eq (fun b' d' => ?_)⟩
    · rw [f_X12_placeFrom]
      dsimp only
      rw [e45, if_neg (by rw [show (0 : Int32) = nI 0 from rfl, nI_inj (by omega) (by omega)]; omega)]
      exact e109
    · unfold PV mayB
      rw [if_neg hE]
      constructor
      · rintro (q | ⟨q1, q2, q3, q4⟩)
        · exact Or.inl q
        · exact Or.inr ⟨q1, q2, q4, q3⟩
      · rintro (q | ⟨q1, q2, q3, q4⟩)
        · exact Or.inl q
        · exact Or.inr ⟨q1, q2, q4, q3⟩
theorem bof {K : oK} {M : oM} (h : oInv K M) {N : Nat} (hN : 1000 ≤ N) {l : Nat} (hl : l < 20) (hy : iLay1 M l) {D : sDt} (hDk : D = DkV M l (M.1 (oLy l) 7).toInt.toNat) (hD : okD D) (hEW : sE D ≤ sW D) (need : Int32) : ∀ (r n w dg : Nat) (Mb : oM) (V : Nat → Nat → Prop), r < n → w + r = sW D → bq w 0 dg → fS M Mb → mHasK M Mb l (M.1 (oLy l) 7).toInt.toNat → BI D (liftV M) (lossV M) need.toInt (stoM M) V (Mb.1 59 46) (Mb.1 59 47) (Mb.1 59 48) → (∀ b' d', V b' d' → (∀ d, bq r dg d → d' < d) ∧ b' < 2 ^ sW D ∧ mayB (sE D) b') →
    ∃ M2, f_X12_boresFrom N K n (nI l) (nI w) (nI dg) need Mb = some ((), M2) ∧ fPl Mb M2 ∧ BI D (liftV M) (lossV M) need.toInt (stoM M) (fun b' d' => V b' d' ∨ (bq r dg d' ∧ b' < 2 ^ sW D ∧ mayB (sE D) b')) (M2.1 59 46) (M2.1 59 47) (M2.1 59 48) := by
  have h6 := hD.1
  intro r
  induction r with
  | zero =>
    intro n w dg Mb V g1 g2 g3 hF hm hB hlt
    obtain ⟨n, rfl⟩ : ∃ m, n = m + 1 := ⟨n - 1, by omega⟩
    have e44 : Mb.1 59 44 = nI (sW D) := by rw [hDk]; exact hm.1.1
    have hw : w = sW D := by omega
    rw [hw] at g3
    obtain ⟨M2, a1, a2, a3⟩ := pl0 h hN hl hy hDk hD hEW g3 need hF hm hB (fun b' d' q => ⟨(hlt b' d' q).1 dg rfl, (hlt b' d' q).2⟩)
    rw [f_X12_boresFrom]
    dsimp only
    rw [e44, if_pos (by rw [hw]), a1, oB2_p]
    exact ⟨M2, rfl, a2, a3⟩
  | succ r ih =>
    intro n w dg Mb V g1 g2 g3 hF hm hB hlt
    obtain ⟨n, rfl⟩ : ∃ m, n = m + 1 := ⟨n - 1, by omega⟩
    have e44 : Mb.1 59 44 = nI (sW D) := by rw [hDk]; exact hm.1.1
    have loop : ∀ (n2 j : Nat) (M1 : oM), j ≤ 3 → 3 < j + n2 → fPl Mb M1 → BI D (liftV M) (lossV M) need.toInt (stoM M) (fun b' d' => V b' d' ∨ ((∃ b, b < j ∧ bq r (10 * dg + b) d') ∧ b' < 2 ^ sW D ∧ mayB (sE D) b')) (M1.1 59 46) (M1.1 59 47) (M1.1 59 48) →
        ∃ M2, f_X12_boresFrom_22 N (f_X12_boresFrom N K n) K n2 (nI l) (nI w) (nI dg) need (nI j) M1 = some ((), M2) ∧ fPl Mb M2 ∧ BI D (liftV M) (lossV M) need.toInt (stoM M) (fun b' d' => V b' d' ∨ ((∃ b, b < 3 ∧ bq r (10 * dg + b) d') ∧ b' < 2 ^ sW D ∧ mayB (sE D) b')) (M2.1 59 46) (M2.1 59 47) (M2.1 59 48) := by
      intro n2
      induction n2 with
      | zero => intro j M1 k1 k2; omega
      | succ n2 ih2 =>
        intro j M1 k1 k2 f kB
        have ej : (nI j).toInt = j := nI_toInt (by omega)
        rw [f_X12_boresFrom_22]
        dsimp only
        by_cases c : j = 3
        · rw [if_pos (by rw [oLeI, ej, tl_3]; omega)]
          rw [c] at kB
          exact ⟨M1, rfl, f, kB⟩
        · rw [if_neg (by rw [oLeI, ej, tl_3]; omega), nI_10', nI_1]
          obtain ⟨M2, a1, a2, a3⟩ := ih n (w + 1) (10 * dg + j) M1 (fun b' d' => V b' d' ∨ ((∃ b, b < j ∧ bq r (10 * dg + b) d') ∧ b' < 2 ^ sW D ∧ mayB (sE D) b')) (by omega) (by omega) (bq_s w 0 dg j g3 (by omega)) (hF.tr (fS.pl f)) (hm.pl f) kB (by
            rintro b' d' (q | ⟨⟨b, q1, q2⟩, q3, q4⟩)
            · exact ⟨fun d hd => (hlt b' d' q).1 d ⟨j, by omega, hd⟩, (hlt b' d' q).2⟩
            · exact ⟨fun d hd => bq_lt q2 hd (by omega), q3, q4⟩)
          rw [a1, oB2_p, nI_1]
          refine ih2 (j + 1) M2 (by omega) (by omega) (f.tr a2) (a3.eq (fun b' d' => ?_))
          constructor
          · rintro ((q | ⟨⟨b, q1, q2⟩, q3⟩) | ⟨q2, q3⟩)
            · exact Or.inl q
            · exact Or.inr ⟨⟨b, by omega, q2⟩, q3⟩
            · exact Or.inr ⟨⟨j, by omega, q2⟩, q3⟩
          · rintro (q | ⟨⟨b, q1, q2⟩, q3⟩)
            · exact Or.inl (Or.inl q)
            · by_cases z : b = j
              · rw [z] at q2
                exact Or.inr ⟨q2, q3⟩
              · exact Or.inl (Or.inr ⟨⟨b, by omega, q2⟩, q3⟩)
    rw [f_X12_boresFrom]
    dsimp only
    rw [e44, if_neg (by rw [nI_inj (by omega) (by omega)]; omega)]
    obtain ⟨M2, a1, a2, a3⟩ := loop N 0 Mb (by omega) (by omega) .rf (hB.eq (fun b' d' => by
      constructor
      · intro q
        exact Or.inl q
      · rintro (q | ⟨⟨b, q1, -⟩, -⟩)
        · exact q
        · omega))
    exact ⟨M2, a1, a2, a3⟩
