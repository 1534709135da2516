/-! the tape: bytes that come -/
theorem byt (x : Int32) : (vp_nar .byte (x.toInt8.toInt32)) &&& 255 = x &&& 255 := by
  have e : vp_nar .byte (x.toInt8.toInt32) = x.toInt8.toInt32.toInt8.toInt32 := rfl
  rw [e, Int8.toInt8_toInt32]
  apply Int32.toBitVec_inj.mp
  rw [Int32.toBitVec_and, Int32.toBitVec_and, Int8.toBitVec_toInt32, Int32.toBitVec_toInt8]
  apply BitVec.eq_of_getLsbD_eq
  intro i hi
  rw [BitVec.getLsbD_and, BitVec.getLsbD_and]
  by_cases h : i < 8
  · congr 1
    rw [BitVec.getLsbD_signExtend, BitVec.getLsbD_signExtend]
    simp [h, hi]
  · have : (255 : Int32).toBitVec.getLsbD i = false := (show ∀ j : Fin 32, ¬ j.1 < 8 → (255 : Int32).toBitVec.getLsbD j.1 = false by decide) ⟨i, hi⟩ h
    rw [this, Bool.and_false, Bool.and_false]
def shB (v : Int32) (k : Nat) : Int32 := v >>> (((8 : Int32) * nI k) &&& 31)
theorem tk10 {N : Nat} {K : oK} (p v : Int32) {q L : Nat} (hp : p.toInt = q) (hL : L + q ≤ 120) : ∀ (n k : Nat) (M : oM), k ≤ q → q < k + n → M.1 17 2 = nI (L + k) → ∃ M', f_X10_take_16 N K n p v (nI k) M = some (nI (L + q), M') ∧ oFr [17, 18] [] M M' ∧ M'.1 17 2 = nI (L + q) ∧ ∀ i, M'.1 18 i = if L + k ≤ i ∧ i < L + q then vp_nar .byte ((shB v (i - L)).toInt8.toInt32) else M.1 18 i := by
  intro n
  induction n with
  | zero => intro k M h1 h2; omega
  | succ n ih =>
    intro k M h1 h2 h3
    have ek : (nI k).toInt = k := nI_toInt (by omega)
    have el : (nI (L + k)).toInt = ((L + k : Nat) : Int) := nI_toInt (by omega)
    rw [f_X10_take_16]
    dsimp only
    by_cases c : k = q
    · rw [if_pos (by rw [oLeI, ek, hp]; omega), h3, c]
      exact ⟨M, rfl, .rf, by rw [h3, c], fun i => by rw [if_neg (by omega)]⟩
    · rw [if_neg (by rw [oLeI, ek, hp]; omega), h3, oIx_p (by omega) (by omega), nI_n (by omega), oUp_ro _ _ _ _ (show (17 : Nat) ≠ 18 by decide), h3, nI_1, nI_1]
      obtain ⟨M', a1, a2, a3, a4⟩ := ih (k + 1) (oUp (oUp M 18 (L + k) (vp_nar .byte ((shB v k).toInt8.toInt32))) 17 2 (nI (L + k + 1))) (by omega) (by omega) (by rw [oUp_at, if_pos ⟨rfl, rfl⟩]; rfl)
      refine ⟨M', a1, oFr.tr (.up (by decide) (.up (by decide) .rf)) a2, a3, fun i => ?_⟩
      rw [a4, oUp_ro _ _ _ _ (by decide), oUp_at]
      by_cases d : i = L + k
      · rw [if_neg (by omega), if_pos (by omega), if_pos (by omega), show i - L = k by omega]
      · by_cases d2 : L + k ≤ i ∧ i < L + q
        · rw [if_pos (by omega), if_pos d2]
        · rw [if_neg (by omega), if_neg (by omega), if_neg d2]
theorem tk12 {N : Nat} {K : oK} (p v : Int32) {q L : Nat} (hp : p.toInt = q) (hL : L + q ≤ 120) : ∀ (n k : Nat) (M : oM), k ≤ q → q < k + n → M.1 59 15 = nI (L + k) → ∃ M', f_X12_feed_30 N K n p v (nI k) M = some (nI (L + q), M') ∧ oFr [69] [15] M M' ∧ M'.1 59 15 = nI (L + q) ∧ ∀ i, M'.1 69 i = if L + k ≤ i ∧ i < L + q then shB v (i - L) &&& 255 else M.1 69 i := by
  intro n
  induction n with
  | zero => intro k M h1 h2; omega
  | succ n ih =>
    intro k M h1 h2 h3
    have ek : (nI k).toInt = k := nI_toInt (by omega)
    have el : (nI (L + k)).toInt = ((L + k : Nat) : Int) := nI_toInt (by omega)
    rw [f_X12_feed_30]
    dsimp only
    by_cases c : k = q
    · rw [if_pos (by rw [oLeI, ek, hp]; omega), h3, c]
      exact ⟨M, rfl, .rf, by rw [h3, c], fun i => by rw [if_neg (by omega)]⟩
    · rw [if_neg (by rw [oLeI, ek, hp]; omega), h3, oIx_p (by omega) (by omega), nI_n (by omega), oUp_ro _ _ _ _ (show (59 : Nat) ≠ 69 by decide), h3, nI_1, nI_1]
      obtain ⟨M', a1, a2, a3, a4⟩ := ih (k + 1) (oUp (oUp M 69 (L + k) (shB v k &&& 255)) 59 15 (nI (L + k + 1))) (by omega) (by omega) (by rw [oUp_at, if_pos ⟨rfl, rfl⟩]; rfl)
      refine ⟨M', a1, oFr.tr (.up59 (by decide) (.up (by decide) .rf)) a2, a3, fun i => ?_⟩
      rw [a4, oUp_ro _ _ _ _ (by decide), oUp_at]
      by_cases d : i = L + k
      · rw [if_neg (by omega), if_pos (by omega), if_pos (by omega), show i - L = k by omega]
      · by_cases d2 : L + k ≤ i ∧ i < L + q
        · rw [if_pos (by omega), if_pos d2]
        · rw [if_neg (by omega), if_neg (by omega), if_neg d2]
theorem ag_feed {K : oK} {M : oM} (h : oInv K M) {N : Nat} (hN : 100 ≤ N) (p v : Int32) : oAg K M (f_X11_feed N K p v M) (f_X12_feed N K p v) := by
  obtain ⟨⟨e1, b0, b1⟩, hv⟩ := id h.2.2.2.2.1
  have hL : M.1 17 2 = nI (M.1 17 2).toInt.toNat := oNI (by omega)
  unfold f_X11_feed f_X10_take
  rw [w11, oB2_p, tl_1, tl_4]
  by_cases c : 1 ≤ p.toInt ∧ p.toInt ≤ 4
  · have ea : (M.1 17 2 + p).toInt = (M.1 17 2).toInt + p.toInt := oAdd (by omega) (by omega)
    rw [decide_eq_true c, cond_true]
    by_cases c2 : (M.1 17 2).toInt + p.toInt ≤ 120
    · rw [if_pos (by rw [oLeI, ea, tl_120]; exact c2)]
      obtain ⟨M1, a1, a2, a3, a4⟩ := tk10 (N := N) (K := K) p v (q := p.toInt.toNat) (L := (M.1 17 2).toInt.toNat) (by omega) (by omega) N 0 M (by omega) (by omega) (by rw [Nat.add_zero]; exact hL)
      have f15 : M1.1 59 15 = nI (M.1 17 2).toInt.toNat := by rw [a2.2.1 15 (by decide), e1]; exact hL
      obtain ⟨M2, d1, d2, d3, d4⟩ := tk12 (N := N) (K := K) p v (q := p.toInt.toNat) (L := (M.1 17 2).toInt.toNat) (by omega) (by omega) N 0 M1 (by omega) (by omega) (by rw [Nat.add_zero]; exact f15)
      have e0 : nI 0 = 0 := rfl
      rw [e0] at a1 d1
      rw [a1, oB2_p]
      have r17 : M2.1 17 = M1.1 17 := d2.1 17 (by decide) (by decide)
      have r18 : M2.1 18 = M1.1 18 := d2.1 18 (by decide) (by decide)
      refine oAg.mk M2 rfl ?_ (h.tape (oFr.tr (a2.weak (by decide) (by decide)) (d2.weak (by decide) (by decide))) ⟨⟨?_, ?_, ?_⟩, fun i hi => ?_⟩)
      · unfold f_X12_feed
        rw [w12, oB2_p, oLg, l64_1, show (4 : Int64).toInt = 4 from rfl, decide_eq_true c, cond_true, f15, ← hL, if_pos (by rw [oLeI, ea, tl_120]; exact c2), d1]
      · rw [d3, r17, a3]
      · rw [r17, a3, nI_toInt (by omega)]; omega
      · rw [r17, a3, nI_toInt (by omega)]; omega
      · rw [r17, a3, nI_toInt (by omega)] at hi
        rw [d4, r18, a4]
        by_cases q : (M.1 17 2).toInt.toNat ≤ i
        · rw [if_pos (by omega), if_pos (by omega), byt]
        · rw [if_neg (by omega), if_neg (by omega), a2.1 69 (by decide) (by decide)]
          exact hv i (by omega)
    · rw [if_neg (by rw [oLeI, ea, tl_120]; exact c2), oB2_p]
      refine oAg.mk M rfl ?_ h
      unfold f_X12_feed
      rw [w12, oB2_p, oLg, l64_1, show (4 : Int64).toInt = 4 from rfl, decide_eq_true c, cond_true, e1, if_neg (by rw [oLeI, ea, tl_120]; exact c2)]
  · rw [decide_eq_false c, cond_false]
    refine oAg.mk M rfl ?_ h
    unfold f_X12_feed
    rw [w12, oB2_p, oLg, l64_1, show (4 : Int64).toInt = 4 from rfl, decide_eq_false c, cond_false]
