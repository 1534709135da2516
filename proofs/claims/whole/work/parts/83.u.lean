/-! the tape told as a table -/
theorem oUp_oUp (M : oM) (a k : Nat) (x y : Int32) : oUp (oUp M a k x) a k y = oUp M a k y := by
  unfold oUp
  refine Prod.ext ?_ rfl
  funext b
  dsimp only
  by_cases c : b = a
  · rw [if_pos c, if_pos c, if_pos rfl]
    funext j
    unfold upd
    by_cases d : j = k
    · rw [if_pos d, if_pos d]
    · rw [if_neg d, if_neg d, if_neg d]
  · rw [if_neg c, if_neg c, if_neg c]
theorem oUp_id (M : oM) (a k : Nat) : oUp M a k (M.1 a k) = M := by
  unfold oUp
  refine Prod.ext ?_ rfl
  funext b
  dsimp only
  by_cases c : b = a
  · rw [if_pos c, c]
    funext j
    unfold upd
    by_cases d : j = k
    · rw [if_pos d, d]
    · rw [if_neg d]
  · rw [if_neg c]
def btC (M : oM) (i : Nat) : Int32 := if (i : Int) < (M.1 17 2).toInt then M.1 18 i &&& 255 else -1
theorem btC_e {M M' : oM} (h2 : M'.1 17 2 = M.1 17 2) (h18 : M'.1 18 = M.1 18) : btC M' = btC M := by
  funext i
  unfold btC
  rw [h2, h18]
theorem byt10 {N : Nat} {K : oK} {M : oM} {p : Nat} (hp : p ≤ 125) (hL : (M.1 17 2).toInt ≤ 120) : f_X10_byteAt N K (nI p) M = some (btC M p, M) := by
  have ep : (nI p).toInt = p := nI_toInt (by omega)
  unfold f_X10_byteAt btC
  rw [if_neg (by rw [oLtI, ep, tl_0]; omega)]
  by_cases c : (p : Int) < (M.1 17 2).toInt
  · rw [if_neg (by rw [oLeI, ep]; omega), oIx_p (by omega) (by omega), nI_n (by omega), if_pos c]
  · rw [if_pos (by rw [oLeI, ep]; omega), if_neg c]
def btM (M : oM) (i : Nat) : Int32 := if (i : Int) < (M.1 59 15).toInt then M.1 69 i else -1
theorem btM_e {M M' : oM} (h2 : M'.1 59 15 = M.1 59 15) (h18 : M'.1 69 = M.1 69) : btM M' = btM M := by
  funext i
  unfold btM
  rw [h2, h18]
theorem byt12 {N : Nat} {K : oK} {M : oM} {p : Nat} (hp : p ≤ 125) (hL : (M.1 59 15).toInt ≤ 120) : f_X12_byteAt N K (nI p) M = some (btM M p, M) := by
  have ep : (nI p).toInt = p := nI_toInt (by omega)
  unfold f_X12_byteAt btM
  by_cases c : (p : Int) < (M.1 59 15).toInt
  · rw [if_neg (by rw [oLeI, ep]; omega), oIx_p (by omega) (by omega), nI_n (by omega), if_pos c]
  · rw [if_pos (by rw [oLeI, ep]; omega), if_neg c]
theorem dig10 {N : Nat} {K : oK} {M : oM} (b : Int32) : f_X10_isDigit N K b M = some (decide (48 ≤ b.toInt ∧ b.toInt ≤ 57), M) := by
  unfold f_X10_isDigit
  by_cases c : b.toInt < 48
  · rw [if_pos (by rw [oLtI, tl_48]; exact c), decide_eq_false (by omega)]
  · rw [if_neg (by rw [oLtI, tl_48]; exact c)]
    by_cases d : 57 < b.toInt
    · rw [if_pos (by rw [oLtI, tl_57]; exact d), decide_eq_false (by omega)]
    · rw [if_neg (by rw [oLtI, tl_57]; exact d), decide_eq_true (by omega)]
theorem dig12 {N : Nat} {K : oK} {M : oM} {p : Nat} (hp : p ≤ 125) (hL : (M.1 59 15).toInt ≤ 120) : f_X12_isDigit N K (nI p) M = some (decide (48 ≤ (btM M p).toInt ∧ (btM M p).toInt ≤ 57), M) := by
  unfold f_X12_isDigit
  rw [byt12 hp hL, oB2_p, w12, oB2_p, oLg, show (48 : Int64).toInt = 48 from rfl, show (57 : Int64).toInt = 57 from rfl, cond_tf]
/-- up to so many digits from a place on: the place behind them, and the number -/
def rdI (B : Nat → Int32) : Nat → Nat → Int32 → Nat × Int32
  | 0, p, v => (p, v)
  | i + 1, p, v => if 48 ≤ (B p).toInt ∧ (B p).toInt ≤ 57 then rdI B i (p + 1) (v * 10 + B p - 48) else (p, v)
theorem rdI_b {B : Nat → Int32} {L : Nat} (hB : ∀ p, L ≤ p → B p = -1) : ∀ (i p : Nat) (v : Int32) (P : Nat), p ≤ L → 0 ≤ v.toInt → v.toInt < P → P * 10 ^ i ≤ 100000 → p ≤ (rdI B i p v).1 ∧ (rdI B i p v).1 ≤ L ∧ 0 ≤ (rdI B i p v).2.toInt ∧ (rdI B i p v).2.toInt ≤ 99999 := by
  intro i
  induction i with
  | zero =>
    intro p v P h1 h2 h3 h4
    rw [rdI]
    dsimp only
    omega
  | succ i ih =>
    intro p v P h1 h2 h3 h4
    have h10 : 1 ≤ 10 ^ i := Nat.pow_pos (by omega)
    rw [Nat.pow_succ, show P * (10 ^ i * 10) = P * 10 * 10 ^ i by rw [Nat.mul_assoc, Nat.mul_comm 10]] at h4
    have h5 : P * 10 * 1 ≤ P * 10 * 10 ^ i := Nat.mul_le_mul_left _ h10
    rw [rdI]
    by_cases c : 48 ≤ (B p).toInt ∧ (B p).toInt ≤ 57
    · rw [if_pos c]
      have hp : p < L := by
        by_cases q : p < L
        · exact q
        · rw [hB p (by omega), tl_m1] at c
          omega
      have e1 : (v * 10).toInt = v.toInt * 10 := by rw [oMul (by rw [tl_10]; omega) (by rw [tl_10]; omega), tl_10]
      have e2 : (v * 10 + B p).toInt = v.toInt * 10 + (B p).toInt := by rw [oAdd (by rw [e1]; omega) (by rw [e1]; omega), e1]
      have e3 : (v * 10 + B p - 48).toInt = v.toInt * 10 + (B p).toInt - 48 := by rw [oSub (by rw [e2, tl_48]; omega) (by rw [e2, tl_48]; omega), e2, tl_48]
      have := ih (p + 1) (v * 10 + B p - 48) (P * 10) (by omega) (by omega) (by omega) h4
      omega
    · rw [if_neg c]
      dsimp only
      omega
theorem dg10 {N : Nat} {K : oK} (n fl p3 : Int32) : ∀ (i m p : Nat) (v : Int32) (M : oM), i ≤ 5 → i < m → p ≤ 120 → (M.1 17 2).toInt ≤ 120 → M.1 17 3 = nI p → f_X10_readNumber_11 N K m n fl p3 v (nI (5 - i)) M = f_X10_readNumber_66 N K n fl p3 (rdI (btC M) i p v).2 (oUp M 17 3 (nI (rdI (btC M) i p v).1)) := by
  intro i
  induction i with
  | zero =>
    intro m p v M h1 h2 h3 hL h4
    obtain ⟨m, rfl⟩ : ∃ k, m = k + 1 := ⟨m - 1, by omega⟩
    rw [f_X10_readNumber_11]
    dsimp only
    rw [if_pos (show (5 : Int32) ≤ nI (5 - 0) by decide), rdI]
    dsimp only
    rw [← h4, oUp_id]
  | succ i ih =>
    intro m p v M h1 h2 h3 hL h4
    obtain ⟨m, rfl⟩ : ∃ k, m = k + 1 := ⟨m - 1, by omega⟩
    have ei : (nI (5 - (i + 1))).toInt = ((5 - (i + 1) : Nat) : Int) := nI_toInt (by omega)
    rw [f_X10_readNumber_11]
    dsimp only
    rw [if_neg (by rw [oLeI, ei, tl_5]; omega), h4, byt10 (by omega) hL, oB2_p, dig10, oB2_p, rdI]
    by_cases c : 48 ≤ (btC M p).toInt ∧ (btC M p).toInt ≤ 57
    · have hp : (p : Int) < (M.1 17 2).toInt := by
        by_cases q : (p : Int) < (M.1 17 2).toInt
        · exact q
        · unfold btC at c
          rw [if_neg q, tl_m1] at c
          omega
      have eb : btC (oUp M 17 3 (nI (p + 1))) = btC M := btC_e (by rw [oUp_at, if_neg (by omega)]) (oUp_ro _ _ _ _ (by decide))
      rw [decide_eq_true c, cond_true, h4, byt10 (by omega) hL, oB2_p, if_pos c, h4, nI_1, nI_1, show 5 - (i + 1) + 1 = 5 - i by omega]
      have := ih m (p + 1) (v * 10 + btC M p - 48) (oUp M 17 3 (nI (p + 1))) (by omega) (by omega) (by omega) (by rw [oUp_at, if_neg (by omega)]; exact hL) (by rw [oUp_at, if_pos ⟨rfl, rfl⟩])
      rw [this, eb, oUp_oUp]
    · rw [decide_eq_false c, cond_false, if_neg c]
      dsimp only
      rw [← h4, oUp_id]
theorem dg12 {N : Nat} {K : oK} (r7 : Int32 → Int32 → oM → Option (Int32 × oM)) (fl : Int32) {p0 : Nat} {M : oM} (hL : (M.1 59 15).toInt ≤ 120) : ∀ (i m p : Nat) (v : Int32), i < m → p + i = p0 + 5 → p0 ≤ p → p ≤ 120 → f_X12_readNumbers_13 N K r7 m fl (nI p) (nI p0) v M = f_X12_readNumbers_51 N K r7 fl (nI (rdI (btM M) i p v).1) (nI p0) (rdI (btM M) i p v).2 M := by
  intro i
  induction i with
  | zero =>
    intro m p v h2 h3 h34 h4
    obtain ⟨m, rfl⟩ : ∃ k, m = k + 1 := ⟨m - 1, by omega⟩
    have ep : (nI p).toInt = p := nI_toInt (by omega)
    have e5 : (nI p0 + 5).toInt = p0 + 5 := by rw [show nI p0 + 5 = nI (p0 + 5) from nI_add p0 5, nI_toInt (by omega)]; omega
    rw [f_X12_readNumbers_13]
    dsimp only
    rw [if_pos (by rw [oLeI, ep, e5]; omega), rdI]
  | succ i ih =>
    intro m p v h2 h3 h34 h4
    obtain ⟨m, rfl⟩ : ∃ k, m = k + 1 := ⟨m - 1, by omega⟩
    have ep : (nI p).toInt = p := nI_toInt (by omega)
    have e5 : (nI p0 + 5).toInt = p0 + 5 := by rw [show nI p0 + 5 = nI (p0 + 5) from nI_add p0 5, nI_toInt (by omega)]; omega
    rw [f_X12_readNumbers_13]
    dsimp only
    rw [if_neg (by rw [oLeI, ep, e5]; omega), dig12 (by omega) hL, oB2_p, rdI]
    by_cases c : 48 ≤ (btM M p).toInt ∧ (btM M p).toInt ≤ 57
    · have hp : (p : Int) < (M.1 59 15).toInt := by
        by_cases q : (p : Int) < (M.1 59 15).toInt
        · exact q
        · unfold btM at c
          rw [if_neg q, tl_m1] at c
          omega
      rw [decide_eq_true c, cond_true, byt12 (by omega) hL, oB2_p, if_pos c, nI_1, Int32.mul_comm 10 v]
      exact ih m (p + 1) _ (by omega) (by omega) (by omega) (by omega)
    · rw [decide_eq_false c, cond_false, if_neg c]
/-- numbers that may be a table's -/
def gdN (fl : Int32) (M : oM) (n : Nat) : Prop := (∀ j, j < n → 0 ≤ (M.1 19 j).toInt ∧ (M.1 19 j).toInt ≤ 99999) ∧ ∀ j, j + 1 < n → if fl = 0 then (M.1 19 (j + 1)).toInt ≤ (M.1 19 j).toInt else (M.1 19 j).toInt ≤ (M.1 19 (j + 1)).toInt
