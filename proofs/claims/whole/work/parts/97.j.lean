/-! what should be on the cart -/
/-- weight and worth of a set, of its things below a place -/
def wgS (wt hp : Nat → Int32) (bits : Int32) : Nat → Int32 × Int32
  | 0 => (0, 0)
  | i + 1 => if (bits >>> (nI i &&& 31)) &&& 1 = 1 then ((wgS wt hp bits i).1 + wt i, (wgS wt hp bits i).2 + hp i) else wgS wt hp bits i
/-- the better of what was best (set, sum, weight) and a set -/
def btS (most : Int32) (b : Int32 × Int32 × Int32) (bits : Int32) (w : Int32 × Int32) : Int32 × Int32 × Int32 := if most < w.1 then b else if b.2.1 < w.2 then (bits, w.2, w.1) else if w.2 = b.2.1 then (if b.2.2 ≤ w.1 then b else (bits, w.2, w.1)) else b
def bsS (most : Int32) (wt hp : Nat → Int32) (n : Nat) : Nat → Int32 × Int32 × Int32
  | 0 => (0, 0, 0)
  | k + 1 => btS most (bsS most wt hp n k) (nI (k + 1)) (wgS wt hp (nI (k + 1)) n)
def setB (M : oM) (b : Int32 × Int32 × Int32) : oM := oUp (oUp (oUp M 40 4 b.2.1) 40 5 b.1) 40 6 b.2.2
theorem setB_at (M : oM) (b : Int32 × Int32 × Int32) (a j : Nat) : (setB M b).1 a j = if a = 40 ∧ j = 6 then b.2.2 else if a = 40 ∧ j = 5 then b.1 else if a = 40 ∧ j = 4 then b.2.1 else M.1 a j := by
  unfold setB
  rw [oUp_at, oUp_at, oUp_at]
theorem setB_B (M : oM) (b b' : Int32 × Int32 × Int32) : setB (setB M b) b' = setB M b' := by
  refine Prod.ext ?_ rfl
  funext a j
  rw [setB_at, setB_at, setB_at]
  by_cases c6 : a = 40 ∧ j = 6
  · rw [if_pos c6, if_pos c6]
  · rw [if_neg c6, if_neg c6]
    by_cases c5 : a = 40 ∧ j = 5
    · simp only [if_neg c6, if_pos c5]
    · rw [if_neg c5, if_neg c5]
      by_cases c4 : a = 40 ∧ j = 4
      · simp only [if_neg c6, if_neg c5, if_pos c4]
      · rw [if_neg c4, if_neg c4, if_neg c6, if_neg c5, if_neg c4]
theorem setB_ro (M : oM) (b : Int32 × Int32 × Int32) {a : Nat} (h : a ≠ 40) : (setB M b).1 a = M.1 a := by
  unfold setB
  rw [oUp_ro _ _ _ _ h, oUp_ro _ _ _ _ h, oUp_ro _ _ _ _ h]
theorem wg1 {N : Nat} {K : oK} {n : Nat} (hn : n ≤ 9) (bits most : Int32) {M : oM} {b : Int32 × Int32 × Int32} (hc : M.1 40 3 = nI n) : ∀ (f i : Nat), i ≤ n → n < i + f → f_X1_weighSet_8 N K f bits most (wgS (M.1 41) (M.1 43) bits i).1 (wgS (M.1 41) (M.1 43) bits i).2 (nI i) (setB M b) = some ((), setB M (btS most b bits (wgS (M.1 41) (M.1 43) bits n))) := by
  have en : (nI n).toInt = n := nI_toInt (by omega)
  have e3 : (setB M b).1 40 3 = nI n := by rw [setB_at, if_neg (by omega), if_neg (by omega), if_neg (by omega)]; exact hc
  intro f
  induction f with
  | zero => intro i h1 h2; omega
  | succ f ih =>
    intro i h1 h2
    have ei : (nI i).toInt = i := nI_toInt (by omega)
    rw [f_X1_weighSet_8]
    dsimp only
    rw [e3]
    by_cases c : i = n
    · have e4 : (setB M b).1 40 4 = b.2.1 := by rw [setB_at, if_neg (by omega), if_neg (by omega), if_pos ⟨rfl, rfl⟩]
      have e6 : (setB M b).1 40 6 = b.2.2 := by rw [setB_at, if_pos ⟨rfl, rfl⟩]
      have e86 : ∀ x y : Int32, f_X1_weighSet_86 N K bits x y (setB M b) = some ((), setB M (bits, y, x)) := fun x y => by
        have : f_X1_weighSet_86 N K bits x y (setB M b) = some ((), setB (setB M b) (bits, y, x)) := rfl
        rw [this, setB_B]
      rw [if_pos (by rw [oLeI, ei, en]; omega), e4, e6, e86, c]
      unfold btS
      generalize wgS (M.1 41) (M.1 43) bits n = w
      by_cases q1 : most < w.1
      · rw [if_pos q1, if_pos q1]
      · rw [if_neg q1, if_neg q1]
        by_cases q2 : b.2.1 < w.2
        · rw [if_pos q2, if_pos q2]
        · rw [if_neg q2, if_neg q2]
          by_cases q3 : w.2 = b.2.1
          · rw [if_pos q3, if_pos q3]
            by_cases q4 : b.2.2 ≤ w.1
            · rw [if_pos q4, if_pos q4]
            · rw [if_neg q4, if_neg q4]
          · rw [if_neg q3, if_neg q3]
    · have hx : ∀ A : Option (Unit × oM), oIx (nI i) 9 A = A := fun A => oIx_p (by omega) (by omega)
      unfold f_X1_weighSet_49
      rw [if_neg (by rw [oLeI, ei, en]; omega), hx, hx, nI_n (by omega), nI_1, setB_ro _ _ (show (41 : Nat) ≠ 40 by decide), setB_ro _ _ (show (43 : Nat) ≠ 40 by decide), ← ih (i + 1) (by omega) (by omega)]
      by_cases q : (bits >>> (nI i &&& 31)) &&& 1 = 1
      · rw [if_pos q, wgS, if_pos q]
      · rw [if_neg q, wgS, if_neg q]
theorem sh9 : ∀ n : Nat, n ≤ 9 → (((1 : Int32) <<< ((nI n) &&& 31)).toInt = 2 ^ n) := by decide +kernel
theorem two9 : ∀ n : Nat, n ≤ 9 → 2 ^ n ≤ 512 ∧ 1 ≤ 2 ^ n := by decide
theorem pk91 {N : Nat} (hN : 1000 ≤ N) {K : oK} {n : Nat} (hn : n ≤ 9) (most : Int32) {M : oM} (hc : M.1 40 3 = nI n) : ∀ (f k : Nat), k < 2 ^ n → 2 ^ n < k + 1 + f → f_X1_pack_91 N K f most (nI (k + 1)) (setB M (bsS most (M.1 41) (M.1 43) n k)) = some ((), setB M (bsS most (M.1 41) (M.1 43) n (2 ^ n - 1))) := by
  have h9 := two9 n hn
  have hs := sh9 n hn
  have hcast : ((2 ^ n : Nat) : Int) = 2 ^ n := Int.natCast_pow 2 n
  intro f
  induction f with
  | zero => intro k h1 h2; omega
  | succ f ih =>
    intro k h1 h2
    have ek : (nI (k + 1)).toInt = ((k + 1 : Nat) : Int) := nI_toInt (by omega)
    have e3 : (setB M (bsS most (M.1 41) (M.1 43) n k)).1 40 3 = nI n := by rw [setB_at, if_neg (by omega), if_neg (by omega), if_neg (by omega)]; exact hc
    rw [f_X1_pack_91]
    dsimp only
    rw [e3]
    by_cases c : k + 1 = 2 ^ n
    · rw [if_pos (by rw [oLeI, hs, ek]; omega), show 2 ^ n - 1 = k by omega]
    · have hw := wg1 (N := N) (K := K) hn (nI (k + 1)) most (M := M) (b := bsS most (M.1 41) (M.1 43) n k) hc N 0 (by omega) (by omega)
      rw [if_neg (by rw [oLeI, hs, ek]; omega)]
      unfold f_X1_weighSet
      have hw' : f_X1_weighSet_8 N K N (nI (k + 1)) most 0 0 0 (setB M (bsS most (M.1 41) (M.1 43) n k)) = _ := hw
      rw [hw', oB2_p, nI_1]
      exact ih (k + 1) (by omega) (by omega)
/-- what a thing is hoped to be worth -/
def hopV (ch w : Int32) : Int32 := (ch / 10201) * (w / 10000) + (ch / 101 - ch / 101 / 101 * 101) * (w / 100 - w / 100 / 100 * 100) + (ch - ch / 101 * 101) * (w - w / 100 * 100)
theorem pk2 {N : Nat} {K : oK} {n : Nat} (hn : n ≤ 9) (most ch : Int32) {M : oM} (hc : M.1 40 3 = nI n) : ∀ (f i : Nat) (M1 : oM), i ≤ n → n < i + f → oFr [43] [] M M1 → (∀ j, j < i → M1.1 43 j = hopV ch (M.1 42 j)) → ∃ M2, f_X1_pack_2 N K f most ch (nI i) M1 = f_X1_pack_91 N K N most 1 (setB M2 (0, 0, 0)) ∧ oFr [43] [] M M2 ∧ ∀ j, j < n → M2.1 43 j = hopV ch (M.1 42 j) := by
  have en : (nI n).toInt = n := nI_toInt (by omega)
  intro f
  induction f with
  | zero => intro i M1 h1 h2; omega
  | succ f ih =>
    intro i M1 h1 h2 F hh
    have ei : (nI i).toInt = i := nI_toInt (by omega)
    have e3 : M1.1 40 3 = nI n := by rw [F.1 40 (by decide) (by decide)]; exact hc
    rw [f_X1_pack_2]
    dsimp only
    rw [e3]
    by_cases c : i = n
    · rw [if_pos (by rw [oLeI, ei, en]; omega)]
      rw [c] at hh
      exact ⟨M1, rfl, F, hh⟩
    · have hx : ∀ A : Option (Unit × oM), oIx (nI i) 9 A = A := fun A => oIx_p (by omega) (by omega)
      rw [if_neg (by rw [oLeI, ei, en]; omega), hx, hx, hx, hx, nI_n (by omega), nI_1, F.1 42 (by decide) (by decide)]
      refine ih (i + 1) (oUp M1 43 i (hopV ch (M.1 42 i))) (by omega) (by omega) (.up (by decide) F) (fun j hj => ?_)
      rw [oUp_at]
      by_cases q : j = i
      · rw [if_pos ⟨rfl, q⟩, q]
      · rw [if_neg (fun z => q z.2)]
        exact hh j (by omega)
theorem wgS_cong {wt wt' hp hp' : Nat → Int32} {bits : Int32} : ∀ n, (∀ j, j < n → wt j = wt' j ∧ hp j = hp' j) → wgS wt hp bits n = wgS wt' hp' bits n := by
  intro n
  induction n with
  | zero => intro _; rfl
  | succ n ih =>
    intro h
    have e := h n (by omega)
    rw [wgS, wgS, ih (fun j hj => h j (by omega)), e.1, e.2]
theorem bsS_cong {most : Int32} {wt wt' hp hp' : Nat → Int32} {n : Nat} (h : ∀ j, j < n → wt j = wt' j ∧ hp j = hp' j) : ∀ k, bsS most wt hp n k = bsS most wt' hp' n k := by
  intro k
  induction k with
  | zero => rfl
  | succ k ih => rw [bsS, bsS, ih, wgS_cong n h]
theorem wby {N : Nat} {K : oK} {M : oM} (ch : Int32) {i : Nat} (hi : i < 9) : f_X12_worthBy N K (nI i) ch M = some (hopV ch (M.1 95 i), M) := by
  have ei : (nI i).toInt = i := nI_toInt (by omega)
  have hx : ∀ A : Option (Int32 × oM), oIx (nI i) 9 A = A := fun A => oIx_p (by omega) (by omega)
  unfold f_X12_worthBy hopV
  rw [hx, hx, hx, nI_n (by omega), Int32.mul_comm (M.1 95 i / 10000), Int32.mul_comm (M.1 95 i / 100 - M.1 95 i / 100 / 100 * 100), Int32.mul_comm (M.1 95 i - M.1 95 i / 100 * 100)]
theorem ct72 {N : Nat} {K : oK} {n : Nat} (hn : n ≤ 9) (most ch p3 : Int32) (b : Int32 × Int32 × Int32) (bits : Int32) (r : Int32 → Int32 → Int32 → Int32 → Int32 → Int32 → Int32 → oM → Option (Int32 × oM)) {M : oM} (hc : M.1 59 55 = nI n) : ∀ (f i : Nat), i ≤ n → n < i + f → f_X12_cart_72 N K r f most ch p3 b.1 b.2.1 b.2.2 bits (wgS (M.1 94) (fun j => hopV ch (M.1 95 j)) bits i).1 (wgS (M.1 94) (fun j => hopV ch (M.1 95 j)) bits i).2 (nI i) M = r most ch p3 (btS most b bits (wgS (M.1 94) (fun j => hopV ch (M.1 95 j)) bits n)).1 (btS most b bits (wgS (M.1 94) (fun j => hopV ch (M.1 95 j)) bits n)).2.1 (btS most b bits (wgS (M.1 94) (fun j => hopV ch (M.1 95 j)) bits n)).2.2 (bits + 1) M := by
  have en : (nI n).toInt = n := nI_toInt (by omega)
  intro f
  induction f with
  | zero => intro i h1 h2; omega
  | succ f ih =>
    intro i h1 h2
    have ei : (nI i).toInt = i := nI_toInt (by omega)
    rw [f_X12_cart_72]
    dsimp only
    unfold f_X12_cart_168 f_X12_cart_180 f_X12_cart_105 f_X12_cart_132
    rw [hc]
    by_cases c : i = n
    · rw [if_pos (by rw [oLeI, ei, en]; omega), c]
      unfold btS
      generalize wgS (M.1 94) (fun j => hopV ch (M.1 95 j)) bits n = w
      by_cases q1 : most < w.1
      · rw [if_pos q1, if_pos q1]
      · rw [if_neg q1, if_neg q1]
        by_cases q2 : b.2.1 < w.2
        · rw [if_pos q2, if_pos q2]
        · rw [if_neg q2, if_neg q2]
          by_cases q3 : w.2 = b.2.1
          · rw [if_pos q3, if_pos q3]
            by_cases q4 : b.2.2 ≤ w.1
            · rw [if_pos q4, if_pos q4]
            · rw [if_neg q4, if_neg q4]
          · rw [if_neg q3, if_neg q3]
    · have hx : ∀ A : Option (Int32 × oM), oIx (nI i) 9 A = A := fun A => oIx_p (by omega) (by omega)
      rw [if_neg (by rw [oLeI, ei, en]; omega), hx, nI_n (by omega), nI_1, wby ch (by omega), oB2_p, ← ih (i + 1) (by omega) (by omega)]
      by_cases q : (bits >>> (nI i &&& 31)) &&& 1 = 1
      · rw [if_pos q, if_pos q, wgS, if_pos q]
      · rw [if_neg q, if_neg q, wgS, if_neg q, Int32.add_zero, Int32.add_zero]
theorem ct52 {N : Nat} (hN : 1000 ≤ N) {K : oK} {n : Nat} (hn : n ≤ 9) (most ch p3 : Int32) {M : oM} (hc : M.1 59 55 = nI n) : ∀ (f k : Nat), k < 2 ^ n → 2 ^ n < k + 1 + f → f_X12_cart_52 N K f most ch p3 (bsS most (M.1 94) (fun j => hopV ch (M.1 95 j)) n k).1 (bsS most (M.1 94) (fun j => hopV ch (M.1 95 j)) n k).2.1 (bsS most (M.1 94) (fun j => hopV ch (M.1 95 j)) n k).2.2 (nI (k + 1)) M = if p3 = 0 then some ((bsS most (M.1 94) (fun j => hopV ch (M.1 95 j)) n (2 ^ n - 1)).2.1, M) else some ((bsS most (M.1 94) (fun j => hopV ch (M.1 95 j)) n (2 ^ n - 1)).1, M) := by
  have h9 := two9 n hn
  have hs := sh9 n hn
  have hcast : ((2 ^ n : Nat) : Int) = 2 ^ n := Int.natCast_pow 2 n
  intro f
  induction f with
  | zero => intro k h1 h2; omega
  | succ f ih =>
    intro k h1 h2
    have ek : (nI (k + 1)).toInt = ((k + 1 : Nat) : Int) := nI_toInt (by omega)
    rw [f_X12_cart_52]
    dsimp only
    rw [hc]
    by_cases c : k + 1 = 2 ^ n
    · rw [if_pos (by rw [oLeI, hs, ek]; omega), show 2 ^ n - 1 = k by omega]
    · have hw := ct72 (N := N) (K := K) hn most ch p3 (bsS most (M.1 94) (fun j => hopV ch (M.1 95 j)) n k) (nI (k + 1)) (f_X12_cart_52 N K f) hc N 0 (by omega) (by omega)
      rw [if_neg (by rw [oLeI, hs, ek]; omega)]
      have hw' : f_X12_cart_72 N K (f_X12_cart_52 N K f) N most ch p3 (bsS most (M.1 94) (fun j => hopV ch (M.1 95 j)) n k).1 (bsS most (M.1 94) (fun j => hopV ch (M.1 95 j)) n k).2.1 (bsS most (M.1 94) (fun j => hopV ch (M.1 95 j)) n k).2.2 (nI (k + 1)) 0 0 0 M = _ := hw
      rw [hw', nI_1]
      exact ih (k + 1) (by omega) (by omega)
theorem ag_cart {K : oK} {M : oM} (h : oInv K M) {N : Nat} (hN : 3000 ≤ N) (most ch p3 : Int32) : oAg K M (f_X11_cart N K most ch p3 M) (f_X12_cart N K most ch p3) := by
  obtain ⟨⟨e1, b0, b1⟩, hv⟩ := id h.2.2.2.2.2.2.1
  have hc : M.1 40 3 = nI (M.1 40 3).toInt.toNat := oNI (by omega)
  generalize hnn : (M.1 40 3).toInt.toNat = n at hc
  have hn9 : n ≤ 9 := by omega
  unfold f_X11_cart
  by_cases m0 : most.toInt < 0
  · rw [if_pos (by rw [oLtI, tl_0]; exact m0)]
    refine oAg.mk M rfl ?_ h
    unfold f_X12_cart
    rw [if_pos (by rw [oLtI, tl_0]; exact m0)]
  · have m0' : ¬ most < 0 := by rw [oLtI, tl_0]; exact m0
    rw [if_neg m0', w11, oB2_p, tl_0, tl_1030300]
    by_cases cc : 0 ≤ ch.toInt ∧ ch.toInt ≤ 1030300
    · have ed : (ch / 10201).toInt = ch.toInt / 10201 := by rw [oDiv cc.1 (by rw [tl_10201]; omega), tl_10201]
      have mc : ∀ M1, f_X12_cart N K most ch p3 M1 = cond (decide (0 ≤ p3.toInt ∧ p3.toInt ≤ 1)) (if M1.1 59 55 = 0 then some (-5, M1) else f_X12_cart_52 N K N most ch p3 0 0 0 1 M1) (some (-1, M1)) := by
        intro M1
        unfold f_X12_cart
        rw [if_neg m0', if_neg (by rw [oLtI, tl_0]; omega), if_neg (by rw [oLtI, tl_100, ed]; omega), w12, oB2_p, oLg]
        rfl
      rw [decide_eq_true cc, cond_true, w11, oB2_p, tl_0, tl_1]
      by_cases cp : 0 ≤ p3.toInt ∧ p3.toInt ≤ 1
      · rw [decide_eq_true cp, cond_true]
        by_cases z : M.1 40 3 = 0
        · rw [if_pos z]
          refine oAg.mk M rfl ?_ h
          rw [mc, decide_eq_true cp, cond_true, if_pos (by rw [e1]; exact z)]
        · rw [if_neg z]
          obtain ⟨M1, a1, a2, a3⟩ := pk2 (N := N) (K := K) hn9 most ch hc N 0 M (by omega) (by omega) .rf (fun j hj => by omega)
          have hc1 : M1.1 40 3 = nI n := by rw [a2.1 40 (by decide) (by decide)]; exact hc
          have h9 := two9 n hn9
          have a4 := pk91 (N := N) (by omega) (K := K) hn9 most hc1 N 0 (by omega) (by omega)
          have a5 : f_X1_pack N K most ch M = some ((), setB M1 (bsS most (M1.1 41) (M1.1 43) n (2 ^ n - 1))) := by
            unfold f_X1_pack
            have : f_X1_pack_2 N K N most ch 0 M = f_X1_pack_91 N K N most 1 (setB M1 (0, 0, 0)) := a1
            rw [this]
            exact a4
          have eb : bsS most (M1.1 41) (M1.1 43) n (2 ^ n - 1) = bsS most (M.1 94) (fun j => hopV ch (M.1 95 j)) n (2 ^ n - 1) := by
            refine bsS_cong (fun j hj => ?_) _
            have w := hv j (by omega)
            rw [a2.1 41 (by decide) (by decide), a3 j hj, w.1, w.2.1]
            exact ⟨rfl, rfl⟩
          rw [eb] at a5
          rw [a5, oB2_p]
          generalize hB : bsS most (M.1 94) (fun j => hopV ch (M.1 95 j)) n (2 ^ n - 1) = B at *
          have o59 : (setB M1 B).1 59 = M.1 59 := by rw [setB_ro _ _ (by decide)]; funext j; exact a2.2.1 j (by simp)
          have o94 : (setB M1 B).1 94 = M.1 94 := by rw [setB_ro _ _ (by decide)]; exact a2.1 94 (by decide) (by decide)
          have o95 : (setB M1 B).1 95 = M.1 95 := by rw [setB_ro _ _ (by decide)]; exact a2.1 95 (by decide) (by decide)
          have hcm : (setB M1 B).1 59 55 = nI n := by rw [o59, e1]; exact hc
          have d1 := ct52 (N := N) (by omega) (K := K) hn9 most ch p3 hcm N 0 (by omega) (by omega)
          rw [o94, o95, hB] at d1
          have mod : f_X12_cart N K most ch p3 (setB M1 B) = if p3 = 0 then some (B.2.1, setB M1 B) else some (B.1, setB M1 B) := by
            rw [mc, decide_eq_true cp, cond_true, if_neg (by rw [o59, e1]; exact z)]
            exact d1
          have inv : oInv K (setB M1 B) := by
            have F : oFr [40, 41, 42, 43, 94, 95] [55] M (setB M1 B) := .up (by decide) (.up (by decide) (.up (by decide) (a2.weak (by decide) (by decide))))
            have o3 : (setB M1 B).1 40 3 = M.1 40 3 := by rw [setB_at, if_neg (by omega), if_neg (by omega), if_neg (by omega), hc1, hc]
            have o41 : (setB M1 B).1 41 = M.1 41 := by rw [setB_ro _ _ (by decide)]; exact a2.1 41 (by decide) (by decide)
            have o42 : (setB M1 B).1 42 = M.1 42 := by rw [setB_ro _ _ (by decide)]; exact a2.1 42 (by decide) (by decide)
            refine h.thing F ?_
            unfold iThing
            rw [o59, o3, o41, o42, o94, o95]
            exact ⟨⟨e1, b0, b1⟩, hv⟩
          by_cases q : p3 = 0
          · rw [if_pos q]
            rw [if_pos q] at mod
            refine oAg.mk (setB M1 B) rfl ?_ inv
            rw [mod, setB_at, if_neg (by omega), if_neg (by omega), if_pos ⟨rfl, rfl⟩]
          · rw [if_neg q]
            rw [if_neg q] at mod
            refine oAg.mk (setB M1 B) rfl ?_ inv
            rw [mod, setB_at, if_neg (by omega), if_pos ⟨rfl, rfl⟩]
      · rw [decide_eq_false cp, cond_false]
        refine oAg.mk M rfl ?_ h
        rw [mc, decide_eq_false cp, cond_false]
    · rw [decide_eq_false cc, cond_false]
      refine oAg.mk M rfl ?_ h
      unfold f_X12_cart
      by_cases c0 : ch.toInt < 0
      · rw [if_neg m0', if_pos (by rw [oLtI, tl_0]; exact c0)]
      · have ed : (ch / 10201).toInt = ch.toInt / 10201 := by rw [oDiv (by omega) (by rw [tl_10201]; omega), tl_10201]
        rw [if_neg m0', if_neg (by rw [oLtI, tl_0]; exact c0), if_pos (by rw [oLtI, tl_100, ed]; omega)]
