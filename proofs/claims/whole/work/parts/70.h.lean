/-! bores, engines; what tables say, as whole numbers -/
theorem isBo11 (N : Nat) (K : oK) (a : Int32) (M : oM) : f_X11_isBore N K a M = some (decide (0 ≤ a.toInt ∧ a.toInt ≤ 2), M) := by
  unfold f_X11_isBore
  rw [w11, oB2_p, tl_0, tl_2, cond_tf]
theorem isBo12 (N : Nat) (K : oK) (a : Int32) (M : oM) : f_X12_isBore N K a M = some (decide (0 ≤ a.toInt ∧ a.toInt ≤ 2), M) := by
  unfold f_X12_isBore
  rw [w12, oB2_p, oLg, l64_0, show (2 : Int64).toInt = 2 from rfl, cond_tf]
theorem isFl11 (N : Nat) (K : oK) (a : Int32) (M : oM) : f_X11_isFlow N K a M = some (decide (0 ≤ a.toInt ∧ a.toInt ≤ 600), M) := by
  unfold f_X11_isFlow
  rw [w11, oB2_p, tl_0, tl_600, cond_tf]
theorem isFl12 (N : Nat) (K : oK) (a : Int32) (M : oM) : f_X12_isFlow N K a M = some (decide (0 ≤ a.toInt ∧ a.toInt ≤ 600), M) := by
  unfold f_X12_isFlow
  rw [w12, oB2_p, oLg, l64_0, show (600 : Int64).toInt = 600 from rfl, cond_tf]
theorem isNe11 (N : Nat) (K : oK) (a : Int32) (M : oM) : f_X11_isNeed N K a M = some (decide (0 ≤ a.toInt ∧ a.toInt ≤ 99999), M) := by
  unfold f_X11_isNeed
  rw [w11, oB2_p, tl_0, tl_99999, cond_tf]
theorem isNe12 (N : Nat) (K : oK) (a : Int32) (M : oM) : f_X12_isNeed N K a M = some (decide (0 ≤ a.toInt ∧ a.toInt ≤ 99999), M) := by
  unfold f_X12_isNeed
  rw [w12, oB2_p, oLg, l64_0, show (99999 : Int64).toInt = 99999 from rfl, cond_tf]
theorem isKi11 (N : Nat) (K : oK) (a : Int32) (M : oM) : f_X11_isKind N K a M = some (decide (0 ≤ a.toInt ∧ a.toInt ≤ 5), M) := by
  unfold f_X11_isKind
  rw [w11, oB2_p, tl_0, tl_5, cond_tf]
theorem isSh12 (N : Nat) (K : oK) (a : Int32) (M : oM) : f_X12_isShelf N K a M = some (decide (0 ≤ a.toInt ∧ a.toInt ≤ 5), M) := by
  unfold f_X12_isShelf
  rw [w12, oB2_p, oLg, l64_0, show (5 : Int64).toInt = 5 from rfl, cond_tf]
theorem mulB {a b A B : Int} (a0 : 0 ≤ a) (a1 : a ≤ A) (b0 : 0 ≤ b) (b1 : b ≤ B) : 0 ≤ a * b ∧ a * b ≤ A * B := ⟨Int.mul_nonneg a0 b0, Int.mul_le_mul a1 b1 b0 (Int.le_trans a0 a1)⟩
theorem oDiv {x y : Int32} (h0 : 0 ≤ x.toInt) (h1 : 0 < y.toInt) : (x / y).toInt = x.toInt / y.toInt := by
  have hx := oRng x
  rw [Int32.toInt_div, Int.tdiv_eq_ediv_of_nonneg h0]
  have h2 : 0 ≤ x.toInt / y.toInt := Int.ediv_nonneg h0 (by omega)
  have h3 : x.toInt / y.toInt ≤ x.toInt := Int.ediv_le_self _ h0
  exact Int.bmod_eq_of_le (by omega) (by omega)
theorem oRem {x y : Int32} (h0 : 0 ≤ x.toInt) (h1 : 0 < y.toInt) : (x - x / y * y).toInt = x.toInt % y.toInt := by
  have hx := oRng x
  have hd := oDiv h0 h1
  have h2 : 0 ≤ x.toInt / y.toInt := Int.ediv_nonneg h0 (by omega)
  have e := Int.ediv_mul_add_emod x.toInt y.toInt
  have m0 := Int.emod_nonneg x.toInt (show y.toInt ≠ 0 by omega)
  have m1 : 0 ≤ x.toInt / y.toInt * y.toInt := Int.mul_nonneg h2 (by omega)
  have hm : (x / y * y).toInt = x.toInt / y.toInt * y.toInt := by
    rw [oMul (by rw [hd]; omega) (by rw [hd]; omega), hd]
  rw [oSub (by rw [hm]; omega) (by rw [hm]; omega), hm]
  omega
/-- what a table of n numbers from 13 t on says at a flow -/
def tabV (g : Nat → Int32) (n : Int) (t : Nat) (f : Int) : Int :=
  if f / 50 < n - 1 then ((g (13 * t + (f / 50).toNat)).toInt * (50 - f % 50) + (g (13 * t + (f / 50).toNat + 1)).toInt * (f % 50)) / 50 else (g (13 * t + (n - 1).toNat)).toInt
theorem mixV {a b k q r : Int32} (a0 : 0 ≤ a.toInt) (a1 : a.toInt ≤ 99999) (b0 : 0 ≤ b.toInt) (b1 : b.toInt ≤ 99999) (hr : 0 ≤ r.toInt) (hr1 : r.toInt < 50) : ((a * (50 - r) + b * r) / 50 : Int32).toInt = (a.toInt * (50 - r.toInt) + b.toInt * r.toInt) / 50 := by
  have e1 : (50 - r).toInt = 50 - r.toInt := by rw [oSub (by rw [tl_50]; omega) (by rw [tl_50]; omega), tl_50]
  have m1 := mulB a0 a1 (show 0 ≤ 50 - r.toInt by omega) (show 50 - r.toInt ≤ 50 by omega)
  have m2 := mulB b0 b1 hr (show r.toInt ≤ 50 by omega)
  have e2 : (a * (50 - r)).toInt = a.toInt * (50 - r.toInt) := by rw [oMul (by rw [e1]; omega) (by rw [e1]; omega), e1]
  have e3 : (b * r).toInt = b.toInt * r.toInt := oMul (by omega) (by omega)
  have e4 : (a * (50 - r) + b * r).toInt = a.toInt * (50 - r.toInt) + b.toInt * r.toInt := by rw [oAdd (by rw [e2, e3]; omega) (by rw [e2, e3]; omega), e2, e3]
  rw [oDiv (by rw [e4]; omega) (by rw [tl_50]; omega), e4, tl_50]
/-- an Int32 by its number -/
def iI (n : Int) : Int32 := Int32.ofInt n
theorem iI_of {x : Int32} {n : Int} (h : x.toInt = n) : x = iI n := by
  unfold iI
  rw [← h]
  exact (Int32.ofInt_toInt x).symm
theorem betw3 {N : Nat} {K : oK} {M : oM} {t f : Int32} (t0 : 0 ≤ t.toInt) (t1 : t.toInt < 9) (f0 : 0 ≤ f.toInt) (f1 : f.toInt ≤ 600) (n0 : 1 ≤ (M.1 16 t.toNatClampNeg).toInt) (n1 : (M.1 16 t.toNatClampNeg).toInt ≤ 13)
    (hv : ∀ j : Nat, (j : Int) < (M.1 16 t.toNatClampNeg).toInt → 0 ≤ (M.1 15 (13 * t.toNatClampNeg + j)).toInt ∧ (M.1 15 (13 * t.toNatClampNeg + j)).toInt ≤ 99999) :
    f_X3_between N K t f M = some (iI (tabV (M.1 15) (M.1 16 t.toNatClampNeg).toInt t.toNatClampNeg f.toInt), M) := by
  have nt : t.toNatClampNeg = t.toInt.toNat := rfl
  have ed : (f / 50).toInt = f.toInt / 50 := by rw [oDiv f0 (by rw [tl_50]; omega), tl_50]
  have er : (f - f / 50 * 50).toInt = f.toInt % 50 := by rw [oRem f0 (by rw [tl_50]; omega), tl_50]
  have en : (M.1 16 t.toNatClampNeg - 1).toInt = (M.1 16 t.toNatClampNeg).toInt - 1 := sub1 (by omega)
  have em : (t * 13).toInt = t.toInt * 13 := by rw [oMul (by rw [tl_13]; omega) (by rw [tl_13]; omega), tl_13]
  unfold f_X3_between tabV
  rw [oIx_p t0 (by omega)]
  generalize hn : (M.1 16 t.toNatClampNeg).toInt = n at *
  by_cases c : f.toInt / 50 < n - 1
  · rw [if_pos (by rw [oLtI, ed, en]; exact c), if_pos c]
    have e1 : (t * 13 + f / 50).toInt = t.toInt * 13 + f.toInt / 50 := by rw [oAdd (by rw [em, ed]; omega) (by rw [em, ed]; omega), em, ed]
    have e2 : (t * 13 + f / 50 + 1).toInt = t.toInt * 13 + f.toInt / 50 + 1 := by rw [add1 (by omega), e1]
    rw [oIx_p (by omega) (by omega), oIx_p (by omega) (by omega)]
    have i1 : (t * 13 + f / 50).toNatClampNeg = 13 * t.toNatClampNeg + (f.toInt / 50).toNat := by
      have : (t * 13 + f / 50).toNatClampNeg = (t * 13 + f / 50).toInt.toNat := rfl
      omega
    have i2 : (t * 13 + f / 50 + 1).toNatClampNeg = 13 * t.toNatClampNeg + (f.toInt / 50).toNat + 1 := by
      have : (t * 13 + f / 50 + 1).toNatClampNeg = (t * 13 + f / 50 + 1).toInt.toNat := rfl
      omega
    rw [i1, i2]
    have v1 := hv (f.toInt / 50).toNat (by omega)
    have v2 := hv ((f.toInt / 50).toNat + 1) (by omega)
    rw [← Nat.add_assoc] at v2
    rw [← er, iI_of (mixV (k := 0) (q := 0) v1.1 v1.2 v2.1 v2.2 (by rw [er]; omega) (by rw [er]; omega))]
  · rw [if_neg (by rw [oLtI, ed, en]; exact c), if_neg c]
    have e1 : (t * 13 + (M.1 16 t.toNatClampNeg - 1)).toInt = t.toInt * 13 + (n - 1) := by rw [oAdd (by rw [em, en]; omega) (by rw [em, en]; omega), em, en]
    rw [oIx_p (by omega) (by omega)]
    have i1 : (t * 13 + (M.1 16 t.toNatClampNeg - 1)).toNatClampNeg = 13 * t.toNatClampNeg + (n - 1).toNat := by
      have : (t * 13 + (M.1 16 t.toNatClampNeg - 1)).toNatClampNeg = (t * 13 + (M.1 16 t.toNatClampNeg - 1)).toInt.toNat := rfl
      omega
    rw [i1, ← iI_of rfl]
theorem tab12 {N : Nat} {K : oK} {M : oM} {t f : Int32} (t0 : 0 ≤ t.toInt) (t1 : t.toInt < 9) (f0 : 0 ≤ f.toInt) (f1 : f.toInt ≤ 600) (n0 : 1 ≤ (M.1 70 t.toNatClampNeg).toInt) (n1 : (M.1 70 t.toNatClampNeg).toInt ≤ 13)
    (hv : ∀ j : Nat, (j : Int) < (M.1 70 t.toNatClampNeg).toInt → 0 ≤ (M.1 71 (13 * t.toNatClampNeg + j)).toInt ∧ (M.1 71 (13 * t.toNatClampNeg + j)).toInt ≤ 99999) :
    f_X12_tableAt N K t f M = some (iI (tabV (M.1 71) (M.1 70 t.toNatClampNeg).toInt t.toNatClampNeg f.toInt), M) := by
  have nt : t.toNatClampNeg = t.toInt.toNat := rfl
  have ed : (f / 50).toInt = f.toInt / 50 := by rw [oDiv f0 (by rw [tl_50]; omega), tl_50]
  have er : (f - f / 50 * 50).toInt = f.toInt % 50 := by rw [oRem f0 (by rw [tl_50]; omega), tl_50]
  have en : (M.1 70 t.toNatClampNeg - 1).toInt = (M.1 70 t.toNatClampNeg).toInt - 1 := sub1 (by omega)
  have em : (13 * t).toInt = 13 * t.toInt := by rw [oMul (by rw [tl_13]; omega) (by rw [tl_13]; omega), tl_13]
  unfold f_X12_tableAt tabV
  rw [oIx_p t0 (by omega), oIx_p t0 (by omega)]
  generalize hn : (M.1 70 t.toNatClampNeg).toInt = n at *
  by_cases c : f.toInt / 50 < n - 1
  · rw [if_pos (by rw [oLtI, ed, en]; exact c), if_pos c]
    have e1 : (13 * t + f / 50).toInt = 13 * t.toInt + f.toInt / 50 := by rw [oAdd (by rw [em, ed]; omega) (by rw [em, ed]; omega), em, ed]
    have e2 : (13 * t + f / 50 + 1).toInt = 13 * t.toInt + f.toInt / 50 + 1 := by rw [add1 (by omega), e1]
    rw [oIx_p (by omega) (by omega), oIx_p (by omega) (by omega)]
    have i1 : (13 * t + f / 50).toNatClampNeg = 13 * t.toNatClampNeg + (f.toInt / 50).toNat := by
      have : (13 * t + f / 50).toNatClampNeg = (13 * t + f / 50).toInt.toNat := rfl
      omega
    have i2 : (13 * t + f / 50 + 1).toNatClampNeg = 13 * t.toNatClampNeg + (f.toInt / 50).toNat + 1 := by
      have : (13 * t + f / 50 + 1).toNatClampNeg = (13 * t + f / 50 + 1).toInt.toNat := rfl
      omega
    rw [i1, i2]
    have v1 := hv (f.toInt / 50).toNat (by omega)
    have v2 := hv ((f.toInt / 50).toNat + 1) (by omega)
    rw [← Nat.add_assoc] at v2
    rw [← er, iI_of (mixV (k := 0) (q := 0) v1.1 v1.2 v2.1 v2.2 (by rw [er]; omega) (by rw [er]; omega))]
  · rw [if_neg (by rw [oLtI, ed, en]; exact c), if_neg c]
    have e0 : (13 * t + M.1 70 t.toNatClampNeg).toInt = 13 * t.toInt + n := by rw [oAdd (by rw [em, hn]; omega) (by rw [em, hn]; omega), em, hn]
    have e1 : (13 * t + M.1 70 t.toNatClampNeg - 1).toInt = 13 * t.toInt + n - 1 := by rw [sub1 (by omega), e0]
    rw [oIx_p (by omega) (by omega)]
    have i1 : (13 * t + M.1 70 t.toNatClampNeg - 1).toNatClampNeg = 13 * t.toNatClampNeg + (n - 1).toNat := by
      have : (13 * t + M.1 70 t.toNatClampNeg - 1).toNatClampNeg = (13 * t + M.1 70 t.toNatClampNeg - 1).toInt.toNat := rfl
      omega
    rw [i1, ← iI_of rfl]
