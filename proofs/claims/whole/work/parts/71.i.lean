/-! what a length loses and an engine lifts -/
def lossV (M : oM) (b : Nat) (f : Int) : Int := (if (M.1 16 b).toInt = 0 then f / 10 else tabV (M.1 15) (M.1 16 b).toInt b f) * (100 + (M.1 2 (6 + b)).toInt) / 100
def liftV (M : oM) (e : Nat) (f : Int) : Int := if (M.1 16 (3 + e)).toInt = 0 then (if 0 < 10000 - 10 * f then 10000 - 10 * f else 0) else tabV (M.1 15) (M.1 16 (3 + e)).toInt (3 + e) f
theorem tabV_b {g : Nat → Int32} {n : Int} {t : Nat} {f : Int} (f0 : 0 ≤ f) (n0 : 1 ≤ n) (hv : ∀ j : Nat, (j : Int) < n → 0 ≤ (g (13 * t + j)).toInt ∧ (g (13 * t + j)).toInt ≤ 99999) : 0 ≤ tabV g n t f ∧ tabV g n t f ≤ 99999 := by
  unfold tabV
  by_cases c : f / 50 < n - 1
  · rw [if_pos c]
    have v1 := hv (f / 50).toNat (by omega)
    have v2 := hv ((f / 50).toNat + 1) (by omega)
    rw [← Nat.add_assoc] at v2
    have m1 := mulB v1.1 v1.2 (show 0 ≤ 50 - f % 50 by omega) (Int.le_refl _)
    have m2 := mulB v2.1 v2.2 (show 0 ≤ f % 50 by omega) (Int.le_refl _)
    omega
  · rw [if_neg c]
    exact hv (n - 1).toNat (by omega)
theorem lossV_b {M : oM} (hg : iGear M) (hs : iSet M) {b : Nat} (hb : b < 3) {f : Int} (f0 : 0 ≤ f) (f1 : f ≤ 600) : 0 ≤ lossV M b f ∧ lossV M b f ≤ 200000 := by
  obtain ⟨-, -, -, h4, -, h6, -⟩ := hg
  have ha : 0 ≤ (M.1 2 (6 + b)).toInt ∧ (M.1 2 (6 + b)).toInt ≤ 99 := by
    have := hs.2.2.1 (6 + b) (by omega)
    unfold iVal at this
    rw [if_neg (by omega), if_pos (by omega)] at this
    exact this
  unfold lossV
  by_cases c : (M.1 16 b).toInt = 0
  · rw [if_pos c]
    have := mulB (a := f / 10) (A := 60) (b := 100 + (M.1 2 (6 + b)).toInt) (B := 199) (by omega) (by omega) (by omega) (by omega)
    omega
  · rw [if_neg c]
    have ht := h4 b (by omega)
    have := tabV_b (t := b) f0 (show 1 ≤ (M.1 16 b).toInt by omega) (h6 b (by omega))
    have := mulB this.1 this.2 (b := 100 + (M.1 2 (6 + b)).toInt) (B := 199) (by omega) (by omega)
    omega
theorem liftV_b {M : oM} (hg : iGear M) {e : Nat} (he : e < 6) {f : Int} (f0 : 0 ≤ f) (f1 : f ≤ 600) : 0 ≤ liftV M e f ∧ liftV M e f ≤ 99999 := by
  obtain ⟨-, -, -, h4, -, h6, -⟩ := hg
  unfold liftV
  by_cases c : (M.1 16 (3 + e)).toInt = 0
  · rw [if_pos c]
    split <;> omega
  · rw [if_neg c]
    have ht := h4 (3 + e) (by omega)
    exact tabV_b f0 (show 1 ≤ (M.1 16 (3 + e)).toInt by omega) (h6 (3 + e) (by omega))
theorem ageV {v a : Int32} (v0 : 0 ≤ v.toInt) (v1 : v.toInt ≤ 99999) (a0 : 0 ≤ a.toInt) (a1 : a.toInt ≤ 99) : (v * (100 + a) / 100 : Int32).toInt = v.toInt * (100 + a.toInt) / 100 := by
  have e1 : (100 + a).toInt = 100 + a.toInt := by rw [oAdd (by rw [tl_100]; omega) (by rw [tl_100]; omega), tl_100]
  have m1 := mulB v0 v1 (show 0 ≤ 100 + a.toInt by omega) (show 100 + a.toInt ≤ 199 by omega)
  have e2 : (v * (100 + a)).toInt = v.toInt * (100 + a.toInt) := by rw [oMul (by rw [e1]; omega) (by rw [e1]; omega), e1]
  rw [oDiv (by rw [e2]; omega) (by rw [tl_100]; omega), e2, tl_100]
theorem tabV_cong {g g' : Nat → Int32} {n : Int} {t : Nat} {f : Int} (f0 : 0 ≤ f) (n0 : 1 ≤ n) (h : ∀ j : Nat, (j : Int) < n → g (13 * t + j) = g' (13 * t + j)) : tabV g n t f = tabV g' n t f := by
  unfold tabV
  by_cases c : f / 50 < n - 1
  · have h2 := h ((f / 50).toNat + 1) (by omega)
    rw [← Nat.add_assoc] at h2
    rw [if_pos c, if_pos c, h _ (by omega), h2]
  · rw [if_neg c, if_neg c, h _ (by omega)]
theorem iI_t {n : Int} (h0 : -2147483648 ≤ n) (h1 : n < 2147483648) : (iI n).toInt = n := by
  unfold iI
  have hsz : ((Int32.size : Nat) : Int) = 4294967296 := rfl
  rw [Int32.toInt_ofInt]
  exact Int.bmod_eq_of_le (by omega) (by omega)
theorem ed10 {f : Int32} (f0 : 0 ≤ f.toInt) : (f / 10).toInt = f.toInt / 10 := by rw [oDiv f0 (by rw [tl_10]; omega), tl_10]
theorem lost3 {N : Nat} {K : oK} {M : oM} (hg : iGear M) (hs : iSet M) {b f : Int32} (b0 : 0 ≤ b.toInt) (b1 : b.toInt ≤ 2) (f0 : 0 ≤ f.toInt) (f1 : f.toInt ≤ 600) : f_X3_lost N K b f M = some (iI (lossV M b.toNatClampNeg f.toInt), M) := by
  obtain ⟨-, -, -, h4, -, h6, -⟩ := hg
  have nb : b.toNatClampNeg = b.toInt.toNat := rfl
  have e6 : (6 + b).toInt = 6 + b.toInt := by rw [oAdd (by rw [tl_6]; omega) (by rw [tl_6]; omega), tl_6]
  have n6 : (6 + b).toNatClampNeg = 6 + b.toNatClampNeg := by
    have : (6 + b).toNatClampNeg = (6 + b).toInt.toNat := rfl
    omega
  have ha : 0 ≤ (M.1 2 (6 + b.toNatClampNeg)).toInt ∧ (M.1 2 (6 + b.toNatClampNeg)).toInt ≤ 99 := by
    have := hs.2.2.1 (6 + b.toNatClampNeg) (by omega)
    unfold iVal at this
    rw [if_neg (by omega), if_pos (by omega)] at this
    exact this
  have fin : ∀ v : Int32, 0 ≤ v.toInt → v.toInt ≤ 99999 → f_X3_lost_22 N K b v M = some (iI (v.toInt * (100 + (M.1 2 (6 + b.toNatClampNeg)).toInt) / 100), M) := by
    intro v v0 v1
    unfold f_X3_lost_22
    rw [at8 (by omega) (by omega), oB2_p, n6, iI_of (ageV v0 v1 ha.1 ha.2)]
  unfold f_X3_lost lossV
  rw [oIx_p b0 (by omega)]
  by_cases c : (M.1 16 b.toNatClampNeg).toInt = 0
  · have := ed10 f0
    rw [if_pos (by rw [oEqI, tl_0]; exact c), if_pos c, fin _ (by omega) (by omega), this]
  · have ht := h4 b.toNatClampNeg (by omega)
    have hb := tabV_b (f := f.toInt) (t := b.toNatClampNeg) f0 (show 1 ≤ (M.1 16 b.toNatClampNeg).toInt by omega) (h6 b.toNatClampNeg (by omega))
    rw [if_neg (by rw [oEqI, tl_0]; exact c), if_neg c, betw3 b0 (by omega) f0 f1 (by omega) ht.2.2 (h6 _ (by omega)), oB2_p]
    have ev := iI_t (n := tabV (M.1 15) (M.1 16 b.toNatClampNeg).toInt b.toNatClampNeg f.toInt) (by omega) (by omega)
    rw [fin _ (by rw [ev]; exact hb.1) (by rw [ev]; exact hb.2), ev]
theorem lost12 {N : Nat} {K : oK} {M : oM} (hg : iGear M) (hs : iSet M) {b f : Int32} (b0 : 0 ≤ b.toInt) (b1 : b.toInt ≤ 2) (f0 : 0 ≤ f.toInt) (f1 : f.toInt ≤ 600) : f_X12_losesAt N K b f M = some (iI (lossV M b.toNatClampNeg f.toInt), M) := by
  obtain ⟨-, -, -, h4, h5, h6, -⟩ := hg
  have nb : b.toNatClampNeg = b.toInt.toNat := rfl
  have e6 : (18 + b).toInt = 18 + b.toInt := by rw [oAdd (by rw [tl_18]; omega) (by rw [tl_18]; omega), tl_18]
  have n6 : (18 + b).toNatClampNeg = 18 + b.toNatClampNeg := by
    have : (18 + b).toNatClampNeg = (18 + b).toInt.toNat := rfl
    omega
  have hs1 := hs.1 (6 + b.toNatClampNeg) (by omega)
  rw [show 6 + b.toNatClampNeg + 12 = 18 + b.toNatClampNeg by omega] at hs1
  have ha : 0 ≤ (M.1 2 (6 + b.toNatClampNeg)).toInt ∧ (M.1 2 (6 + b.toNatClampNeg)).toInt ≤ 99 := by
    have := hs.2.2.1 (6 + b.toNatClampNeg) (by omega)
    unfold iVal at this
    rw [if_neg (by omega), if_pos (by omega)] at this
    exact this
  have fin : ∀ v : Int32, 0 ≤ v.toInt → v.toInt ≤ 99999 → f_X12_losesAt_22 N K b v M = some (iI (v.toInt * (100 + (M.1 2 (6 + b.toNatClampNeg)).toInt) / 100), M) := by
    intro v v0 v1
    unfold f_X12_losesAt_22
    rw [oIx_p (by omega) (by omega), n6, hs1, iI_of (ageV v0 v1 ha.1 ha.2)]
  have ht := h4 b.toNatClampNeg (by omega)
  unfold f_X12_losesAt lossV
  rw [oIx_p b0 (by omega), ht.1]
  by_cases c : (M.1 16 b.toNatClampNeg).toInt = 0
  · have := ed10 f0
    rw [if_pos (by rw [oLeI, tl_0]; omega), if_pos c, fin _ (by omega) (by omega), this]
  · have hb := tabV_b (f := f.toInt) (t := b.toNatClampNeg) f0 (show 1 ≤ (M.1 16 b.toNatClampNeg).toInt by omega) (h6 b.toNatClampNeg (by omega))
    have hc := tabV_cong (g := M.1 71) (g' := M.1 15) (t := b.toNatClampNeg) (f := f.toInt) f0 (show 1 ≤ (M.1 16 b.toNatClampNeg).toInt by omega) (fun j hj => h5 _ (by omega))
    rw [if_neg (by rw [oLeI, tl_0]; omega), if_neg c, tab12 b0 (by omega) f0 f1 (by rw [ht.1]; omega) (by rw [ht.1]; exact ht.2.2) (fun j hj => by rw [ht.1] at hj; rw [h5 _ (by omega)]; exact h6 _ (by omega) j hj), oB2_p, ht.1, hc]
    have ev := iI_t (n := tabV (M.1 15) (M.1 16 b.toNatClampNeg).toInt b.toNatClampNeg f.toInt) (by omega) (by omega)
    rw [fin _ (by rw [ev]; exact hb.1) (by rw [ev]; exact hb.2), ev]
theorem lft {f : Int32} (f0 : 0 ≤ f.toInt) (f1 : f.toInt ≤ 600) : (10000 - 10 * f : Int32).toInt = 10000 - 10 * f.toInt := by
  have e1 : (10 * f).toInt = 10 * f.toInt := by rw [oMul (by rw [tl_10]; omega) (by rw [tl_10]; omega), tl_10]
  rw [oSub (by rw [e1, tl_10000]; omega) (by rw [e1, tl_10000]; omega), e1, tl_10000]
theorem lift3 {N : Nat} {K : oK} {M : oM} (hg : iGear M) {e f : Int32} (b0 : 0 ≤ e.toInt) (b1 : e.toInt ≤ 5) (f0 : 0 ≤ f.toInt) (f1 : f.toInt ≤ 600) : f_X3_lifted N K e f M = some (iI (liftV M e.toNatClampNeg f.toInt), M) := by
  obtain ⟨-, -, -, h4, -, h6, -⟩ := hg
  have nb : e.toNatClampNeg = e.toInt.toNat := rfl
  have e3 : (3 + e).toInt = 3 + e.toInt := by rw [oAdd (by rw [tl_3]; omega) (by rw [tl_3]; omega), tl_3]
  have n3 : (3 + e).toNatClampNeg = 3 + e.toNatClampNeg := by
    have : (3 + e).toNatClampNeg = (3 + e).toInt.toNat := rfl
    omega
  have ht := h4 (3 + e.toNatClampNeg) (by omega)
  unfold f_X3_lifted liftV
  rw [oIx_p (by omega) (by omega), n3]
  by_cases c : (M.1 16 (3 + e.toNatClampNeg)).toInt = 0
  · rw [if_pos (by rw [oEqI, tl_0]; exact c), if_pos c]
    have := lft f0 f1
    by_cases c2 : 0 < 10000 - 10 * f.toInt
    · rw [if_pos (by rw [oLtI, this, tl_0]; exact c2), if_pos c2, iI_of this]
    · rw [if_neg (by rw [oLtI, this, tl_0]; exact c2), if_neg c2, iI_of tl_0]
  · rw [if_neg (by rw [oEqI, tl_0]; exact c), if_neg c, betw3 (by omega) (by omega) f0 f1 (by rw [n3]; omega) (by rw [n3]; exact ht.2.2) (by rw [n3]; exact h6 _ (by omega)), oB2_p, n3]
theorem lift12 {N : Nat} {K : oK} {M : oM} (hg : iGear M) {e f : Int32} (b0 : 0 ≤ e.toInt) (b1 : e.toInt ≤ 5) (f0 : 0 ≤ f.toInt) (f1 : f.toInt ≤ 600) : f_X12_liftsAt N K e f M = some (iI (liftV M e.toNatClampNeg f.toInt), M) := by
  obtain ⟨-, -, -, h4, h5, h6, -⟩ := hg
  have nb : e.toNatClampNeg = e.toInt.toNat := rfl
  have e3 : (3 + e).toInt = 3 + e.toInt := by rw [oAdd (by rw [tl_3]; omega) (by rw [tl_3]; omega), tl_3]
  have n3 : (3 + e).toNatClampNeg = 3 + e.toNatClampNeg := by
    have : (3 + e).toNatClampNeg = (3 + e).toInt.toNat := rfl
    omega
  have ht := h4 (3 + e.toNatClampNeg) (by omega)
  unfold f_X12_liftsAt liftV
  rw [oIx_p (by omega) (by omega), n3, ht.1]
  by_cases c : (M.1 16 (3 + e.toNatClampNeg)).toInt = 0
  · have := lft f0 f1
    rw [if_pos (by rw [oLeI, tl_0]; omega), if_pos c, if_pos (by rw [oLeI, tl_1000]; omega), if_pos (by omega), iI_of this]
  · have hc := tabV_cong (g := M.1 71) (g' := M.1 15) (t := 3 + e.toNatClampNeg) (f := f.toInt) f0 (show 1 ≤ (M.1 16 (3 + e.toNatClampNeg)).toInt by omega) (fun j hj => h5 _ (by omega))
    rw [if_neg (by rw [oLeI, tl_0]; omega), if_neg c, tab12 (by omega) (by omega) f0 f1 (by rw [n3, ht.1]; omega) (by rw [n3, ht.1]; exact ht.2.2) (by rw [n3]; exact fun j hj => by rw [ht.1] at hj; rw [h5 _ (by omega)]; exact h6 _ (by omega) j hj), oB2_p, n3, ht.1, hc]
theorem ag_loses {K : oK} {M : oM} (h : oInv K M) (N : Nat) (a b : Int32) : oAg K M (f_X11_loses N K a b M) (f_X12_loses N K a b) := by
  unfold f_X11_loses f_X12_loses
  simp only [isBo11, isBo12, isFl11, isFl12, oB2_p]
  by_cases ha : 0 ≤ a.toInt ∧ a.toInt ≤ 2
  · by_cases hb : 0 ≤ b.toInt ∧ b.toInt ≤ 600
    · simp only [decide_eq_true ha, decide_eq_true hb, cond_true, lost3 h.2.2.2.1 h.2.2.1 ha.1 ha.2 hb.1 hb.2, oB2_p]
      refine oAg.mk M rfl ?_ h
      simp only [decide_eq_true ha, decide_eq_true hb, cond_true, isFl12, lost12 h.2.2.2.1 h.2.2.1 ha.1 ha.2 hb.1 hb.2, oB2_p]
    · simp only [decide_eq_true ha, decide_eq_false hb, cond_true, cond_false]
      exact oAg.mk M rfl (by simp only [decide_eq_true ha, decide_eq_false hb, isFl12, oB2_p, cond_true, cond_false]) h
  · simp only [decide_eq_false ha, cond_false]
    exact oAg.mk M rfl rfl h
theorem ag_lifts {K : oK} {M : oM} (h : oInv K M) (N : Nat) (a b : Int32) : oAg K M (f_X11_lifts N K a b M) (f_X12_lifts N K a b) := by
  obtain ⟨e1, b0, b1⟩ := h.2.2.2.1.1
  unfold f_X11_lifts f_X12_lifts
  have i12 : f_X12_isEngine N K a M = some (decide (0 ≤ a.toInt ∧ a.toInt < (M.1 11 6).toInt), M) := by rw [isEn12 N K a M (by rw [e1]; exact b0), e1]
  simp only [isEn3, isFl11, oB2_p]
  by_cases ha : 0 ≤ a.toInt ∧ a.toInt < (M.1 11 6).toInt
  · by_cases hb : 0 ≤ b.toInt ∧ b.toInt ≤ 600
    · simp only [decide_eq_true ha, decide_eq_true hb, cond_true, lift3 h.2.2.2.1 ha.1 (by omega) hb.1 hb.2, oB2_p]
      refine oAg.mk M rfl ?_ h
      simp only [i12, decide_eq_true ha, decide_eq_true hb, cond_true, isFl12, lift12 h.2.2.2.1 ha.1 (show a.toInt ≤ 5 by omega) hb.1 hb.2, oB2_p]
    · simp only [decide_eq_true ha, decide_eq_false hb, cond_true, cond_false]
      exact oAg.mk M rfl (by simp only [i12, decide_eq_true ha, decide_eq_false hb, isFl12, oB2_p, cond_true, cond_false]) h
  · simp only [decide_eq_false ha, cond_false]
    exact oAg.mk M rfl (by simp only [i12, oB2_p, decide_eq_false ha, cond_false]) h
theorem c_engine {K : oK} {M : oM} (N : Nat) (a b : Int32) (b0 : 0 ≤ (M.1 11 6).toInt) : f_X11_engine N K a b M = if (0 ≤ a.toInt ∧ a.toInt ≤ 999) ∧ 1 ≤ b.toInt ∧ b.toInt ≤ 9 then (if (M.1 11 6).toInt < 6 then some (M.1 11 6, oUp (oUp (oUp M 12 (M.1 11 6).toNatClampNeg a) 13 (M.1 11 6).toNatClampNeg b) 11 6 (M.1 11 6 + 1)) else some (-3, M)) else some (-1, M) := by
  unfold f_X11_engine f_X3_addEngine
  simp only [w11, oB2_p, tl_0, tl_1, tl_9, tl_999, lt_lit tl_6]
  by_cases ha : 0 ≤ a.toInt ∧ a.toInt ≤ 999
  · by_cases hb : 1 ≤ b.toInt ∧ b.toInt ≤ 9
    · by_cases hc : (M.1 11 6).toInt < 6
      · simp [ha, hb, hc, oIx_p (n := 6) b0 (by omega), oUp_at, oB2_p]
      · simp [ha, hb, hc, oB2_p]
    · simp [ha, hb]
  · simp [ha]
theorem m_engine {K : oK} {M : oM} (N : Nat) (a b : Int32) (b0 : 0 ≤ (M.1 59 11).toInt) (b1 : (M.1 59 11).toInt ≤ 6) : f_X12_engine N K a b M = if (0 ≤ a.toInt ∧ a.toInt ≤ 999) ∧ 1 ≤ b.toInt ∧ b.toInt ≤ 9 then (if (M.1 59 11).toInt < 6 then some (M.1 59 11, oUp (oUp (oUp M 67 (M.1 59 11).toNatClampNeg a) 68 (M.1 59 11).toNatClampNeg b) 59 11 (M.1 59 11 + 1)) else some (-3, M)) else some (-1, M) := by
  unfold f_X12_engine
  simp only [w12, oB2_p, oLg, l64_1, l64_0, show (999 : Int64).toInt = 999 from rfl, show (9 : Int64).toInt = 9 from rfl, eq_lit tl_6]
  by_cases ha : 0 ≤ a.toInt ∧ a.toInt ≤ 999
  · by_cases hb : 1 ≤ b.toInt ∧ b.toInt ≤ 9
    · by_cases hc : (M.1 59 11).toInt < 6
      · simp [ha, hb, hc, show ¬ (M.1 59 11).toInt = 6 by omega, oIx_p (n := 6) b0 (by omega), oUp_at, addsub1]
      · simp [ha, hb, show (M.1 59 11).toInt = 6 by omega]
    · simp [ha, hb]
  · simp [ha]
theorem ag_engine {K : oK} {M : oM} (h : oInv K M) (N : Nat) (a b : Int32) : oAg K M (f_X11_engine N K a b M) (f_X12_engine N K a b) := by
  obtain ⟨⟨e1, b0, b1⟩, hr, hv, h4, h5, h6, h7⟩ := h.2.2.2.1
  rw [c_engine N a b b0]
  by_cases ha : (0 ≤ a.toInt ∧ a.toInt ≤ 999) ∧ 1 ≤ b.toInt ∧ b.toInt ≤ 9
  · by_cases hc : (M.1 11 6).toInt < 6
    · have hx := add1 (x := M.1 11 6) (by omega)
      rw [if_pos ha, if_pos hc]
      refine oAg.mk (oUp (oUp (oUp (oUp (oUp (oUp M 12 (M.1 11 6).toNatClampNeg a) 13 (M.1 11 6).toNatClampNeg b) 11 6 (M.1 11 6 + 1)) 67 (M.1 11 6).toNatClampNeg a) 68 (M.1 11 6).toNatClampNeg b) 59 11 (M.1 11 6 + 1)) rfl ?_ ?_
      · rw [m_engine N a b (by simp [oUp_at, e1, b0]) (by simp [oUp_at, e1, b1]), if_pos ha, if_pos (by simp [oUp_at, e1, hc])]
        simp [oUp_at, e1]
      · refine h.gear ?_ ⟨⟨?_, ?_, ?_⟩, ?_, ?_, ?_, ?_, ?_, ?_⟩ ?_
        · exact .up59 (by decide) (.up (by decide) (.up (by decide) (.up (by decide) (.up (by decide) (.up (by decide) .rf)))))
        · simp [oUp_at]
        · simp [oUp_at, hx]; omega
        · simp [oUp_at, hx]; omega
        · intro i hi
          by_cases q : i = (M.1 11 6).toNatClampNeg
          · have := hr i hi
            rw [q] at this
            simp [oUp_at, q, this]
          · simp [oUp_at, q, hr i hi]
        · intro i hi
          simp [oUp_at, hx] at hi
          rcases nat_lt2 b0 hi with q | ⟨q, q2⟩
          · simp [oUp_at, q, ha]
          · have := hv i q
            simp [oUp_at, q2, this]
        · intro i hi
          simp [oUp_at]
          exact h4 i hi
        · intro i hi
          simp [oUp_at]
          exact h5 i hi
        · intro t ht j hj
          simp [oUp_at] at hj
          simp [oUp_at]
          exact h6 t ht j hj
        · intro t ht j hj
          simp [oUp_at] at hj
          simp [oUp_at]
          exact h7 t ht j hj
        · simp [oUp_at, hx]; omega
    · rw [if_pos ha, if_neg hc]
      refine oAg.mk M rfl ?_ h
      rw [m_engine N a b (by rw [e1]; exact b0) (by rw [e1]; exact b1), if_pos ha, if_neg (by rw [e1]; exact hc)]
  · rw [if_neg ha]
    refine oAg.mk M rfl ?_ h
    rw [m_engine N a b (by rw [e1]; exact b0) (by rw [e1]; exact b1), if_neg ha]
theorem ag_bore {K : oK} {M : oM} (h : oInv K M) {N : Nat} (hN : 100 ≤ N) (a b c : Int32) : oAg K M (f_X11_bore N K a b c M) (f_X12_bore N K a b c) := by
  have hmx : ∀ x : Int32, 0 ≤ x.toInt → x.toInt ≤ 2 → (oTb 1 x.toNatClampNeg).toInt = if x.toInt = 0 then 99999 else 99 := by
    intro x x0 x1
    have nx : x.toNatClampNeg = x.toInt.toNat := rfl
    rcases (show x.toInt = 0 ∨ x.toInt = 1 ∨ x.toInt = 2 by omega) with q | q | q
    · rw [if_pos q, nx, q]; rfl
    · rw [if_neg (by omega), nx, q]; rfl
    · rw [if_neg (by omega), nx, q]; rfl
  unfold f_X11_bore f_X12_bore
  simp only [isBo11, isBo12, w11, w12, oB2_p, tl_0, tl_2, oLg, l64_0, show (2 : Int64).toInt = 2 from rfl]
  by_cases ha : 0 ≤ a.toInt ∧ a.toInt ≤ 2
  · by_cases hb : 0 ≤ b.toInt ∧ b.toInt ≤ 2
    · have em := hmx b hb.1 hb.2
      simp only [decide_eq_true ha, decide_eq_true hb, cond_true, oIx_p (n := 3) hb.1 (show b.toInt < 3 by omega), em]
      have m35 : ∀ M1 : oM, (if b = 0 then f_X12_bore_35 N K a b c 99999 0 c.toInt64 M1 else f_X12_bore_35 N K a b c 99 0 c.toInt64 M1) = cond (decide (0 ≤ c.toInt ∧ c.toInt ≤ if b.toInt = 0 then 99999 else 99)) (oB2 (f_X12_becomes N K (12 + 3 * b + a) c M1) (fun v11 M12 => some (v11, M12))) (some (-1, M1)) := by
        intro M1
        by_cases q : b.toInt = 0
        · rw [if_pos (by rw [oEqI, tl_0]; exact q), if_pos q]
          unfold f_X12_bore_35
          simp only [w12, oB2_p, oLg, l64_0, show (99999 : Int64).toInt = 99999 from rfl]
        · rw [if_neg (by rw [oEqI, tl_0]; exact q), if_neg q]
          unfold f_X12_bore_35
          simp only [w12, oB2_p, oLg, l64_0, show (99 : Int64).toInt = 99 from rfl]
      by_cases hc : 0 ≤ c.toInt ∧ c.toInt ≤ if b.toInt = 0 then 99999 else 99
      · have e3 : (b * 3).toInt = b.toInt * 3 := by rw [oMul (by rw [tl_3]; omega) (by rw [tl_3]; omega), tl_3]
        have ep : (b * 3 + a).toInt = b.toInt * 3 + a.toInt := by rw [oAdd (by rw [e3]; omega) (by rw [e3]; omega), e3]
        have e3' : (3 * b).toInt = 3 * b.toInt := by rw [oMul (by rw [tl_3]; omega) (by rw [tl_3]; omega), tl_3]
        have e4 : (12 + 3 * b).toInt = 12 + 3 * b.toInt := by rw [oAdd (by rw [e3', tl_12]; omega) (by rw [e3', tl_12]; omega), e3', tl_12]
        have e5 : (12 + 3 * b + a).toInt = 12 + 3 * b.toInt + a.toInt := by rw [oAdd (by rw [e4]; omega) (by rw [e4]; omega), e4]
        have eq : oSg (b * 3 + a) = 12 + 3 * b + a := by
          have := oSg_n (p := b * 3 + a) (by omega) (by omega)
          rw [if_pos (by omega)] at this
          rw [oEqI]
          omega
        obtain ⟨r, M1, M2, h1, h2, h3⟩ := ag_become h hN (p := b * 3 + a) (v := c) (by omega) (by omega) (by
          unfold iVal
          refine ⟨hc.1, ?_⟩
          have := hc.2
          by_cases q : b.toInt = 0
          · rw [if_pos q] at this
            rw [if_pos (by omega)]
            exact this
          · rw [if_neg q] at this
            rw [if_neg (by omega), if_pos (by omega)]
            exact this)
        rw [eq] at h2
        simp only [decide_eq_true hc, cond_true, h1, oB2_p]
        refine oAg.mk M2 rfl ?_ h3
        simp only [w12, oB2_p, oLg, l64_0, show (2 : Int64).toInt = 2 from rfl, decide_eq_true ha, decide_eq_true hb, cond_true, m35, decide_eq_true hc, h2]
      · simp only [decide_eq_false hc, cond_false]
        refine oAg.mk M rfl ?_ h
        simp only [w12, oB2_p, oLg, l64_0, show (2 : Int64).toInt = 2 from rfl, decide_eq_true ha, decide_eq_true hb, cond_true, m35, decide_eq_false hc, cond_false]
    · simp only [decide_eq_true ha, decide_eq_false hb, cond_true, cond_false]
      exact oAg.mk M rfl (by simp only [w12, oB2_p, oLg, l64_0, show (2 : Int64).toInt = 2 from rfl, decide_eq_true ha, decide_eq_false hb, cond_true, cond_false]) h
  · simp only [decide_eq_false ha, cond_false]
    exact oAg.mk M rfl (by simp only [decide_eq_false ha, cond_false]) h
