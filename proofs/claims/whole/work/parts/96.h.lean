/-! old hose by chances -/
def itC (h : Int) : Nat → Int → Int
  | 0, c => c
  | n + 1, c => itC h n (c * h / 1000)
theorem it_1 {c h : Int} (c0 : 0 ≤ c) (c1 : c ≤ 1000000) (h0 : 0 ≤ h) (h1 : h ≤ 1000) : 0 ≤ c * h ∧ c * h ≤ 1000000000 ∧ 0 ≤ c * h / 1000 ∧ c * h / 1000 ≤ 1000000 := by
  have := mulB c0 c1 h0 h1
  omega
theorem it_b {h : Int} (h0 : 0 ≤ h) (h1 : h ≤ 1000) : ∀ (n : Nat) (c : Int), 0 ≤ c → c ≤ 1000000 → 0 ≤ itC h n c ∧ itC h n c ≤ 1000000 := by
  intro n
  induction n with
  | zero => intro c c0 c1; exact ⟨c0, c1⟩
  | succ n ih =>
    intro c c0 c1
    have := it_1 c0 c1 h0 h1
    exact ih _ this.2.2.1 this.2.2.2
theorem it_id : ∀ (n : Nat) (c : Int), itC 1000 n c = c := by
  intro n
  induction n with
  | zero => intro c; rfl
  | succ n ih =>
    intro c
    rw [itC, ih]
    omega
theorem lomul {x y : Int64} (h1 : 0 ≤ x.toInt * y.toInt) (h2 : x.toInt * y.toInt ≤ 1000000000) : (x * y).toInt = x.toInt * y.toInt := by
  rw [Int64.toInt_mul]
  exact Int.bmod_eq_of_le (by omega) (by omega)
theorem lodiv {x y : Int64} (h0 : 0 ≤ x.toInt) (h2 : x.toInt ≤ 1000000000) (h1 : 0 < y.toInt) : (x / y).toInt = x.toInt / y.toInt := by
  rw [Int64.toInt_div, Int.tdiv_eq_ediv_of_nonneg h0]
  have h2 : 0 ≤ x.toInt / y.toInt := Int.ediv_nonneg h0 (by omega)
  have h3 : x.toInt / y.toInt ≤ x.toInt := Int.ediv_le_self _ h0
  exact Int.bmod_eq_of_le (by omega) (by omega)
theorem lochance {c h : Int} (c0 : 0 ≤ c) (c1 : c ≤ 1000000) (h0 : 0 ≤ h) (h1 : h ≤ 1000) : (((iI c).toInt64 * (iI h).toInt64 / 1000 : Int64).toInt32) = iI (c * h / 1000) := by
  have hb := it_1 c0 c1 h0 h1
  have ec : (iI c).toInt64.toInt = c := by rw [oLg, iI_t (by omega) (by omega)]
  have eh : (iI h).toInt64.toInt = h := by rw [oLg, iI_t (by omega) (by omega)]
  have em : ((iI c).toInt64 * (iI h).toInt64).toInt = c * h := by rw [lomul (by rw [ec, eh]; omega) (by rw [ec, eh]; omega), ec, eh]
  have t1000 : (1000 : Int64).toInt = 1000 := rfl
  have ed : ((iI c).toInt64 * (iI h).toInt64 / 1000).toInt = c * h / 1000 := by rw [lodiv (by omega) (by omega) (by rw [t1000]; omega), em, t1000]
  refine iI_of ?_
  rw [Int64.toInt_toInt32, ed]
  exact Int.bmod_eq_of_le (by omega) (by omega)
theorem ichance {c h : Int} (c0 : 0 ≤ c) (c1 : c ≤ 1000000) (h0 : 0 ≤ h) (h1 : h ≤ 1000) : iI c * iI h / 1000 = iI (c * h / 1000) := by
  have hb := it_1 c0 c1 h0 h1
  have ec : (iI c).toInt = c := iI_t (by omega) (by omega)
  have eh : (iI h).toInt = h := iI_t (by omega) (by omega)
  have em : (iI c * iI h).toInt = c * h := by rw [oMul (by rw [ec, eh]; omega) (by rw [ec, eh]; omega), ec, eh]
  exact iI_of (by rw [oDiv (by omega) (by rw [tl_1000]; omega), em, tl_1000])
theorem old62 {N : Nat} {K : oK} {M : oM} (r : Nat → Int32 → Int32 → oM → Option (Int32 × oM)) (p2 : Nat) (p4 : Int32) {h : Int} (h0 : 0 ≤ h) (h1 : h ≤ 1000) {n : Nat} (hn : n ≤ 2000) : ∀ (f k : Nat) (c : Int), k ≤ n → n < k + f → 0 ≤ c → c ≤ 1000000 → f_X11_old_62 N K r f p2 (iI c) p4 (iI h) (nI n) (nI k) M = r p2 (iI (itC h (n - k) c)) (p4 + 1) M := by
  have en : (nI n).toInt = n := nI_toInt (by omega)
  have eh : (iI h).toInt = h := iI_t (by omega) (by omega)
  intro f
  induction f with
  | zero => intro k c g1 g2; omega
  | succ f ih =>
    intro k c g1 g2 c0 c1
    have ek : (nI k).toInt = k := nI_toInt (by omega)
    rw [f_X11_old_62]
    dsimp only
    unfold f_X11_old_92
    by_cases q : k = n
    · rw [if_pos (by rw [oLeI, en, ek]; omega), q, Nat.sub_self]
      rfl
    · rw [if_neg (by rw [oLeI, en, ek]; omega)]
      by_cases q2 : 1000 ≤ h
      · rw [if_pos (by rw [oLeI, tl_1000, eh]; exact q2), show h = 1000 by omega, it_id]
      · have hb := it_1 c0 c1 h0 h1
        rw [if_neg (by rw [oLeI, tl_1000, eh]; exact q2), ichance c0 c1 h0 h1, nI_1, ih (k + 1) _ (by omega) (by omega) hb.2.2.1 hb.2.2.2, show n - k = (n - (k + 1)) + 1 by omega]
        rfl
theorem old47 {N : Nat} {K : oK} {M : oM} (r : Int32 → Int32 → Int32 → oM → Option (Int32 × oM)) (p1 p3 : Int32) {h : Int} (h0 : 0 ≤ h) (h1 : h ≤ 1000) : ∀ (f n : Nat) (c : Int), n ≤ 2000 → n < f → 0 ≤ c → c ≤ 1000000 → f_X12_old_47 N K r f p1 (iI c) p3 (iI h) (nI n) M = r p1 (iI (itC h n c)) (p3 + 1) M := by
  have eh : (iI h).toInt = h := iI_t (by omega) (by omega)
  intro f
  induction f with
  | zero => intro n c g1 g2; omega
  | succ f ih =>
    intro n c g1 g2 c0 c1
    have en : (nI n).toInt = n := nI_toInt (by omega)
    rw [f_X12_old_47]
    dsimp only
    unfold f_X12_old_65
    by_cases q : n = 0
    · rw [if_pos (by rw [oLeI, en, tl_0]; omega), q]
      rfl
    · have hb := it_1 c0 c1 h0 h1
      have e1 : nI n + -1 = nI (n - 1) := by rw [← Int32.sub_eq_add_neg]; exact pk_sub (a := n) (b := 1) (by omega)
      rw [if_neg (by rw [oLeI, en, tl_0]; omega), if_pos (by rw [oLeI, tl_0, eh]; exact h0), lochance c0 c1 h0 h1, e1, ih (n - 1) _ (by omega) (by omega) hb.2.2.1 hb.2.2.2]
      obtain ⟨n, rfl⟩ : ∃ m, n = m + 1 := ⟨n - 1, by omega⟩
      rfl
def olV (M : oM) (l : Nat) : Nat → Int
  | 0 => 1000000
  | b + 1 => itC (1000 - 10 * (M.1 2 (6 + b)).toInt) (hoS (coV M l 0 0) b (M.1 (oLy l) 7).toInt.toNat).toNat (olV M l b)
theorem age_b {M : oM} (hs : iSet M) {b : Nat} (hb : b < 3) : 0 ≤ (M.1 2 (6 + b)).toInt ∧ (M.1 2 (6 + b)).toInt ≤ 99 := by
  have := hs.2.2.1 (6 + b) (by omega)
  unfold iVal at this
  rw [if_neg (by omega), if_pos (by omega)] at this
  exact this
theorem olV_b {M : oM} (hs : iSet M) (l : Nat) : ∀ b, b ≤ 3 → 0 ≤ olV M l b ∧ olV M l b ≤ 1000000 := by
  intro b
  induction b with
  | zero => intro _; exact ⟨(by decide : (0 : Int) ≤ 1000000), (by decide : (1000000 : Int) ≤ 1000000)⟩
  | succ b ih =>
    intro hb
    have ha := age_b hs (b := b) (by omega)
    have := ih (by omega)
    exact it_b (by omega) (by omega) _ _ this.1 this.2
theorem by_e {M : oM} (hs : iSet M) {b : Nat} (hb : b < 3) : 1000 - 10 * M.1 2 (6 + b) = iI (1000 - 10 * (M.1 2 (6 + b)).toInt) := by
  have ha := age_b hs hb
  have e10 : (10 * M.1 2 (6 + b)).toInt = 10 * (M.1 2 (6 + b)).toInt := by rw [oMul (by rw [tl_10]; omega) (by rw [tl_10]; omega), tl_10]
  exact iI_of (by rw [oSub (by rw [tl_1000, e10]; omega) (by rw [tl_1000, e10]; omega), tl_1000, e10])
theorem old11 {K : oK} {M : oM} (h : oInv K M) {N : Nat} (hN : 3000 ≤ N) {l : Nat} (hy : iLay1 M l) : ∀ (f b : Nat), b ≤ 3 → 3 < b + f → f_X11_old_19 N K f (oLy l) (iI (olV M l b)) (nI b) M = some (iI (olV M l 3), M) := by
  have hs := h.2.2.1
  have h24 := hy.2.2.1.2.2
  have hok0 := ok0 h hy (md := 0) (x := 0) (by omega) (by omega)
  rw [cnt0] at hok0
  intro f
  induction f with
  | zero => intro b h1 h2; omega
  | succ f ih =>
    intro b h1 h2
    have eb : (nI b).toInt = b := nI_toInt (by omega)
    rw [f_X11_old_19]
    dsimp only
    by_cases c : b = 3
    · rw [if_pos (by rw [oLeI, tl_3, eb]; omega), c]
    · have ha := age_b hs (b := b) (by omega)
      have hv := olV_b hs l b h1
      have e6 : (6 + nI b).toInt = 6 + b := by rw [oAdd (by rw [tl_6, eb]; omega) (by rw [tl_6, eb]; omega), tl_6, eb]
      have hb2 := hoS_b hok0 b (M.1 (oLy l) 7).toInt.toNat (Nat.le_refl _)
      rw [if_neg (by rw [oLeI, tl_3, eb]; omega), at8v (by omega) (by omega), oB2_p, hose11 h (N := N) (by omega) hy (b := b) (by omega), oB2_p, e6, show ((6 : Int) + b).toNat = 6 + b by omega, by_e hs (by omega)]
      have em : (if (0 : Int32) < iI (1000 - 10 * (M.1 2 (6 + b)).toInt) then iI (1000 - 10 * (M.1 2 (6 + b)).toInt) else 0) = iI (1000 - 10 * (M.1 2 (6 + b)).toInt) := by rw [if_pos (by rw [oLtI, tl_0, iI_t (by omega) (by omega)]; omega)]
      have en : iI (hoS (coV M l 0 0) b (M.1 (oLy l) 7).toInt.toNat) = nI (hoS (coV M l 0 0) b (M.1 (oLy l) 7).toInt.toNat).toNat := by
        rw [← iI_nI, Int.toNat_of_nonneg hb2.1]
      rw [em, en, show (0 : Int32) = nI 0 from rfl, old62 (f_X11_old_19 N K f) (oLy l) (nI b) (by omega) (by omega) (by omega) N 0 _ (by omega) (by omega) hv.1 hv.2, nI_1, Nat.sub_zero]
      exact ih (b + 1) (by omega) (by omega)
theorem old12 {K : oK} {M : oM} (h : oInv K M) {N : Nat} (hN : 3000 ≤ N) {l : Nat} (hl : l < 20) (hy : iLay1 M l) : ∀ (f b : Nat) (M1 : oM), fS M M1 → b ≤ 3 → 3 < b + f → ∃ M2, f_X12_old_16 N K f (nI l) (iI (olV M l b)) (nI b) M1 = some (iI (olV M l 3), M2) ∧ fS M M2 := by
  have hs := h.2.2.1
  have h24 := hy.2.2.1.2.2
  have hok0 := ok0 h hy (md := 0) (x := 0) (by omega) (by omega)
  rw [cnt0] at hok0
  intro f
  induction f with
  | zero => intro b M1 F h1 h2; omega
  | succ f ih =>
    intro b M1 F h1 h2
    have eb : (nI b).toInt = b := nI_toInt (by omega)
    rw [f_X12_old_16]
    dsimp only
    by_cases c : b = 3
    · rw [if_pos (by rw [oLeI, tl_3, eb]; omega), c]
      exact ⟨M1, rfl, F⟩
    · have ha := age_b hs (b := b) (by omega)
      have hv := olV_b hs l b h1
      have e18 : (18 + nI b).toInt = 18 + b := by rw [oAdd (by rw [tl_18, eb]; omega) (by rw [tl_18, eb]; omega), tl_18, eb]
      have hb2 := hoS_b hok0 b (M.1 (oLy l) 7).toInt.toNat (Nat.le_refl _)
      obtain ⟨M2, b1, b2⟩ := hose12 h F (N := N) (by omega) hl hy (b := b) (by omega)
      have r60 : M1.1 60 (18 + nI b).toNatClampNeg = M.1 2 (6 + b) := by
        rw [F.1 60 (by decide) (by decide), oTnn, e18, show ((18 : Int) + b).toNat = (6 + b) + 12 by omega]
        exact hs.1 (6 + b) (by omega)
      have en : iI (hoS (coV M l 0 0) b (M.1 (oLy l) 7).toInt.toNat) = nI (hoS (coV M l 0 0) b (M.1 (oLy l) 7).toInt.toNat).toNat := by
        rw [← iI_nI, Int.toNat_of_nonneg hb2.1]
      obtain ⟨M3, d1, d2⟩ := ih (b + 1) M2 b2 (by omega) (by omega)
      refine ⟨M3, ?_, d2⟩
      rw [if_neg (by rw [oLeI, tl_3, eb]; omega), oIx_p (by omega) (by omega), b1, oB2_p, r60, by_e hs (by omega), en, old47 (f_X12_old_16 N K f) (nI l) (nI b) (by omega) (by omega) N _ _ (by omega) (by omega) hv.1 hv.2, nI_1]
      exact d1
theorem ag_old {K : oK} {M : oM} (h : oInv K M) {N : Nat} (hN : 3000 ≤ N) (a : Int32) : oAg K M (f_X11_old N K a M) (f_X12_old N K a) := by
  have hl := h.2.2.2.2.2.2.2.2.1
  have c1 := hl.1.2.2
  unfold f_X11_old
  rw [lyAt hl, oB2_p]
  by_cases c : 0 ≤ a.toInt ∧ a.toInt < (M.1 0 11).toInt
  · have na : a.toNatClampNeg = a.toInt.toNat := rfl
    have hy := (ly_nn hl c.1 c.2).2
    generalize hq : a.toNatClampNeg = l at *
    have la : a = nI l := oNI (by omega)
    have a1 := old11 h hN hy N 0 (by omega) (by omega)
    obtain ⟨M2, b1, b2⟩ := old12 h hN (show l < 20 by omega) hy N 0 M .rf (by omega) (by omega)
    rw [if_pos c, oCs_s]
    refine oAg.mk M2 a1 ?_ (h.scr b2)
    unfold f_X12_old
    rw [l12 h, oB2_p, decide_eq_true c, cond_true, la]
    exact b1
  · rw [if_neg c, oCs_n]
    refine oAg.mk M rfl ?_ h
    unfold f_X12_old
    rw [l12 h, oB2_p, decide_eq_false c, cond_false]
