/-! the soonest way: in the memory -/
def roS (M : oM) (r P : Nat) (d : Nat → Int) : Prop := ∀ j, j < P → (M.1 r j).toInt = d j
def rgS (P : Nat) (d : Nat → Int) : Prop := ∀ j, j < P → 0 ≤ d j ∧ d j ≤ 1000000000
theorem rg_rlx {P : Nat} {d : Nat → Int} (h : rgS P d) {a b : Nat} (ha : a < P) (hb : b < P) {c : Int} (hc : 0 ≤ c) : rgS P (rlx d a b c) := by
  intro j hj
  have h1 := h j hj
  have h2 := h a ha
  have h3 := h b hb
  unfold rlx
  by_cases q : j = b ∧ d a + c < d b
  · rw [if_pos q]
    omega
  · rw [if_neg q]
    exact h1
def wA (M : oM) (w : Nat) : Nat := (M.1 7 w).toNatClampNeg
def wB (M : oM) (w : Nat) : Nat := (M.1 8 w).toNatClampNeg
def wC (M : oM) (sp : Int) (w : Nat) : Int := ((M.1 9 w).toInt + sp - 1) / sp
theorem wC_b {M : oM} (hg : iGnd M) {sp : Int} (s0 : 1 ≤ sp) (s1 : sp ≤ 9) {w : Nat} (hw : w < (M.1 6 6).toInt.toNat) : 1 ≤ wC M sp w ∧ wC M sp w ≤ 30 := by
  obtain ⟨-, -, -, h1, h2⟩ := hg.2.2.2 w (by omega)
  unfold wC
  have a1 : (1 : Int) ≤ ((M.1 9 w).toInt + sp - 1) / sp := Int.le_ediv_of_mul_le (by omega) (by omega)
  have a2 : ((M.1 9 w).toInt + sp - 1) / sp < 31 := Int.ediv_lt_of_lt_mul (by omega) (by omega)
  omega
theorem wG {M : oM} (hg : iGnd M) {sp : Int} (s0 : 1 ≤ sp) (s1 : sp ≤ 9) : okG (wA M) (wB M) (wC M sp) (M.1 6 6).toInt.toNat (M.1 6 5).toInt.toNat := by
  intro w hw
  obtain ⟨h1, h2, -, -, -⟩ := hg.2.2.2 w (by omega)
  have h3 := wC_b hg s0 s1 hw
  have e7 : wA M w = (M.1 7 w).toInt.toNat := rfl
  have e8 : wB M w = (M.1 8 w).toInt.toNat := rfl
  omega
theorem wT {M : oM} (hg : iGnd M) {sp : Int32} (s0 : 1 ≤ sp.toInt) (s1 : sp.toInt ≤ 9) {w : Nat} (hw : w < (M.1 6 6).toInt.toNat) : ((M.1 9 w + sp - 1) / sp).toInt = wC M sp.toInt w := by
  obtain ⟨-, -, -, h1, h2⟩ := hg.2.2.2 w (by omega)
  have e1 : (M.1 9 w + sp).toInt = (M.1 9 w).toInt + sp.toInt := oAdd (by omega) (by omega)
  have e2 : (M.1 9 w + sp - 1).toInt = (M.1 9 w).toInt + sp.toInt - 1 := by rw [oSub (by rw [e1, tl_1]; omega) (by rw [e1, tl_1]; omega), e1, tl_1]
  rw [oDiv (by rw [e2]; omega) (by omega), e2]
  rfl
theorem has4 {N : Nat} {K : oK} {M : oM} {P : Nat} (hP : P ≤ 12) {d : Nat → Int} (hd : roS M 10 P d) (rg : rgS P d) {a b c : Int32} (a0 : 0 ≤ a.toInt) (a1 : a.toInt < P) (b0 : 0 ≤ b.toInt) (b1 : b.toInt < P) (c0 : 0 ≤ c.toInt) (c1 : c.toInt ≤ 30) : ∃ M', f_X4_hasten N K a b c M = some ((), M') ∧ oFr [10] [] M M' ∧ roS M' 10 P (rlx d a.toNatClampNeg b.toNatClampNeg c.toInt) := by
  have na : a.toNatClampNeg = a.toInt.toNat := rfl
  have nb : b.toNatClampNeg = b.toInt.toNat := rfl
  have ea := hd a.toNatClampNeg (by omega)
  have eb := hd b.toNatClampNeg (by omega)
  have ra := rg a.toNatClampNeg (by omega)
  have es : (M.1 10 a.toNatClampNeg + c).toInt = d a.toNatClampNeg + c.toInt := by rw [oAdd (by omega) (by omega), ea]
  unfold f_X4_hasten
  rw [oIx_p a0 (by omega), oIx_p b0 (by omega)]
  by_cases q : d a.toNatClampNeg + c.toInt < d b.toNatClampNeg
  · rw [if_neg (by rw [oLeI, es, eb]; omega), oIx_p a0 (by omega), oIx_p b0 (by omega)]
    refine ⟨_, rfl, .up (by decide) .rf, ?_⟩
    rw [rlx_p q]
    intro j hj
    rw [oUp_at]
    dsimp only
    by_cases z : j = b.toNatClampNeg
    · rw [if_pos ⟨rfl, z⟩, if_pos z, es]
    · rw [if_neg (fun x => z x.2), if_neg z]
      exact hd j hj
  · rw [if_pos (by rw [oLeI, es, eb]; omega)]
    exact ⟨M, rfl, .rf, by rw [rlx_n q]; exact hd⟩
theorem so73 {N : Nat} {K : oK} {M : oM} (hg : iGnd M) {sp : Int32} (s0 : 1 ≤ sp.toInt) (s1 : sp.toInt ≤ 9) (r : Int32 → Int32 → Int32 → oM → Option (Int32 × oM)) (p3 p4 : Int32) {d : Nat → Int} : ∀ (f w : Nat) (M1 : oM), w ≤ (M.1 6 6).toInt.toNat → (M.1 6 6).toInt.toNat < w + f → oFr [10] [] M M1 → roS M1 10 (M.1 6 5).toInt.toNat (rdS (wA M) (wB M) (wC M sp.toInt) d w) → rgS (M.1 6 5).toInt.toNat (rdS (wA M) (wB M) (wC M sp.toInt) d w) →
    ∃ M2, f_X4_soonest_73 N K r f sp p3 p4 (nI w) M1 = r sp p3 (p4 + 1) M2 ∧ oFr [10] [] M M2 ∧ roS M2 10 (M.1 6 5).toInt.toNat (rdS (wA M) (wB M) (wC M sp.toInt) d (M.1 6 6).toInt.toNat) ∧ rgS (M.1 6 5).toInt.toNat (rdS (wA M) (wB M) (wC M sp.toInt) d (M.1 6 6).toInt.toNat) := by
  have hW := hg.2.1.2
  have hP := hg.1.2
  intro f
  induction f with
  | zero => intro w M1 h1 h2; omega
  | succ f ih =>
    intro w M1 h1 h2 F hd rg
    have ew : (nI w).toInt = w := nI_toInt (by omega)
    rw [f_X4_soonest_73]
    dsimp only
    rw [F.1 6 (by decide) (by decide)]
    by_cases q : w = (M.1 6 6).toInt.toNat
    · rw [if_pos (by rw [oLeI, ew]; omega)]
      rw [q] at hd rg
      exact ⟨M1, rfl, F, hd, rg⟩
    · have hw : w < (M.1 6 6).toInt.toNat := by omega
      obtain ⟨g1, g2, -, -, -⟩ := hg.2.2.2 w (by omega)
      have gc := wC_b hg s0 s1 hw
      have et := wT hg s0 s1 hw
      have hx : ∀ A : Option (Int32 × oM), oIx (nI w) 20 A = A := fun A => oIx_p (by omega) (by omega)
      have hz : ∀ A : Option (Int32 × oM), oNz sp A = A := fun A => by
        unfold oNz
        rw [if_neg (by rw [oEqI, tl_0]; omega)]
      rw [if_neg (by rw [oLeI, ew]; omega)]
      simp only [hx, hz, nI_n (show w < 2147483648 by omega), F.1 7 (by decide) (by decide), F.1 8 (by decide) (by decide), F.1 9 (by decide) (by decide)]
      obtain ⟨M2, a1, a2, a3⟩ := has4 (N := N) (K := K) (P := (M.1 6 5).toInt.toNat) (by omega) hd rg (a := M.1 7 w) (b := M.1 8 w) (c := (M.1 9 w + sp - 1) / sp) (by omega) (by omega) (by omega) (by omega) (by omega) (by omega)
      have F2 := F.tr a2
      have rg2 := rg_rlx rg (a := wA M w) (b := wB M w) (by have : wA M w = (M.1 7 w).toInt.toNat := rfl; omega) (by have : wB M w = (M.1 8 w).toInt.toNat := rfl; omega) (c := wC M sp.toInt w) (by omega)
      rw [et] at a3
      obtain ⟨M3, c1, c2, c3⟩ := has4 (N := N) (K := K) (P := (M.1 6 5).toInt.toNat) (by omega) a3 rg2 (a := M.1 8 w) (b := M.1 7 w) (c := (M.1 9 w + sp - 1) / sp) (by omega) (by omega) (by omega) (by omega) (by omega) (by omega)
      rw [a1, oB2_p]
      simp only [F2.1 7 (by decide) (by decide), F2.1 8 (by decide) (by decide)]
      rw [c1, oB2_p, nI_1]
      rw [et] at c3
      exact ih (w + 1) M3 (by omega) (by omega) (F2.tr c2) c3 (rg_rlx rg2 (by have : wB M w = (M.1 8 w).toInt.toNat := rfl; omega) (by have : wA M w = (M.1 7 w).toInt.toNat := rfl; omega) (by omega))
theorem so61 {N : Nat} (hN : 100 ≤ N) {K : oK} {M : oM} (hg : iGnd M) {sp : Int32} (s0 : 1 ≤ sp.toInt) (s1 : sp.toInt ≤ 9) {p3 : Int32} (t0 : 0 ≤ p3.toInt) (t1 : p3.toInt < (M.1 6 5).toInt) {d : Nat → Int} : ∀ (f k : Nat) (M1 : oM), k ≤ (M.1 6 5).toInt.toNat → (M.1 6 5).toInt.toNat < k + f → oFr [10] [] M M1 → roS M1 10 (M.1 6 5).toInt.toNat (itS (wA M) (wB M) (wC M sp.toInt) (M.1 6 6).toInt.toNat d k) → rgS (M.1 6 5).toInt.toNat (itS (wA M) (wB M) (wC M sp.toInt) (M.1 6 6).toInt.toNat d k) →
    ∃ M2, f_X4_soonest_61 N K f sp p3 (nI k) M1 = some (if itS (wA M) (wB M) (wC M sp.toInt) (M.1 6 6).toInt.toNat d (M.1 6 5).toInt.toNat p3.toNatClampNeg < 1000000000 then iI (itS (wA M) (wB M) (wC M sp.toInt) (M.1 6 6).toInt.toNat d (M.1 6 5).toInt.toNat p3.toNatClampNeg) else -2, M2) ∧ oFr [10] [] M M2 := by
  have hW := hg.2.1.2
  have hP := hg.1.2
  have n3 : p3.toNatClampNeg = p3.toInt.toNat := rfl
  intro f
  induction f with
  | zero => intro k M1 h1 h2; omega
  | succ f ih =>
    intro k M1 h1 h2 F hd rg
    have ek : (nI k).toInt = k := nI_toInt (by omega)
    rw [f_X4_soonest_61]
    dsimp only
    rw [F.1 6 (by decide) (by decide)]
    by_cases q : k = (M.1 6 5).toInt.toNat
    · rw [← q]
      have e := hd p3.toNatClampNeg (by omega)
      rw [if_pos (by rw [oLeI, ek]; omega), oIx_p t0 (by omega)]
      refine ⟨M1, ?_, F⟩
      by_cases z : itS (wA M) (wB M) (wC M sp.toInt) (M.1 6 6).toInt.toNat d k p3.toNatClampNeg < 1000000000
      · rw [if_pos z, if_pos (by rw [oLtI, e, tl_1000000000]; exact z), oIx_p t0 (by omega), ← iI_of e]
      · rw [if_neg z, if_neg (by rw [oLtI, e, tl_1000000000]; exact z)]
    · rw [if_neg (by rw [oLeI, ek]; omega)]
      obtain ⟨M2, a1, a2, a3, a4⟩ := so73 (N := N) (K := K) hg s0 s1 (f_X4_soonest_61 N K f) p3 (nI k) (d := itS (wA M) (wB M) (wC M sp.toInt) (M.1 6 6).toInt.toNat d k) N 0 M1 (by omega) (by omega) F hd rg
      have a1' : f_X4_soonest_73 N K (f_X4_soonest_61 N K f) N sp p3 (nI k) 0 M1 = _ := a1
      rw [a1', nI_1]
      exact ih (k + 1) M2 (by omega) (by omega) a2 a3 a4
theorem so27 {N : Nat} {K : oK} {M : oM} (hg : iGnd M) (sp p3 : Int32) {p2 : Int32} (f0 : 0 ≤ p2.toInt) (f1 : p2.toInt < (M.1 6 5).toInt) : ∀ (f j : Nat) (M1 : oM), j ≤ (M.1 6 5).toInt.toNat → (M.1 6 5).toInt.toNat < j + f → oFr [10] [] M M1 → (∀ i, i < j → M1.1 10 i = 1000000000) →
    ∃ M2, f_X4_soonest_27 N K f sp p2 p3 (nI j) M1 = f_X4_soonest_61 N K N sp p3 0 M2 ∧ oFr [10] [] M M2 ∧ roS M2 10 (M.1 6 5).toInt.toNat (fun p => if p = p2.toNatClampNeg then 0 else 1000000000) := by
  have hP := hg.1.2
  intro f
  induction f with
  | zero => intro j M1 h1 h2; omega
  | succ f ih =>
    intro j M1 h1 h2 F hd
    have ej : (nI j).toInt = j := nI_toInt (by omega)
    rw [f_X4_soonest_27]
    dsimp only
    rw [F.1 6 (by decide) (by decide)]
    by_cases q : j = (M.1 6 5).toInt.toNat
    · rw [if_pos (by rw [oLeI, ej]; omega), oIx_p f0 (by omega)]
      refine ⟨_, rfl, .up (by decide) F, fun i hi => ?_⟩
      rw [oUp_at]
      dsimp only
      by_cases z : i = p2.toNatClampNeg
      · rw [if_pos ⟨rfl, z⟩, if_pos z]
        rfl
      · rw [if_neg (fun x => z x.2), if_neg z, hd i (by omega)]
        rfl
    · rw [if_neg (by rw [oLeI, ej]; omega), oIx_p (by omega) (by omega), nI_1, nI_n (by omega)]
      refine ih (j + 1) _ (by omega) (by omega) (.up (by decide) F) (fun i hi => ?_)
      rw [oUp_at]
      by_cases z : i = j
      · rw [if_pos ⟨rfl, z⟩]
      · rw [if_neg (fun x => z x.2)]
        exact hd i (by omega)
/-- the other half -/
theorem up93 {M M1 : oM} {P : Nat} (hP : P ≤ 12) (F : oFr [10, 93] [] M M1) {d : Nat → Int} (hd : roS M1 93 P d) (rg : rgS P d) {a b c : Int32} (a0 : 0 ≤ a.toInt) (a1 : a.toInt < P) (b0 : 0 ≤ b.toInt) (b1 : b.toInt < P) (c0 : 0 ≤ c.toInt) (c1 : c.toInt ≤ 30) :
    (M1.1 93 b.toNatClampNeg ≤ M1.1 93 a.toNatClampNeg + c ↔ ¬ d a.toNatClampNeg + c.toInt < d b.toNatClampNeg) ∧ (d a.toNatClampNeg + c.toInt < d b.toNatClampNeg → oFr [10, 93] [] M (oUp M1 93 b.toNatClampNeg (M1.1 93 a.toNatClampNeg + c)) ∧ roS (oUp M1 93 b.toNatClampNeg (M1.1 93 a.toNatClampNeg + c)) 93 P (rlx d a.toNatClampNeg b.toNatClampNeg c.toInt)) := by
  have na : a.toNatClampNeg = a.toInt.toNat := rfl
  have nb : b.toNatClampNeg = b.toInt.toNat := rfl
  have ea := hd a.toNatClampNeg (by omega)
  have eb := hd b.toNatClampNeg (by omega)
  have ra := rg a.toNatClampNeg (by omega)
  have es : (M1.1 93 a.toNatClampNeg + c).toInt = d a.toNatClampNeg + c.toInt := by rw [oAdd (by omega) (by omega), ea]
  refine ⟨by rw [oLeI, es, eb]; omega, fun q => ⟨.up (by decide) F, ?_⟩⟩
  rw [rlx_p q]
  intro j hj
  rw [oUp_at]
  dsimp only
  by_cases z : j = b.toNatClampNeg
  · rw [if_pos ⟨rfl, z⟩, if_pos z, es]
  · rw [if_neg (fun x => z x.2), if_neg z]
    exact hd j hj
theorem so172 {N : Nat} {K : oK} {M M1 : oM} (hg : iGnd M) (F : oFr [10, 93] [] M M1) {d : Nat → Int} (hd : roS M1 93 (M.1 6 5).toInt.toNat d) (rg : rgS (M.1 6 5).toInt.toNat d) {w : Nat} (hw : w < (M.1 6 6).toInt.toNat) {c : Int32} (c0 : 0 ≤ c.toInt) (c1 : c.toInt ≤ 30) (r67 : Int32 → Int32 → Int32 → oM → Option (Int32 × oM)) (r78 : Int32 → Int32 → Int32 → Int32 → oM → Option (Int32 × oM)) (p1 p3 p4 : Int32) :
    ∃ M2, f_X12_soon_172 N K r67 r78 p1 p3 p4 (nI w) c M1 = r78 p1 p3 (if d (wB M w) + c.toInt < d (wA M w) then 1 else p4) (nI (w + 1)) M2 ∧ oFr [10, 93] [] M M2 ∧ roS M2 93 (M.1 6 5).toInt.toNat (rlx d (wB M w) (wA M w) c.toInt) := by
  have hW := hg.2.1.2
  have hP := hg.1.2
  obtain ⟨g1, g2, -, -, -⟩ := hg.2.2.2 w (by omega)
  have ew : (nI w).toInt = w := nI_toInt (by omega)
  have hx : ∀ A : Option (Int32 × oM), oIx (nI w) 20 A = A := fun A => oIx_p (by omega) (by omega)
  have hx7 : ∀ A : Option (Int32 × oM), oIx (M.1 7 w) 12 A = A := fun A => oIx_p (by omega) (by omega)
  have hx8 : ∀ A : Option (Int32 × oM), oIx (M.1 8 w) 12 A = A := fun A => oIx_p (by omega) (by omega)
  have e64 : M1.1 64 w = M.1 7 w := by rw [F.1 64 (by decide) (by decide)]; exact (hg.2.2.1 w (by omega)).1
  have e65 : M1.1 65 w = M.1 8 w := by rw [F.1 65 (by decide) (by decide)]; exact (hg.2.2.1 w (by omega)).2.1
  have u := up93 (by omega) F hd rg (a := M.1 8 w) (b := M.1 7 w) (c := c) (by omega) (by omega) (by omega) (by omega) c0 c1
  unfold f_X12_soon_172 f_X12_soon_232
  simp only [nI_n (show w < 2147483648 by omega), hx, e64, e65, hx7, hx8, nI_1]
  have a7 : (M.1 7 w).toNatClampNeg = wA M w := rfl
  have a8 : (M.1 8 w).toNatClampNeg = wB M w := rfl
  rw [a7, a8] at u ⊢
  by_cases q : d (wB M w) + c.toInt < d (wA M w)
  · rw [if_neg (fun z => u.1.mp z q), if_pos q]
    exact ⟨_, rfl, u.2 q⟩
  · rw [if_pos (u.1.mpr q), if_neg q]
    exact ⟨M1, rfl, F, by rw [rlx_n q]; exact hd⟩
theorem so78a {N : Nat} {K : oK} {M M1 : oM} (hg : iGnd M) (hge : iGear M) {e : Int32} (e0 : 0 ≤ e.toInt) (e1 : e.toInt < (M.1 11 6).toInt) (F : oFr [10, 93] [] M M1) {d : Nat → Int} (hd : roS M1 93 (M.1 6 5).toInt.toNat d) (rg : rgS (M.1 6 5).toInt.toNat d) {w : Nat} (hw : w < (M.1 6 6).toInt.toNat) (r67 : Int32 → Int32 → Int32 → oM → Option (Int32 × oM)) (f : Nat) (p3 p4 : Int32) :
    ∃ M2, f_X12_soon_78 N K r67 (f + 1) e p3 p4 (nI w) M1 = f_X12_soon_172 N K r67 (f_X12_soon_78 N K r67 f) e p3 (if d (wA M w) + wC M (M.1 13 e.toNatClampNeg).toInt w < d (wB M w) then 1 else p4) (nI w) ((M.1 9 w + M.1 13 e.toNatClampNeg - 1) / M.1 13 e.toNatClampNeg) M2 ∧ oFr [10, 93] [] M M2 ∧ roS M2 93 (M.1 6 5).toInt.toNat (rlx d (wA M w) (wB M w) (wC M (M.1 13 e.toNatClampNeg).toInt w)) := by
  have hW := hg.2.1.2
  have hP := hg.1.2
  have h6 := hge.1.2.2
  have ne : e.toNatClampNeg = e.toInt.toNat := rfl
  obtain ⟨-, -, s0, s1⟩ := hge.2.2.1 e.toNatClampNeg (by omega)
  obtain ⟨g1, g2, -, -, -⟩ := hg.2.2.2 w (by omega)
  have gc := wC_b hg s0 s1 hw
  have et := wT hg s0 s1 hw
  have ew : (nI w).toInt = w := nI_toInt (by omega)
  have hx : ∀ A : Option (Int32 × oM), oIx (nI w) 20 A = A := fun A => oIx_p (by omega) (by omega)
  have hxe : ∀ A : Option (Int32 × oM), oIx e 6 A = A := fun A => oIx_p (by omega) (by omega)
  have hx7 : ∀ A : Option (Int32 × oM), oIx (M.1 7 w) 12 A = A := fun A => oIx_p (by omega) (by omega)
  have hx8 : ∀ A : Option (Int32 × oM), oIx (M.1 8 w) 12 A = A := fun A => oIx_p (by omega) (by omega)
  have hz : ∀ A : Option (Int32 × oM), oNz (M.1 13 e.toNatClampNeg) A = A := fun A => by
    unfold oNz
    rw [if_neg (by rw [oEqI, tl_0]; omega)]
  have e64 : M1.1 64 w = M.1 7 w := by rw [F.1 64 (by decide) (by decide)]; exact (hg.2.2.1 w (by omega)).1
  have e65 : M1.1 65 w = M.1 8 w := by rw [F.1 65 (by decide) (by decide)]; exact (hg.2.2.1 w (by omega)).2.1
  have e66 : M1.1 66 w = M.1 9 w := by rw [F.1 66 (by decide) (by decide)]; exact (hg.2.2.1 w (by omega)).2.2
  have e68 : M1.1 68 e.toNatClampNeg = M.1 13 e.toNatClampNeg := by rw [F.1 68 (by decide) (by decide)]; exact (hge.2.1 e.toNatClampNeg (by omega)).2.1
  have e7 : M1.1 59 7 = M.1 6 6 := by rw [F.2.1 7 (by decide)]; exact hg.2.1.1
  have u := up93 (by omega) F hd rg (a := M.1 7 w) (b := M.1 8 w) (c := (M.1 9 w + M.1 13 e.toNatClampNeg - 1) / M.1 13 e.toNatClampNeg) (by omega) (by omega) (by omega) (by omega) (by omega) (by omega)
  rw [f_X12_soon_78]
  dsimp only
  rw [e7, if_neg (by rw [oLeI, ew]; omega)]
  simp only [nI_n (show w < 2147483648 by omega), hx, hxe, e64, e65, e66, e68, hx7, hx8, hz]
  have a7 : (M.1 7 w).toNatClampNeg = wA M w := rfl
  have a8 : (M.1 8 w).toNatClampNeg = wB M w := rfl
  rw [a7, a8] at u ⊢
  rw [et] at u
  by_cases q : d (wA M w) + wC M (M.1 13 e.toNatClampNeg).toInt w < d (wB M w)
  · rw [if_neg (fun z => u.1.mp z q), if_pos q]
    exact ⟨_, rfl, u.2 q⟩
  · rw [if_pos (u.1.mpr q), if_neg q]
    exact ⟨M1, rfl, F, by rw [rlx_n q]; exact hd⟩
