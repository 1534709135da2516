/-! the most: a laying taken to be searched -/
def wnM (s : Nat → Int32) : Nat → Nat
  | 0 => 0
  | k + 1 => if s k = 1 then wnM s k + 1 else wnM s k
def enM (s : Nat → Int32) : Nat → Nat
  | 0 => 0
  | k + 1 => if s k = 0 then enM s k + 1 else enM s k
def wpM (s : Nat → Int32) : Nat → Nat → Nat
  | 0, _ => 0
  | k + 1, w => if s k = 1 ∧ w = wnM s k then k else wpM s k w
def epM (s : Nat → Int32) : Nat → Nat → Nat
  | 0, _ => 0
  | k + 1, e => if s k = 0 ∧ e = enM s k then k else epM s k e
def tbM (s : Nat → Int32) : Nat → Nat → Nat
  | 0, _ => 0
  | k + 1, w => if (¬ s k = 0 ∧ ¬ s k = 1) ∧ w = wnM s k then tbM s k w + 1 else tbM s k w
def DkV (M : oM) (l k : Nat) : sDt := (M.1 (oLy l) 1, wnM (M.1 (oLy l + 1)) k, enM (M.1 (oLy l + 1)) k, fun w => (M.1 9 (M.1 (oLy l + 2) (wpM (M.1 (oLy l + 1)) k w)).toInt.toNat).toInt, fun w => htV M (M.1 (oLy l + 4) (wpM (M.1 (oLy l + 1)) k w)) - htV M (prevP M l (wpM (M.1 (oLy l + 1)) k w)), tbM (M.1 (oLy l + 1)) k, fun e => (M.1 (oLy l + 2) (epM (M.1 (oLy l + 1)) k e)).toInt.toNat)
theorem wn_m (s : Nat → Int32) (k : Nat) : ∀ j, wnM s k ≤ wnM s (k + j) ∧ enM s k ≤ enM s (k + j) := by
  intro j
  induction j with
  | zero => exact ⟨Nat.le_refl _, Nat.le_refl _⟩
  | succ j ih =>
    rw [← Nat.add_assoc, wnM, enM]
    constructor
    · split <;> omega
    · split <;> omega
theorem tb_0 (s : Nat → Int32) : ∀ k w, wnM s k < w → tbM s k w = 0 := by
  intro k
  induction k with
  | zero => intro w _; rfl
  | succ k ih =>
    intro w hw
    have h1 := (wn_m s k 1).1
    rw [tbM, if_neg (by omega)]
    exact ih w (by omega)
theorem wp_ok (s : Nat → Int32) : ∀ k w, w < wnM s k → wpM s k w < k ∧ s (wpM s k w) = 1 ∧ wnM s (wpM s k w) = w := by
  intro k
  induction k with
  | zero => intro w h; exact absurd h (Nat.not_lt_zero _)
  | succ k ih =>
    intro w hw
    rw [wnM] at hw
    rw [wpM]
    by_cases c : s k = 1 ∧ w = wnM s k
    · rw [if_pos c]
      exact ⟨by omega, c.1, c.2.symm⟩
    · rw [if_neg c]
      have : w < wnM s k := by
        by_cases z : s k = 1
        · rw [if_pos z] at hw
          have : ¬ w = wnM s k := fun y => c ⟨z, y⟩
          omega
        · rw [if_neg z] at hw
          exact hw
      have := ih w this
      exact ⟨by omega, this.2⟩
theorem ep_ok (s : Nat → Int32) : ∀ k e, e < enM s k → epM s k e < k ∧ s (epM s k e) = 0 := by
  intro k
  induction k with
  | zero => intro e h; exact absurd h (Nat.not_lt_zero _)
  | succ k ih =>
    intro e he
    rw [enM] at he
    rw [epM]
    by_cases c : s k = 0 ∧ e = enM s k
    · rw [if_pos c]
      exact ⟨by omega, c.1⟩
    · rw [if_neg c]
      have : e < enM s k := by
        by_cases z : s k = 0
        · rw [if_pos z] at he
          have : ¬ e = enM s k := fun y => c ⟨z, y⟩
          omega
        · rw [if_neg z] at he
          exact he
      have := ih e this
      exact ⟨by omega, this.2⟩
theorem smT_e {t t' : Nat → Nat} : ∀ k, (∀ i, i < k → t i = t' i) → smT t k = smT t' k := by
  intro k
  induction k with
  | zero => intro _; rfl
  | succ k ih =>
    intro h
    rw [smT, smT, ih (fun i hi => h i (by omega)), h k (by omega)]
theorem sm_k (s : Nat → Int32) : ∀ k, smT (tbM s k) (wnM s k + 1) + wnM s k + enM s k = k := by
  intro k
  induction k with
  | zero => rfl
  | succ k ih =>
    have z10 : ¬ (1 : Int32) = 0 := by decide
    by_cases c1 : s k = 1
    · have e1 : wnM s (k + 1) = wnM s k + 1 := by rw [wnM, if_pos c1]
      have e2 : enM s (k + 1) = enM s k := by rw [enM, if_neg (by rw [c1]; decide)]
      have e3 : ∀ w, tbM s (k + 1) w = tbM s k w := fun w => by rw [tbM, if_neg (fun q => q.1.2 c1)]
      have e4 := tb_0 s k (wnM s k + 1) (by omega)
      rw [e1, e2, smT, e3, e4, smT_e _ (fun i _ => e3 i)]
      omega
    · have e1 : wnM s (k + 1) = wnM s k := by rw [wnM, if_neg c1]
      by_cases c0 : s k = 0
      · have e2 : enM s (k + 1) = enM s k + 1 := by rw [enM, if_pos c0]
        have e3 : ∀ w, tbM s (k + 1) w = tbM s k w := fun w => by rw [tbM, if_neg (fun q => q.1.1 c0)]
        rw [e1, e2, smT_e _ (fun i _ => e3 i)]
        omega
      · have e2 : enM s (k + 1) = enM s k := by rw [enM, if_neg c0]
        have e3 : ∀ w, w < wnM s k → tbM s (k + 1) w = tbM s k w := fun w hw => by rw [tbM, if_neg (by omega)]
        have e4 : tbM s (k + 1) (wnM s k) = tbM s k (wnM s k) + 1 := by rw [tbM, if_pos ⟨⟨c0, c1⟩, rfl⟩]
        rw [smT] at ih
        rw [e1, e2, smT, e4, smT_e _ e3]
        omega
theorem okD_k {M : oM} {l : Nat} (hg : iGnd M) (hge : iGear M) (hs : iSet M) (hy : iLay1 M l) {k : Nat} (hk : (k : Int) ≤ (M.1 (oLy l) 7).toInt) (hw : wnM (M.1 (oLy l + 1)) k ≤ 6) (he : enM (M.1 (oLy l + 1)) k ≤ 4) : okD (DkV M l k) := by
  have h24 := hy.2.2.1.2.2
  have h12 := hg.1.2.2
  refine ⟨hw, he, fun w hw' => ?_, fun e he' => ?_, ?_⟩
  · have q := wp_ok (M.1 (oLy l + 1)) k w hw'
    obtain ⟨-, e1, ho⟩ := hy.2.2.2.2 (wpM (M.1 (oLy l + 1)) k w) (by omega)
    have hp := pt_k hy (k := wpM (M.1 (oLy l + 1)) k w) (by omega)
    have ho' : 0 ≤ (M.1 (oLy l + 2) (wpM (M.1 (oLy l + 1)) k w)).toInt ∧ (M.1 (oLy l + 2) (wpM (M.1 (oLy l + 1)) k w)).toInt < (M.1 6 6).toInt := by
      rcases ho with ⟨z, -⟩ | ⟨-, z, -⟩ | ⟨z, -⟩
      · rw [q.2.1] at z; exact absurd z (by decide)
      · exact z
      · rw [q.2.1] at z; exact absurd z (by decide)
    have gw := hg.2.2.2 (M.1 (oLy l + 2) (wpM (M.1 (oLy l + 1)) k w)).toInt.toNat (by omega)
    have v1 := hs.2.2.1 (9 + (M.1 (oLy l + 4) (wpM (M.1 (oLy l + 1)) k w)).toInt.toNat) (by omega)
    have v2 := hs.2.2.1 (9 + (prevP M l (wpM (M.1 (oLy l + 1)) k w)).toInt.toNat) (by omega)
    unfold iVal at v1 v2
    have a1 : sL (DkV M l k) w = (M.1 9 (M.1 (oLy l + 2) (wpM (M.1 (oLy l + 1)) k w)).toInt.toNat).toInt := rfl
    have a2 : sC (DkV M l k) w = htV M (M.1 (oLy l + 4) (wpM (M.1 (oLy l + 1)) k w)) - htV M (prevP M l (wpM (M.1 (oLy l + 1)) k w)) := rfl
    rw [a1, a2]
    unfold htV
    omega
  · have q := ep_ok (M.1 (oLy l + 1)) k e he'
    obtain ⟨-, e1, ho⟩ := hy.2.2.2.2 (epM (M.1 (oLy l + 1)) k e) (by omega)
    have h6 := hge.1.2.2
    have ho' : 0 ≤ (M.1 (oLy l + 2) (epM (M.1 (oLy l + 1)) k e)).toInt ∧ (M.1 (oLy l + 2) (epM (M.1 (oLy l + 1)) k e)).toInt < (M.1 11 6).toInt := by
      rcases ho with ⟨-, z, -⟩ | ⟨z, -⟩ | ⟨z, -⟩
      · exact z
      · rw [q.2] at z; exact absurd z (by decide)
      · rw [q.2] at z; exact absurd z (by decide)
    show (M.1 (oLy l + 2) (epM (M.1 (oLy l + 1)) k e)).toInt.toNat < 6
    omega
  · have := sm_k (M.1 (oLy l + 1)) k
    show smT (tbM (M.1 (oLy l + 1)) k) (wnM (M.1 (oLy l + 1)) k + 1) + wnM (M.1 (oLy l + 1)) k + enM (M.1 (oLy l + 1)) k ≤ 24
    omega
theorem sHas_k {M M2 : oM} {l k : Nat} : sHas M2 (DkV M l k) ↔ (M2.1 28 10 = M.1 (oLy l) 1 ∧ M2.1 28 11 = nI (wnM (M.1 (oLy l + 1)) k) ∧ M2.1 28 12 = nI (enM (M.1 (oLy l + 1)) k)) ∧ (∀ w, w < wnM (M.1 (oLy l + 1)) k → M2.1 29 w = iI (M.1 9 (M.1 (oLy l + 2) (wpM (M.1 (oLy l + 1)) k w)).toInt.toNat).toInt ∧ M2.1 30 w = iI (43 * (htV M (M.1 (oLy l + 4) (wpM (M.1 (oLy l + 1)) k w)) - htV M (prevP M l (wpM (M.1 (oLy l + 1)) k w))))) ∧ (∀ w, w ≤ wnM (M.1 (oLy l + 1)) k → M2.1 31 w = if 0 < tbM (M.1 (oLy l + 1)) k w then 1 else 0) ∧ ∀ e, e < enM (M.1 (oLy l + 1)) k → M2.1 32 e = nI (M.1 (oLy l + 2) (epM (M.1 (oLy l + 1)) k e)).toInt.toNat := Iff.rfl
theorem tb_s {s : Nat → Int32} {k w : Nat} (h : ¬ ((¬ s k = 0 ∧ ¬ s k = 1) ∧ w = wnM s k)) : tbM s (k + 1) w = tbM s k w := by rw [tbM, if_neg h]
theorem tb_p {s : Nat → Int32} {k w : Nat} (h : (¬ s k = 0 ∧ ¬ s k = 1) ∧ w = wnM s k) : tbM s (k + 1) w = tbM s k w + 1 := by rw [tbM, if_pos h]
theorem nbo1 : vp_nar .boolean (1 : Int32) = 1 := by decide
theorem nbo0 : vp_nar .boolean (0 : Int32) = 0 := by decide
theorem tkp7 {N : Nat} {K : oK} {M : oM} {l : Nat} (hg : iGnd M) (hy : iLay1 M l) {k : Nat} (hk : (k : Int) < (M.1 (oLy l) 7).toInt) {M1 : oM} (F : oFr [28, 29, 30, 31, 32] [] M M1) (hS : sHas M1 (DkV M l k)) (hw : wnM (M.1 (oLy l + 1)) k ≤ 6) (he : enM (M.1 (oLy l + 1)) k ≤ 4) :
    ∃ b M2, f_X7_takePart N K (oLy l) (nI k) M1 = some (b, M2) ∧ oFr [28, 29, 30, 31, 32] [] M M2 ∧ (b = true ↔ wnM (M.1 (oLy l + 1)) (k + 1) ≤ 6 ∧ enM (M.1 (oLy l + 1)) (k + 1) ≤ 4) ∧ (b = true → sHas M2 (DkV M l (k + 1))) := by
  have h24 := hy.2.2.1.2.2
  have h12 := hg.1.2.2
  have ek : (nI k).toInt = k := nI_toInt (by omega)
  obtain ⟨y0, y1, y2, y3, y4⟩ := fr_lay (l := l) F (by decide)
  obtain ⟨s1, s2, s3, s4⟩ := sHas_k.mp hS
  obtain ⟨-, he4, ho⟩ := hy.2.2.2.2 k hk
  have hx : ∀ A : Option (Bool × oM), oIx (nI k) 24 A = A := fun A => oIx_p (by omega) (by omega)
  have ew : (nI (wnM (M.1 (oLy l + 1)) k)).toInt = wnM (M.1 (oLy l + 1)) k := nI_toInt (by omega)
  have ee : (nI (enM (M.1 (oLy l + 1)) k)).toInt = enM (M.1 (oLy l + 1)) k := nI_toInt (by omega)
  unfold f_X7_takePart
  rw [hx, hx, nI_n (by omega), y1, s1.2.1, s1.2.2]
  rcases ho with ⟨q1, q2, -⟩ | ⟨q1, q2, q3, -⟩ | ⟨q1, -⟩
  · -- an engine
    have e1 : wnM (M.1 (oLy l + 1)) (k + 1) = wnM (M.1 (oLy l + 1)) k := by rw [wnM, if_neg (by rw [q1]; decide)]
    have e2 : enM (M.1 (oLy l + 1)) (k + 1) = enM (M.1 (oLy l + 1)) k + 1 := by rw [enM, if_pos q1]
    rw [if_neg (by rw [q1]; decide), hx, if_pos q1]
    by_cases c : enM (M.1 (oLy l + 1)) k < 4
    · rw [if_pos (by rw [oLtI, ee, tl_4]; omega), oIx_p (by omega) (by omega), nI_n (by omega), oUp_ro _ _ _ _ (show (28 : Nat) ≠ 32 by decide), s1.2.2, nI_1, y2]
      refine ⟨true, _, rfl, .up (by decide) (.up (by decide) F), ⟨fun _ => ⟨by omega, by omega⟩, fun _ => rfl⟩, fun _ => sHas_k.mpr ⟨⟨?_, ?_, ?_⟩, fun w hw' => ?_, fun w hw' => ?_, fun e he' => ?_⟩⟩
      · rw [oUp_at, if_neg (by omega), oUp_at, if_neg (by omega)]
        exact s1.1
      · rw [oUp_at, if_neg (by omega), oUp_at, if_neg (by omega), e1]
        exact s1.2.1
      · rw [oUp_at, if_pos ⟨rfl, rfl⟩, e2]
      · rw [e1] at hw'
        rw [oUp_ro _ _ _ _ (show (29 : Nat) ≠ 28 by decide), oUp_ro _ _ _ _ (show (29 : Nat) ≠ 32 by decide), oUp_ro _ _ _ _ (show (30 : Nat) ≠ 28 by decide), oUp_ro _ _ _ _ (show (30 : Nat) ≠ 32 by decide), wpM, if_neg (fun z => by rw [q1] at z; exact absurd z.1 (by decide))]
        exact s2 w hw'
      · rw [e1] at hw'
        rw [oUp_ro _ _ _ _ (show (31 : Nat) ≠ 28 by decide), oUp_ro _ _ _ _ (show (31 : Nat) ≠ 32 by decide), tb_s (fun z => z.1.1 q1)]
        exact s3 w hw'
      · rw [e2] at he'
        rw [oUp_ro _ _ _ _ (show (32 : Nat) ≠ 28 by decide), oUp_at, epM]
        by_cases z : e = enM (M.1 (oLy l + 1)) k
        · rw [if_pos ⟨rfl, z⟩, if_pos ⟨q1, z⟩]
          exact oNI (by omega)
        · rw [if_neg (fun y => z y.2), if_neg (fun y => z y.2)]
          exact s4 e (by omega)
    · rw [if_neg (by rw [oLtI, ee, tl_4]; omega)]
      exact ⟨false, M1, rfl, F, ⟨fun z => absurd z (by decide), fun z => by omega⟩, fun z => absurd z (by decide)⟩
  · -- a way
    have e1 : wnM (M.1 (oLy l + 1)) (k + 1) = wnM (M.1 (oLy l + 1)) k + 1 := by rw [wnM, if_pos q1]
    have e2 : enM (M.1 (oLy l + 1)) (k + 1) = enM (M.1 (oLy l + 1)) k := by rw [enM, if_neg (by rw [q1]; decide)]
    have hp := pt_k hy (k := k) (by omega)
    rw [if_neg (by rw [q1]; decide), hx, if_neg (by rw [q1]; decide)]
    by_cases c : wnM (M.1 (oLy l + 1)) k < 6
    · have w20 := hg.2.1.2.2
      have x6 : ∀ A : Option (Bool × oM), oIx (nI (wnM (M.1 (oLy l + 1)) k)) 6 A = A := fun A => oIx_p (by omega) (by omega)
      have x7 : ∀ A : Option (Bool × oM), oIx (nI (wnM (M.1 (oLy l + 1)) k + 1)) 7 A = A := fun A => oIx_p (by rw [nI_toInt (by omega)]; omega) (by rw [nI_toInt (by omega)]; omega)
      have G2 : oFr [28, 29, 30, 31, 32] [] M (oUp M1 29 (wnM (M.1 (oLy l + 1)) k) (M.1 9 (M.1 (oLy l + 2) k).toInt.toNat)) := .up (by decide) F
      obtain ⟨g0, g1, g2, g3, g4⟩ := fr_lay (l := l) G2 (by decide)
      have epv : prevP (oUp M1 29 (wnM (M.1 (oLy l + 1)) k) (M.1 9 (M.1 (oLy l + 2) k).toInt.toNat)) l k = prevP M l k := by
        unfold prevP
        rw [g0, g4]
      rw [if_pos (by rw [oLtI, ew, tl_6]; omega), y2, len4 q2.1 (by rw [F.1 6 (by decide) (by decide)]; exact q2.2) (by rw [F.1 6 (by decide) (by decide)]; exact w20), oB2_p, x6, nI_n (by omega), F.1 9 (by decide) (by decide), pah6 (by rw [g0]; omega) (by rw [g0]; omega), oB2_p, hx, epv, g4, fee4 hp.1 (by omega) he4.1 (by omega), oB2_p, oUp_ro _ _ _ _ (show (28 : Nat) ≠ 29 by decide), s1.2.1, x6, nI_n (by omega), G2.1 2 (by decide) (by decide)]
      generalize hM3 : oUp (oUp M1 29 (wnM (M.1 (oLy l + 1)) k) (M.1 9 (M.1 (oLy l + 2) k).toInt.toNat)) 30 (wnM (M.1 (oLy l + 1)) k) (43 * (M.1 2 (9 + (M.1 (oLy l + 4) k).toInt.toNat) - M.1 2 (9 + (prevP M l k).toInt.toNat))) = M3
      have F3 : oFr [28, 29, 30, 31, 32] [] M M3 := by
        rw [← hM3]
        exact .up (by decide) G2
      have m28 : ∀ j, M3.1 28 j = M1.1 28 j := fun j => by rw [← hM3, oUp_ro _ _ _ _ (by decide), oUp_ro _ _ _ _ (by decide)]
      have m31 : ∀ j, M3.1 31 j = M1.1 31 j := fun j => by rw [← hM3, oUp_ro _ _ _ _ (by decide), oUp_ro _ _ _ _ (by decide)]
      have m32 : ∀ j, M3.1 32 j = M1.1 32 j := fun j => by rw [← hM3, oUp_ro _ _ _ _ (by decide), oUp_ro _ _ _ _ (by decide)]
      have m29 : ∀ j, M3.1 29 j = if j = wnM (M.1 (oLy l + 1)) k then M.1 9 (M.1 (oLy l + 2) k).toInt.toNat else M1.1 29 j := fun j => by
        rw [← hM3, oUp_ro _ _ _ _ (by decide), oUp_at]
        by_cases z : j = wnM (M.1 (oLy l + 1)) k
        · rw [if_pos ⟨rfl, z⟩, if_pos z]
        · rw [if_neg (fun y => z y.2), if_neg z]
      have m30 : ∀ j, M3.1 30 j = if j = wnM (M.1 (oLy l + 1)) k then iI (43 * (htV M (M.1 (oLy l + 4) k) - htV M (prevP M l k))) else M1.1 30 j := fun j => by
        rw [← hM3, oUp_at]
        by_cases z : j = wnM (M.1 (oLy l + 1)) k
        · rw [if_pos ⟨rfl, z⟩, if_pos z, ← iI_mul, ← iI_sub]
          unfold htV
          rw [iI_self, iI_self]
          rfl
        · rw [if_neg (fun y => z y.2), if_neg z, oUp_ro _ _ _ _ (by decide)]
      simp only [m28, s1.2.1, oUp_at, and_self, if_true, nI_1, x7, nI_n (show wnM (M.1 (oLy l + 1)) k + 1 < 2147483648 by omega), nbo0]
      refine ⟨true, _, rfl, .up (by decide) (.up (by decide) F3), ⟨fun _ => ⟨by omega, by omega⟩, fun _ => rfl⟩, fun _ => sHas_k.mpr ⟨⟨?_, ?_, ?_⟩, fun w hw' => ?_, fun w hw' => ?_, fun e he' => ?_⟩⟩
      · rw [oUp_at, if_neg (by omega), oUp_at, if_neg (by omega), m28]
        exact s1.1
      · rw [oUp_at, if_neg (by omega), oUp_at, if_pos ⟨rfl, rfl⟩, e1]
      · rw [oUp_at, if_neg (by omega), oUp_at, if_neg (by omega), m28, e2]
        exact s1.2.2
      · rw [e1] at hw'
        rw [oUp_ro _ _ _ _ (show (29 : Nat) ≠ 31 by decide), oUp_ro _ _ _ _ (show (29 : Nat) ≠ 28 by decide), oUp_ro _ _ _ _ (show (30 : Nat) ≠ 31 by decide), oUp_ro _ _ _ _ (show (30 : Nat) ≠ 28 by decide), m29, m30, wpM]
        by_cases z : w = wnM (M.1 (oLy l + 1)) k
        · rw [if_pos z, if_pos z, if_pos ⟨q1, z⟩, iI_self]
          exact ⟨rfl, rfl⟩
        · rw [if_neg z, if_neg z, if_neg (fun y => z y.2)]
          exact s2 w (by omega)
      · rw [e1] at hw'
        rw [oUp_at, oUp_ro _ _ _ _ (show (31 : Nat) ≠ 28 by decide), m31, tb_s (fun z => z.1.2 q1)]
        by_cases z : w = wnM (M.1 (oLy l + 1)) k + 1
        · rw [if_pos ⟨rfl, z⟩, if_neg (by rw [tb_0 _ k w (by omega)]; omega)]
        · rw [if_neg (fun y => z y.2)]
          exact s3 w (by omega)
      · rw [e2] at he'
        rw [oUp_ro _ _ _ _ (show (32 : Nat) ≠ 31 by decide), oUp_ro _ _ _ _ (show (32 : Nat) ≠ 28 by decide), m32, epM, if_neg (fun z => by rw [q1] at z; exact absurd z.1 (by decide))]
        exact s4 e he'
    · rw [if_neg (by rw [oLtI, ew, tl_6]; omega)]
      exact ⟨false, M1, rfl, F, ⟨fun z => absurd z (by decide), fun z => by omega⟩, fun z => absurd z (by decide)⟩
  · -- a tub
    have e1 : wnM (M.1 (oLy l + 1)) (k + 1) = wnM (M.1 (oLy l + 1)) k := by rw [wnM, if_neg (by rw [q1]; decide)]
    have e2 : enM (M.1 (oLy l + 1)) (k + 1) = enM (M.1 (oLy l + 1)) k := by rw [enM, if_neg (by rw [q1]; decide)]
    rw [if_pos q1, oIx_p (by omega) (by omega), nI_n (by omega), nbo1]
    refine ⟨true, _, rfl, .up (by decide) F, ⟨fun _ => ⟨by omega, by omega⟩, fun _ => rfl⟩, fun _ => sHas_k.mpr ⟨⟨?_, ?_, ?_⟩, fun w hw' => ?_, fun w hw' => ?_, fun e he' => ?_⟩⟩
    · rw [oUp_at, if_neg (by omega)]
      exact s1.1
    · rw [oUp_at, if_neg (by omega), e1]
      exact s1.2.1
    · rw [oUp_at, if_neg (by omega), e2]
      exact s1.2.2
    · rw [e1] at hw'
      rw [oUp_ro _ _ _ _ (show (29 : Nat) ≠ 31 by decide), oUp_ro _ _ _ _ (show (30 : Nat) ≠ 31 by decide), wpM, if_neg (fun z => by rw [q1] at z; exact absurd z.1 (by decide))]
      exact s2 w hw'
    · rw [e1] at hw'
      rw [oUp_at]
      by_cases z : w = wnM (M.1 (oLy l + 1)) k
      · rw [if_pos ⟨rfl, z⟩, tb_p ⟨⟨by rw [q1]; decide, by rw [q1]; decide⟩, z⟩, if_pos (by omega)]
      · rw [if_neg (fun y => z y.2), tb_s (fun y => z y.2)]
        exact s3 w hw'
    · rw [e2] at he'
      rw [oUp_ro _ _ _ _ (show (32 : Nat) ≠ 31 by decide), epM, if_neg (fun z => by rw [q1] at z; exact absurd z.1 (by decide))]
      exact s4 e he'
theorem take7 {N : Nat} (hN : 100 ≤ N) {K : oK} {M : oM} {l : Nat} (hg : iGnd M) (hy : iLay1 M l) : ∃ b M2, f_X7_take N K (oLy l) M = some (b, M2) ∧ oFr [28, 29, 30, 31, 32] [] M M2 ∧ (b = true ↔ wnM (M.1 (oLy l + 1)) (M.1 (oLy l) 7).toInt.toNat ≤ 6 ∧ enM (M.1 (oLy l + 1)) (M.1 (oLy l) 7).toInt.toNat ≤ 4) ∧ (b = true → sHas M2 (DkV M l (M.1 (oLy l) 7).toInt.toNat)) := by
  have h24 := hy.2.2.1.2
  have loop : ∀ (n k : Nat) (M1 : oM), (k : Int) ≤ (M.1 (oLy l) 7).toInt → (M.1 (oLy l) 7).toInt < k + n → oFr [28, 29, 30, 31, 32] [] M M1 → sHas M1 (DkV M l k) → wnM (M.1 (oLy l + 1)) k ≤ 6 → enM (M.1 (oLy l + 1)) k ≤ 4 → ∃ b M2, f_X7_take_27 N K n (oLy l) (nI k) M1 = some (b, M2) ∧ oFr [28, 29, 30, 31, 32] [] M M2 ∧ (b = true ↔ wnM (M.1 (oLy l + 1)) (M.1 (oLy l) 7).toInt.toNat ≤ 6 ∧ enM (M.1 (oLy l + 1)) (M.1 (oLy l) 7).toInt.toNat ≤ 4) ∧ (b = true → sHas M2 (DkV M l (M.1 (oLy l) 7).toInt.toNat)) := by
    intro n
    induction n with
    | zero => intro k M1 h1 h2; omega
    | succ n ih =>
      intro k M1 h1 h2 F hS hw he
      have ek : (nI k).toInt = k := nI_toInt (by omega)
      obtain ⟨y0, -⟩ := fr_lay (l := l) F (by decide)
      rw [f_X7_take_27]
      dsimp only
      rw [y0]
      by_cases c : (k : Int) = (M.1 (oLy l) 7).toInt
      · rw [if_pos (by rw [oLeI, ek]; omega)]
        have ek2 : k = (M.1 (oLy l) 7).toInt.toNat := by omega
        rw [← ek2]
        exact ⟨true, M1, rfl, F, ⟨fun _ => ⟨hw, he⟩, fun _ => rfl⟩, fun _ => hS⟩
      · rw [if_neg (by rw [oLeI, ek]; omega)]
        obtain ⟨b, M2, a1, a2, a3, a4⟩ := tkp7 (N := N) (K := K) hg hy (k := k) (by omega) F hS hw he
        rw [a1, oB2_p, nI_1]
        cases b with
        | true =>
          rw [cond_true]
          have a3' := a3.mp rfl
          exact ih (k + 1) M2 (by omega) (by omega) a2 (a4 rfl) a3'.1 a3'.2
        | false =>
          rw [cond_false]
          refine ⟨false, M2, rfl, a2, ⟨fun z => absurd z (by decide), fun z => ?_⟩, fun z => absurd z (by decide)⟩
          have m := wn_m (M.1 (oLy l + 1)) (k + 1) ((M.1 (oLy l) 7).toInt.toNat - (k + 1))
          rw [show k + 1 + ((M.1 (oLy l) 7).toInt.toNat - (k + 1)) = (M.1 (oLy l) 7).toInt.toNat by omega] at m
          exact a3.mpr ⟨by omega, by omega⟩
  unfold f_X7_take
  rw [oIx_p (by decide) (by decide)]
  refine loop N 0 _ (by omega) (by omega) (.up (by decide) (.up (by decide) (.up (by decide) (.up (by decide) .rf)))) (sHas_k.mpr ⟨⟨?_, ?_, ?_⟩, fun w hw => absurd hw (Nat.not_lt_zero _), fun w hw => ?_, fun e he => absurd he (Nat.not_lt_zero _)⟩) (Nat.zero_le _) (Nat.zero_le _)
  · rw [oUp_at, if_neg (by omega), oUp_at, if_neg (by omega), oUp_at, if_neg (by omega), oUp_at, if_pos ⟨rfl, rfl⟩]
  · rw [oUp_at, if_neg (by omega), oUp_at, if_neg (by omega), oUp_at, if_pos ⟨rfl, rfl⟩]
    rfl
  · rw [oUp_at, if_neg (by omega), oUp_at, if_pos ⟨rfl, rfl⟩]
    rfl
  · have : w = 0 := Nat.le_zero.mp hw
    subst this
    rw [oUp_at, if_pos ⟨rfl, rfl⟩, nbo0]
    rfl
