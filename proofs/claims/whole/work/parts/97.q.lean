/-! the most: the search in the memory -/
def sHas (M : oM) (D : sDt) : Prop := (M.1 28 10 = sK D ∧ M.1 28 11 = nI (sW D) ∧ M.1 28 12 = nI (sE D)) ∧ (∀ w, w < sW D → M.1 29 w = iI (sL D w) ∧ M.1 30 w = iI (43 * sC D w)) ∧ (∀ w, w ≤ sW D → M.1 31 w = if 0 < sT D w then 1 else 0) ∧ ∀ e, e < sE D → M.1 32 e = nI (sG D e)
theorem sHas.eq {M M' : oM} {D : sDt} (h : sHas M D) (e28 : M'.1 28 10 = M.1 28 10 ∧ M'.1 28 11 = M.1 28 11 ∧ M'.1 28 12 = M.1 28 12) (e29 : M'.1 29 = M.1 29) (e30 : M'.1 30 = M.1 30) (e31 : M'.1 31 = M.1 31) (e32 : M'.1 32 = M.1 32) : sHas M' D := by
  unfold sHas
  rw [e28.1, e28.2.1, e28.2.2, e29, e30, e31, e32]
  exact h
abbrev fWe (M M' : oM) : Prop := oFr [33, 34, 36] [] M M'
def drOk (D : sDt) (ls : Nat → Int → Int) (f : Int) (M1 : oM) (b u : Nat) : Prop := M1.1 34 (3 * u + b) = iI (sL D u * ls b f + 43 * sC D u) ∧ M1.1 34 (18 + 3 * u + b) = iI (sL D u * ls b ((f + 1) / 2) + 43 * sC D u)
def wgOk (D : sDt) (ls : Nat → Int → Int) (f : Int) (b w : Nat) (M1 : oM) : Prop := ∀ b' u, b' < 3 → u < sW D → (b' < b ∨ (b' = b ∧ u < w)) → drOk D ls f M1 b' u
theorem ix34 : ∀ w, w < 6 → ∀ b, b < 3 → ((nI w * 3) + nI b) = nI (3 * w + b) ∧ ((((6 : Int32) + nI w) * 3) + nI b) = nI (18 + 3 * w + b) := by decide +kernel
theorem wg90 {N : Nat} {K : oK} {M : oM} {D : sDt} (hD : okD D) (hS : sHas M D) (r : Int32 → Int32 → oM → Option (Unit × oM)) (p1 : Int32) {b : Nat} (hb : b < 3) {ls : Nat → Int → Int} {f : Int} : ∀ (n w : Nat) (M1 : oM), w ≤ sW D → sW D < w + n → fWe M M1 → wgOk D ls f b w M1 → ∃ M2, f_X7_weigh_90 N K r n p1 (nI b) (iI (ls b f)) (iI (ls b ((f + 1) / 2))) (nI w) M1 = r p1 (nI (b + 1)) M2 ∧ fWe M M2 ∧ wgOk D ls f (b + 1) 0 M2 ∧ M2.1 33 = M1.1 33 ∧ M2.1 36 = M1.1 36 := by
  have h6 := hD.1
  intro n
  induction n with
  | zero => intro w M1 h1 h2; omega
  | succ n ih =>
    intro w M1 h1 h2 F hw
    have ew : (nI w).toInt = w := nI_toInt (by omega)
    have eW : (nI (sW D)).toInt = sW D := nI_toInt (by omega)
    rw [f_X7_weigh_90]
    dsimp only
    rw [F.1 28 (by decide) (by decide), hS.1.2.1]
    by_cases c : w = sW D
    · rw [if_pos (by rw [oLeI, ew, eW]; omega), nI_1]
      exact ⟨M1, rfl, F, fun b' u q1 q2 q3 => hw b' u q1 q2 (by omega), rfl, rfl⟩
    · have hx : ∀ A : Option (Unit × oM), oIx (nI w) 6 A = A := fun A => oIx_p (by omega) (by omega)
      have i1 := ix34 w (by omega) b hb
      have hx2 : ∀ A : Option (Unit × oM), oIx (nI (3 * w + b)) 36 A = A := fun A => oIx_p (by rw [nI_toInt (by omega)]; omega) (by rw [nI_toInt (by omega)]; omega)
      have hx3 : ∀ A : Option (Unit × oM), oIx (nI (18 + 3 * w + b)) 36 A = A := fun A => oIx_p (by rw [nI_toInt (by omega)]; omega) (by rw [nI_toInt (by omega)]; omega)
      have e29 := (hS.2.1 w (by omega)).1
      have e30 := (hS.2.1 w (by omega)).2
      rw [if_neg (by rw [oLeI, ew, eW]; omega)]
      simp only [hx, i1.1, i1.2, hx2, hx3, nI_n (show w < 2147483648 by omega), nI_n (show 3 * w + b < 2147483648 by omega), nI_n (show 18 + 3 * w + b < 2147483648 by omega), oUp_ro _ _ _ _ (show (29 : Nat) ≠ 34 by decide), oUp_ro _ _ _ _ (show (30 : Nat) ≠ 34 by decide), F.1 29 (by decide) (by decide), F.1 30 (by decide) (by decide), e29, e30, iI_mul, iI_add, nI_1]
      obtain ⟨M2, a1, a2, a3, a4, a5⟩ := ih (w + 1) (oUp (oUp M1 34 (3 * w + b) (iI (sL D w * ls b f + 43 * sC D w))) 34 (18 + 3 * w + b) (iI (sL D w * ls b ((f + 1) / 2) + 43 * sC D w))) (by omega) (by omega) (.up (by decide) (.up (by decide) F)) (fun b' u q1 q2 q3 => by
        unfold drOk
        rw [oUp_at, oUp_at, oUp_at, oUp_at]
        by_cases z : b' = b ∧ u = w
        · rw [z.1, z.2, if_neg (by omega), if_pos ⟨rfl, rfl⟩, if_pos ⟨rfl, rfl⟩]
          exact ⟨rfl, rfl⟩
        · rw [if_neg (by omega), if_neg (by omega), if_neg (by omega), if_neg (by omega)]
          exact hw b' u q1 q2 (by omega))
      refine ⟨M2, a1, a2, a3, ?_, ?_⟩
      · rw [a4, oUp_ro _ _ _ _ (by decide), oUp_ro _ _ _ _ (by decide)]
      · rw [a5, oUp_ro _ _ _ _ (by decide), oUp_ro _ _ _ _ (by decide)]
theorem wg38 {N : Nat} (hN : 100 ≤ N) {K : oK} {M : oM} (hge : iGear M) (hs : iSet M) {D : sDt} (hD : okD D) (hS : sHas M D) {f : Int32} (f0 : 0 ≤ f.toInt) (f1 : f.toInt ≤ 600) : ∀ (n b : Nat) (M1 : oM), b ≤ 3 → 3 < b + n → fWe M M1 → wgOk D (lossV M) f.toInt b 0 M1 → (∀ b', b' < b → M1.1 36 b' = M.1 2 (3 + b')) → ∃ M2, f_X7_weigh_38 N K n f (nI b) M1 = some ((), M2) ∧ fWe M M2 ∧ wgOk D (lossV M) f.toInt 3 0 M2 ∧ (∀ b', b' < 3 → M2.1 36 b' = M.1 2 (3 + b')) ∧ M2.1 33 = M1.1 33 := by
  have h6 := hD.1
  intro n
  induction n with
  | zero => intro b M1 h1 h2; omega
  | succ n ih =>
    intro b M1 h1 h2 F hw h36
    have eb : (nI b).toInt = b := nI_toInt (by omega)
    rw [f_X7_weigh_38]
    dsimp only
    by_cases c : b = 3
    · subst c
      rw [if_pos (by decide)]
      exact ⟨M1, rfl, F, hw, h36, rfl⟩
    · have e3 : (3 + nI b).toInt = 3 + b := by rw [oAdd (by rw [tl_3]; omega) (by rw [tl_3]; omega), tl_3, eb]
      have hx : ∀ A : Option (Unit × oM), oIx (nI b) 3 A = A := fun A => oIx_p (by omega) (by omega)
      have hfh := half1 f0 f1
      rw [if_neg (by rw [oLeI, eb, tl_3]; omega), at8v (by omega) (by omega), oB2_p, hx, e3, nI_n (by omega), show ((3 : Int) + (b : Int)).toNat = 3 + b by omega, F.1 2 (by decide) (by decide)]
      have F2 : fWe M (oUp M1 36 b (M.1 2 (3 + b))) := .up (by decide) F
      obtain ⟨-, eS, -⟩ := eLift F2 (by decide)
      rw [lost3 (hge.fr F2 (by decide) (by decide)) (hs.fr F2 (by decide) (by decide)) (by omega) (by omega) f0 f1, oB2_p, lost3 (hge.fr F2 (by decide) (by decide)) (hs.fr F2 (by decide) (by decide)) (by omega) (by omega) (by omega) (by omega), oB2_p, eS, nI_n (by omega), hfh]
      obtain ⟨M2, a1, a2, a3, a4, a5⟩ := wg90 (N := N) (K := K) hD hS (f_X7_weigh_38 N K n) f (show b < 3 by omega) (ls := lossV M) (f := f.toInt) N 0 (oUp M1 36 b (M.1 2 (3 + b))) (by omega) (by omega) F2 (fun b' u q1 q2 q3 => by
        unfold drOk
        rw [oUp_ro _ _ _ _ (by decide)]
        exact hw b' u q1 q2 q3)
      have a1' : f_X7_weigh_90 N K (f_X7_weigh_38 N K n) N f (nI b) (iI (lossV M b f.toInt)) (iI (lossV M b ((f.toInt + 1) / 2))) 0 (oUp M1 36 b (M.1 2 (3 + b))) = _ := a1
      rw [a1']
      obtain ⟨M3, d1, d2, d3, d4, d5⟩ := ih (b + 1) M2 (by omega) (by omega) a2 a3 (fun b' hb' => by
        rw [a5, oUp_at]
        by_cases z : b' = b
        · rw [if_pos ⟨rfl, z⟩, z]
        · rw [if_neg (fun x => z x.2)]
          exact h36 b' (by omega))
      refine ⟨M3, d1, d2, d3, d4, ?_⟩
      rw [d5, a4, oUp_ro _ _ _ _ (by decide)]
theorem wg2 {N : Nat} {K : oK} {M : oM} (hge : iGear M) {D : sDt} (hD : okD D) (hS : sHas M D) {f : Int32} (f0 : 0 ≤ f.toInt) (f1 : f.toInt ≤ 600) : ∀ (n e : Nat) (M1 : oM), e ≤ sE D → sE D < e + n → fWe M M1 → (∀ x, x < e → M1.1 33 x = iI (liftV M (sG D x) f.toInt)) → ∃ M2, f_X7_weigh_2 N K n f (nI e) M1 = f_X7_weigh_38 N K N f 0 M2 ∧ fWe M M2 ∧ (∀ x, x < sE D → M2.1 33 x = iI (liftV M (sG D x) f.toInt)) := by
  have h4 := hD.2.1
  intro n
  induction n with
  | zero => intro e M1 h1 h2; omega
  | succ n ih =>
    intro e M1 h1 h2 F h33
    have ee : (nI e).toInt = e := nI_toInt (by omega)
    have eE : (nI (sE D)).toInt = sE D := nI_toInt (by omega)
    rw [f_X7_weigh_2]
    dsimp only
    rw [F.1 28 (by decide) (by decide), hS.1.2.2]
    by_cases c : e = sE D
    · rw [if_pos (by rw [oLeI, ee, eE]; omega)]
      rw [c] at h33
      exact ⟨M1, rfl, F, h33⟩
    · have hx : ∀ A : Option (Unit × oM), oIx (nI e) 4 A = A := fun A => oIx_p (by omega) (by omega)
      have hG := hD.2.2.2.1 e (by omega)
      have eG : (nI (sG D e)).toInt = sG D e := nI_toInt (by omega)
      obtain ⟨eL, -, -⟩ := eLift F (by decide)
      rw [if_neg (by rw [oLeI, ee, eE]; omega), hx, nI_n (by omega), F.1 32 (by decide) (by decide), hS.2.2.2 e (by omega), lift3 (hge.fr F (by decide) (by decide)) (by omega) (by omega) f0 f1, oB2_p, hx, nI_1, eL, nI_n (by omega)]
      refine ih (e + 1) _ (by omega) (by omega) (.up (by decide) F) (fun x hx => ?_)
      rw [oUp_at]
      by_cases z : x = e
      · rw [if_pos ⟨rfl, z⟩, z]
      · rw [if_neg (fun y => z y.2)]
        exact h33 x (by omega)
/-- what is weighed at a flow -/
def sWe (M : oM) (D : sDt) (lf ls : Nat → Int → Int) (f : Int) : Prop := (∀ e, e < sE D → M.1 33 e = iI (lf (sG D e) f)) ∧ ∀ b u, b < 3 → u < sW D → drOk D ls f M b u
theorem weigh7 {N : Nat} (hN : 100 ≤ N) {K : oK} {M : oM} (hge : iGear M) (hs : iSet M) {D : sDt} (hD : okD D) (hS : sHas M D) {f : Int32} (f0 : 0 ≤ f.toInt) (f1 : f.toInt ≤ 600) : ∃ M2, f_X7_weigh N K f M = some ((), M2) ∧ fWe M M2 ∧ sWe M2 D (liftV M) (lossV M) f.toInt ∧ ∀ b, b < 3 → M2.1 36 b = M.1 2 (3 + b) := by
  obtain ⟨M1, a1, a2, a3⟩ := wg2 (N := N) (K := K) hge hD hS f0 f1 N 0 M (by omega) (by have := hD.2.1; omega) .rf (fun x hx => by omega)
  obtain ⟨M2, b1, b2, b3, b4, b5⟩ := wg38 hN (K := K) hge hs hD hS f0 f1 N 0 M1 (by omega) (by omega) a2 (fun b' u q1 q2 q3 => by omega) (fun b' hb' => by omega)
  refine ⟨M2, ?_, b2, ⟨fun e he => ?_, fun b u hb hu => b3 b u hb hu (Or.inl hb)⟩, b4⟩
  · unfold f_X7_weigh
    have a1' : f_X7_weigh_2 N K N f 0 M = _ := a1
    have b1' : f_X7_weigh_38 N K N f 0 M1 = _ := b1
    rw [a1', b1']
  · rw [b5]
    exact a3 e he
/-! lines, drops, lifts, floors -/
theorem st_bit : ∀ bits, bits < 64 → ∀ w, w < 7 → ((((nI bits >>> (nI w &&& 31)) &&& 1) = 1) ↔ bits / 2 ^ w % 2 = 1) := by decide +kernel
theorem sh_bit : ∀ bits, bits < 64 → ∀ w, w < 6 → ((nI bits >>> ((nI w + 1) &&& 31)) = 0 ↔ bits < 2 ^ (w + 1)) := by decide +kernel
def kk0 : oK := (0, 0, fun _ => (0, 0), fun _ _ => none)
def mm0 : oM := (fun _ _ => 0, fun _ _ => 0)
def bcX (x : Int32) : Int32 := match f_J6_bitCount_0f7a4 0 kk0 x mm0 with
  | some q => q.1
  | none => 0
theorem bc_e (N : Nat) (K : oK) (x : Int32) (M : oM) : f_J6_bitCount_0f7a4 N K x M = some (bcX x, M) := rfl
theorem bc_ix : ∀ bits, bits < 64 → ∀ w, w < 7 → bcX (nI bits &&& (((1 : Int32) <<< (nI w &&& 31)) - 1)) = nI (ixB bits w) := by decide +kernel
theorem bc_all : ∀ bits, bits < 64 → bcX (nI bits) = nI (ixB bits 6) ∧ ((nI bits &&& 1) = 1 ↔ bits % 2 = 1) := by decide +kernel
theorem lines7 {N : Nat} {K : oK} {M : oM} {D : sDt} (hS : sHas M D) {bits : Nat} (hb : bits < 64) (h13 : M.1 28 13 = nI bits) {w : Nat} (hw : w < 6) : f_X7_lines N K (nI w) M = some (iI (liD D bits w), M) := by
  unfold f_X7_lines liD
  rw [hS.1.1, h13]
  by_cases c : sK D = 2
  · rw [if_pos c, if_pos c]
    rfl
  · rw [if_neg c, if_neg c]
    by_cases c2 : sK D = 4
    · rw [if_pos c2, if_pos c2]
      by_cases c3 : bits < 2 ^ (w + 1)
      · rw [if_pos c3, if_pos ((sh_bit bits hb w hw).mpr c3)]
        rfl
      · rw [if_neg c3, if_neg (fun q => c3 ((sh_bit bits hb w hw).mp q))]
        rfl
    · rw [if_neg c2, if_neg c2]
      rfl
theorem ix6 : ∀ w, w < 6 → ∀ b, b < 3 → (((((6 : Int32) * (iI 1 - 1)) + nI w) * 3) + nI b) = nI (3 * w + b) ∧ (((((6 : Int32) * (iI 2 - 1)) + nI w) * 3) + nI b) = nI (18 + 3 * w + b) := by decide +kernel
theorem drop7 {N : Nat} {K : oK} {M : oM} {D : sDt} (hD : okD D) (hS : sHas M D) {lf ls : Nat → Int → Int} {f : Int} (hW : sWe M D lf ls f) {bits : Nat} (hb : bits < 64) (h13 : M.1 28 13 = nI bits) {w b : Nat} (hw : w < sW D) (hb3 : b < 3) : f_X7_drop N K (nI w) (nI b) M = some (iI (drD D ls f bits w b), M) := by
  have h6 := hD.1
  have i6 := ix6 w (by omega) b hb3
  have d := hW.2 b w hb3 hw
  unfold f_X7_drop drD
  rw [lines7 hS hb h13 (by omega), oB2_p]
  rcases liD_b D bits w with e | e
  · rw [e, i6.1, oIx_p (by rw [nI_toInt (by omega)]; omega) (by rw [nI_toInt (by omega)]; omega), nI_n (by omega), if_neg (by decide), d.1]
  · rw [e, i6.2, oIx_p (by rw [nI_toInt (by omega)]; omega) (by rw [nI_toInt (by omega)]; omega), nI_n (by omega), if_pos rfl, d.2]
theorem stands7 {N : Nat} {K : oK} {M : oM} {bits : Nat} (hb : bits < 64) (h13 : M.1 28 13 = nI bits) {w : Nat} (hw : w < 7) : f_X7_standsAhead N K (nI w) M = some (decide (bits / 2 ^ w % 2 = 1), M) := by
  unfold f_X7_standsAhead
  rw [h13]
  by_cases c : bits / 2 ^ w % 2 = 1
  · rw [if_pos ((st_bit bits hb w hw).mpr c), decide_eq_true c]
  · rw [if_neg (fun q => c ((st_bit bits hb w hw).mp q)), decide_eq_false c]
theorem raised7 {N : Nat} {K : oK} {M : oM} {D : sDt} (hD : okD D) (hS : sHas M D) {lf ls : Nat → Int → Int} {f : Int} (hW : sWe M D lf ls f) {bits : Nat} (hb : bits < 64) (hm : ixB bits 6 ≤ sE D) (h13 : M.1 28 13 = nI bits) {w : Nat} (hw : w < sW D) : f_X7_raisedAhead N K (nI w) M = some (iI (lfD D lf f bits w), M) := by
  have h6 := hD.1
  have h4 := hD.2.1
  unfold f_X7_raisedAhead lfD
  rw [h13, bc_e, oB2_p, bc_ix bits hb w (by omega), stands7 hb h13 (by omega), oB2_p, hS.1.2.2]
  by_cases c : bits / 2 ^ w % 2 = 1
  · have := ix_st bits hb w (by omega) c
    rw [decide_eq_true c, cond_true, if_pos c, if_neg (by rw [oLeI, nI_toInt (by omega), nI_toInt (by omega)]; omega), oIx_p (by rw [nI_toInt (by omega)]; omega) (by rw [nI_toInt (by omega)]; omega), nI_n (by omega), hW.1 _ (by omega)]
  · rw [decide_eq_false c, cond_false, if_neg c]
    rfl
theorem tub7 {N : Nat} {K : oK} {M : oM} {D : sDt} (hD : okD D) (hS : sHas M D) {w : Nat} (hw : w ≤ sW D) {x : Int} (x0 : -2000000000 ≤ x) (x1 : x ≤ 2000000000) : f_X7_behindTub N K (nI w) (iI x) M = some (iI (btD D w x), M) := by
  have h6 := hD.1
  have ew : (nI w).toInt = w := nI_toInt (by omega)
  have ex : (iI x).toInt = x := iI_t (by omega) (by omega)
  unfold f_X7_behindTub btD
  rw [oIx_p (by omega) (by omega), nI_n (by omega), hS.2.2.1 w hw]
  by_cases c : 0 < sT D w
  · rw [if_pos c, if_neg (by decide), if_pos c]
    by_cases e : 0 < x
    · rw [if_neg (by rw [oLeI, ex, tl_0]; omega), if_pos e]
      rfl
    · rw [if_pos (by rw [oLeI, ex, tl_0]; omega), if_neg e]
      rfl
  · rw [if_neg c, if_pos rfl, if_neg c]
theorem mnI2 {x y : Int} (hx : -2000000000 ≤ x ∧ x ≤ 2000000000) (hy : -2000000000 ≤ y ∧ y ≤ 2000000000) : (if iI x < iI y then iI x else iI y) = iI (min x y) := by
  by_cases c : x < y
  · rw [if_pos (by rw [oLtI, iI_t (by omega) (by omega), iI_t (by omega) (by omega)]; exact c), show min x y = x by omega]
  · rw [if_neg (by rw [oLtI, iI_t (by omega) (by omega), iI_t (by omega) (by omega)]; exact c), show min x y = y by omega]
theorem mxI2 {x : Int} (hx : -2000000000 ≤ x ∧ x ≤ 2000000000) : (if (0 : Int32) < iI x then iI x else (0 : Int32)) = iI (max 0 x) := by
  by_cases c : 0 < x
  · rw [if_pos (by rw [oLtI, iI_t (by omega) (by omega)]; exact c), show max 0 x = x by omega]
  · rw [if_neg (by rw [oLtI, iI_t (by omega) (by omega)]; exact c), show max 0 x = 0 by omega]
    rfl
/-- a search at a flow, for places -/
def sRn (M : oM) (D : sDt) (lf ls : Nat → Int → Int) (f : Int) (bits : Nat) : Prop := sHas M D ∧ sWe M D lf ls f ∧ M.1 28 13 = nI bits
theorem sRn.fr {R F : List Nat} {M M' : oM} {D : sDt} {lf ls : Nat → Int → Int} {f : Int} {bits : Nat} (h : sRn M D lf ls f bits) (fr : oFr R F M M') (hR : ∀ a ∈ [28, 29, 30, 31, 32, 33, 34], a ∉ R) : sRn M' D lf ls f bits := by
  obtain ⟨h1, h2, h3⟩ := h
  have e28 := fr.1 28 (by decide) (hR 28 (by decide))
  refine ⟨h1.eq ⟨by rw [e28], by rw [e28], by rw [e28]⟩ (fr.1 29 (by decide) (hR 29 (by decide))) (fr.1 30 (by decide) (hR 30 (by decide))) (fr.1 31 (by decide) (hR 31 (by decide))) (fr.1 32 (by decide) (hR 32 (by decide))), ?_, by rw [e28]; exact h3⟩
  unfold sWe drOk at h2 ⊢
  rw [fr.1 33 (by decide) (hR 33 (by decide)), fr.1 34 (by decide) (hR 34 (by decide))]
  exact h2
theorem fl27 {N : Nat} {K : oK} {M : oM} {D : sDt} (hD : okD D) {lf ls : Nat → Int → Int} (hT : okT lf ls) {f need : Int} (f0 : 0 ≤ f) (f1 : f ≤ 600) (n0 : 0 ≤ need) (n1 : need ≤ 99999) {bits : Nat} (hb : bits < 64) (hm : ixB bits 6 ≤ sE D) (hR : sRn M D lf ls f bits) : ∀ (w n : Nat) (M1 : oM), w ≤ sW D → w < n → oFr [35] [] M M1 → (∀ u, w ≤ u → u ≤ sW D → M1.1 35 u = iI (flD D lf ls f need bits (sW D - u) u)) → ∃ M2, f_X7_setFloors_27 N K n (iI (flD D lf ls f need bits (sW D - w) w)) (nI w - 1) M1 = some ((), M2) ∧ oFr [35] [] M M2 ∧ ∀ u, u ≤ sW D → M2.1 35 u = iI (flD D lf ls f need bits (sW D - u) u) := by
  have h6 := hD.1
  intro w
  induction w with
  | zero =>
    intro n M1 h1 h2 F hu
    obtain ⟨n, rfl⟩ : ∃ m, n = m + 1 := ⟨n - 1, by omega⟩
    rw [f_X7_setFloors_27]
    dsimp only
    rw [if_pos (by decide)]
    exact ⟨M1, rfl, F, fun u hu' => hu u (by omega) hu'⟩
  | succ w ih =>
    intro n M1 h1 h2 F hu
    obtain ⟨n, rfl⟩ : ∃ m, n = m + 1 := ⟨n - 1, by omega⟩
    have e : nI (w + 1) - 1 = nI w := by rw [← nI_1, addsub1]
    have ew : (nI w).toInt = w := nI_toInt (by omega)
    obtain ⟨r1, r2, r3⟩ := hR.fr F (by decide)
    have hr : sW D - w = (sW D - (w + 1)) + 1 := by omega
    have b0 := fl_b hD hT f0 f1 n0 n1 hb hm (sW D - (w + 1)) (w + 1) (by omega)
    have l := lf_b hD hT f0 f1 hb hm (w := w) (by omega)
    have d0 := dr_b hD hT f0 f1 bits (w := w) (by omega) (show 0 < 3 by omega)
    have d1 := dr_b hD hT f0 f1 bits (w := w) (by omega) (show 1 < 3 by omega)
    have d2 := dr_b hD hT f0 f1 bits (w := w) (by omega) (show 2 < 3 by omega)
    have q0 : f_X7_drop N K (nI w) 0 M1 = _ := drop7 (N := N) (K := K) hD r1 r2 hb r3 (w := w) (b := 0) (by omega) (by omega)
    have q1 : f_X7_drop N K (nI w) 1 M1 = _ := drop7 (N := N) (K := K) hD r1 r2 hb r3 (w := w) (b := 1) (by omega) (by omega)
    have q2 : f_X7_drop N K (nI w) 2 M1 = _ := drop7 (N := N) (K := K) hD r1 r2 hb r3 (w := w) (b := 2) (by omega) (by omega)
    have em : (if (if iI (drD D ls f bits w 2) < iI (drD D ls f bits w 1) then iI (drD D ls f bits w 2) else iI (drD D ls f bits w 1)) < iI (drD D ls f bits w 0) then (if iI (drD D ls f bits w 2) < iI (drD D ls f bits w 1) then iI (drD D ls f bits w 2) else iI (drD D ls f bits w 1)) else iI (drD D ls f bits w 0)) = iI (mnD D ls f bits w) := by
      rw [mnI2 (by omega) (by omega), mnI2 (by omega) (by omega)]
      congr 1
      unfold mnD
      omega
    have hmn : -42957 ≤ mnD D ls f bits w ∧ mnD D ls f bits w ≤ 6042957 := by
      unfold mnD
      omega
    have fin : ∀ x : Int, -2000000000 ≤ x → x ≤ 2000000000 → btD D w x = flD D lf ls f need bits (sW D - w) w → ∃ M2, f_X7_setFloors_78 N K (f_X7_setFloors_27 N K n) (iI x) (nI w) M1 = some ((), M2) ∧ oFr [35] [] M M2 ∧ ∀ u, u ≤ sW D → M2.1 35 u = iI (flD D lf ls f need bits (sW D - u) u) := by
      intro x x0 x1 hx
      unfold f_X7_setFloors_78
      rw [tub7 hD r1 (by omega) x0 x1, oB2_p, oIx_p (by omega) (by omega), nI_n (by omega), hx, show nI w + (-1) = nI w - 1 from (Int32.sub_eq_add_neg _ _).symm]
      refine ih n _ (by omega) (by omega) (.up (by decide) F) (fun u u0 u1 => ?_)
      rw [oUp_at]
      by_cases z : u = w
      · rw [if_pos ⟨rfl, z⟩, z]
      · rw [if_neg (fun y => z y.2)]
        exact hu u (by omega) u1
    rw [f_X7_setFloors_27, e]
    dsimp only
    rw [if_neg (by rw [oLtI, ew, tl_0]; omega), q0, oB2_p, q1, oB2_p, q2, oB2_p, em, iI_add, stands7 hb r3 (by omega), oB2_p]
    by_cases c : bits / 2 ^ w % 2 = 1
    · rw [decide_eq_true c, cond_true, raised7 hD r1 r2 hb hm r3 (by omega), oB2_p, iI_sub, mxI2 (by omega)]
      refine fin _ (by omega) (by omega) ?_
      rw [hr, flD, if_pos c]
    · rw [decide_eq_false c, cond_false]
      refine fin _ (by omega) (by omega) ?_
      rw [hr, flD, if_neg c]
theorem floors7 {N : Nat} (hN : 100 ≤ N) {K : oK} {M : oM} {D : sDt} (hD : okD D) {lf ls : Nat → Int → Int} (hT : okT lf ls) {f : Int} {need : Int32} (f0 : 0 ≤ f) (f1 : f ≤ 600) (n0 : 0 ≤ need.toInt) (n1 : need.toInt ≤ 99999) {bits : Nat} (hb : bits < 64) (hm : ixB bits 6 ≤ sE D) (hR : sRn M D lf ls f bits) : ∃ M2, f_X7_setFloors N K need M = some ((), M2) ∧ oFr [35] [] M M2 ∧ ∀ u, u ≤ sW D → M2.1 35 u = iI (flD D lf ls f need.toInt bits (sW D - u) u) := by
  have h6 := hD.1
  obtain ⟨r1, r2, r3⟩ := id hR
  have en : need = iI need.toInt := (iI_self need).symm
  have eW : (nI (sW D)).toInt = sW D := nI_toInt (by omega)
  unfold f_X7_setFloors
  rw [r1.1.2.1]
  conv => enter [1, M2, 1, 1]; rw [en]
  rw [tub7 hD r1 (Nat.le_refl _) (by omega) (by omega), oB2_p, r1.1.2.1, oIx_p (by omega) (by omega), nI_n (by omega), oUp_ro _ _ _ _ (by decide), r1.1.2.1]
  have := fl27 (N := N) (K := K) hD hT f0 f1 n0 n1 hb hm hR (sW D) N (oUp M 35 (sW D) (iI (btD D (sW D) need.toInt))) (Nat.le_refl _) (by omega) (.up (by decide) .rf) (fun u u0 u1 => by
    have : u = sW D := by omega
    subst this
    rw [oUp_at, if_pos ⟨rfl, rfl⟩, Nat.sub_self]
    rfl)
  rw [Nat.sub_self] at this
  exact this
