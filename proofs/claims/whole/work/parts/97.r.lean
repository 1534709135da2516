/-! the most: first bores, first places -/
def stF (M : oM) (left : Nat → Int) : oM := oRow M 36 (fun j => iI (left j))
theorem stF_fr (M : oM) (left : Nat → Int) : oFr [36] [] M (stF M left) := .row (by decide) .rf
theorem stF_at (M : oM) (left : Nat → Int) (j : Nat) : (stF M left).1 36 j = iI (left j) := by
  unfold stF
  rw [oRow_row]
theorem stF_up (M : oM) (left : Nat → Int) (j : Nat) (y : Int) : oUp (stF M left) 36 j (iI y) = stF M (fun x => if x = j then y else left x) := by
  refine Prod.ext ?_ rfl
  funext a k
  rw [oUp_at]
  by_cases q : a = 36
  · rw [q, stF_at, stF_at]
    by_cases z : k = j
    · rw [if_pos ⟨rfl, z⟩, if_pos z]
    · rw [if_neg (fun w => z w.2), if_neg z]
  · rw [if_neg (fun w => q w.1)]
    unfold stF
    rw [oRow_ro _ _ _ q, oRow_ro _ _ _ q]
theorem stF_self (M : oM) : stF M (fun j => (M.1 36 j).toInt) = M := by
  refine Prod.ext ?_ rfl
  funext a k
  by_cases q : a = 36
  · rw [q, stF_at]
    exact iI_self _
  · unfold stF
    rw [oRow_ro _ _ _ q]
def fbR (S : Nat → Prop) (x : Int32) : Prop := (x = -1 ∧ ∀ d, ¬ S d) ∨ ∃ d, x = nI d ∧ d < 2000000 ∧ S d ∧ ∀ d', S d' → d ≤ d'
theorem fbR.eq {S S' : Nat → Prop} {x : Int32} (h : fbR S x) (e : ∀ d, S d ↔ S' d) : fbR S' x := by
  rcases h with ⟨h1, h2⟩ | ⟨d, h1, h2, h3, h4⟩
  · exact Or.inl ⟨h1, fun d q => h2 d ((e d).mpr q)⟩
  · exact Or.inr ⟨d, h1, h2, (e d).mp h3, fun d' q => h4 d' ((e d').mpr q)⟩
def lfU (D : sDt) (bits w : Nat) (left : Nat → Int) (b : Nat) : Nat → Int := fun x => if x = b then left x - sL D w * liD D bits w else left x
theorem fb70 {N : Nat} {K : oK} {M : oM} {D : sDt} (hD : okD D) {lf ls : Nat → Int → Int} {f need : Int} {bits : Nat} (hb : bits < 64) (hR : sRn M D lf ls f bits) (rS : Int32 → Int32 → Int32 → oM → Option (Int32 × oM)) {w r dg : Nat} (hw : w + (r + 1) = sW D) {left : Nat → Int} (hl : ∀ b, b < 3 → 0 ≤ left b ∧ left b ≤ 99) {p : Int}
    (hrS : ∀ b, b < 3 → sL D w * liD D bits w ≤ left b → ∃ x, rS (nI (w + 1)) (iI (p - drD D ls f bits w b)) (nI (10 * dg + b)) (stF M (lfU D bits w left b)) = some (x, stF M (lfU D bits w left b)) ∧ fbR (fb D lf ls f need bits r (w + 1) (p - drD D ls f bits w b) (lfU D bits w left b) (10 * dg + b)) x) :
    ∀ (n j : Nat) (x : Int32), j ≤ 3 → 3 < j + n → fbR (fun d' => ∃ b, b < j ∧ sL D w * liD D bits w ≤ left b ∧ fb D lf ls f need bits r (w + 1) (p - drD D ls f bits w b) (lfU D bits w left b) (10 * dg + b) d') x → ∃ x', f_X7_firstBores_70 N rS K n (nI w) (nI dg) (iI p) (iI (sL D w * liD D bits w)) x (nI j) (stF M left) = some (x', stF M left) ∧ fbR (fun d' => ∃ b, b < 3 ∧ sL D w * liD D bits w ≤ left b ∧ fb D lf ls f need bits r (w + 1) (p - drD D ls f bits w b) (lfU D bits w left b) (10 * dg + b) d') x' := by
  have h6 := hD.1
  have hh := hose_b hD bits (w := w) (by omega)
  have toq : ∀ b d', b < 3 → sL D w * liD D bits w ≤ left b → fb D lf ls f need bits r (w + 1) (p - drD D ls f bits w b) (lfU D bits w left b) (10 * dg + b) d' → bq r (10 * dg + b) d' := fun b d' hb3 hh2 h => ((fb_iff hD r (w + 1) _ _ _ d' (by omega) (fun y hy => by
    have := hl y hy
    unfold lfU
    split
    · rename_i z
      rw [z]
      omega
    · exact this.1)).mp h).1
  intro n
  induction n with
  | zero => intro j x h1 h2; omega
  | succ n ih =>
    intro j x h1 h2 hx
    have ej : (nI j).toInt = j := nI_toInt (by omega)
    rw [f_X7_firstBores_70]
    dsimp only
    by_cases c : j = 3
    · subst c
      rw [if_pos (by decide)]
      exact ⟨x, rfl, hx⟩
    · rw [if_neg (by rw [oLeI, ej, tl_3]; omega)]
      rcases hx with ⟨x1, x2⟩ | ⟨d, x1, x2, x3, x4⟩
      · rw [x1, if_neg (by decide)]
        have hxj : ∀ A : Option (Int32 × oM), oIx (nI j) 3 A = A := fun A => oIx_p (by omega) (by omega)
        have lj := hl j (by omega)
        simp only [hxj, nI_n (show j < 2147483648 by omega), stF_at, f_X7_firstBores_143, nI_1, iI_sub, nI_10]
        by_cases q : left j < sL D w * liD D bits w
        · rw [if_pos (by rw [oLtI, iI_t (by omega) (by omega), iI_t (by omega) (by omega)]; exact q)]
          refine ih (j + 1) (-1) (by omega) (by omega) (Or.inl ⟨rfl, fun d' hd' => ?_⟩)
          obtain ⟨b, b1, b2, b3⟩ := hd'
          by_cases z : b = j
          · rw [z] at b2
            omega
          · exact x2 d' ⟨b, by omega, b2, b3⟩
        · rw [if_neg (by rw [oLtI, iI_t (by omega) (by omega), iI_t (by omega) (by omega)]; exact q), stF_up]
          have eL : (fun y => if y = j then left j - sL D w * liD D bits w else left y) = lfU D bits w left j := by
            funext y
            unfold lfU
            by_cases z : y = j
            · rw [if_pos z, if_pos z, z]
            · rw [if_neg z, if_neg z]
          have hR2 := hR.fr (stF_fr M (lfU D bits w left j)) (by decide)
          obtain ⟨y, y1, y2⟩ := hrS j (by omega) (by omega)
          rw [eL, drop7 hD hR2.1 hR2.2.1 hb hR2.2.2 (by omega) (by omega), oB2_p, iI_sub, y1, oB2_p, stF_at, iI_add, stF_up]
          have eL2 : (fun z => if z = j then lfU D bits w left j j + sL D w * liD D bits w else lfU D bits w left j z) = left := by
            funext z
            unfold lfU
            by_cases t : z = j
            · rw [if_pos t, if_pos rfl, t]
              omega
            · rw [if_neg t, if_neg t]
          rw [eL2]
          refine ih (j + 1) y (by omega) (by omega) ?_
          rcases y2 with ⟨y2, y3⟩ | ⟨d, y2, y3, y4, y5⟩
          · refine Or.inl ⟨y2, fun d' hd' => ?_⟩
            obtain ⟨b, b1, b2, b3⟩ := hd'
            by_cases z : b = j
            · rw [z] at b3
              exact y3 d' b3
            · exact x2 d' ⟨b, by omega, b2, b3⟩
          · refine Or.inr ⟨d, y2, y3, ⟨j, by omega, by omega, y4⟩, fun d' hd' => ?_⟩
            obtain ⟨b, b1, b2, b3⟩ := hd'
            by_cases z : b = j
            · rw [z] at b3
              exact y5 d' b3
            · exact absurd ⟨b, by omega, b2, b3⟩ (x2 d')
      · rw [x1, if_pos (by rw [oLeI, tl_0, nI_toInt (by omega)]; omega)]
        obtain ⟨b0, p1, p2, p3⟩ := x3
        refine ⟨nI d, rfl, Or.inr ⟨d, rfl, x2, ⟨b0, by omega, p2, p3⟩, fun d' hd' => ?_⟩⟩
        obtain ⟨b, b1, b2, b3⟩ := hd'
        by_cases z : b < j
        · exact x4 d' ⟨b, z, b2, b3⟩
        · exact Nat.le_of_lt (bq_lt (toq b0 d (by omega) p2 p3) (toq b d' b1 b2 b3) (by omega))
theorem fb7 {N : Nat} (hN : 100 ≤ N) {K : oK} {M : oM} {D : sDt} (hD : okD D) {lf ls : Nat → Int → Int} (hT : okT lf ls) {f need : Int} (f0 : 0 ≤ f) (f1 : f ≤ 600) (n0 : 0 ≤ need) (n1 : need ≤ 99999) {bits : Nat} (hb : bits < 64) (hm : ixB bits 6 ≤ sE D) (hR : sRn M D lf ls f bits) (hF : ∀ u, u ≤ sW D → M.1 35 u = iI (flD D lf ls f need bits (sW D - u) u)) : ∀ (r n w : Nat) (p : Int) (left : Nat → Int) (dg : Nat), r < n → w + r = sW D → -(6200000 * (w : Int)) ≤ p → p ≤ 6200000 * (w : Int) → (∀ b, b < 3 → 0 ≤ left b ∧ left b ≤ 99) → dg + 1 ≤ 10 ^ w →
    ∃ x, f_X7_firstBores N K n (nI w) (iI p) (nI dg) (stF M left) = some (x, stF M left) ∧ fbR (fb D lf ls f need bits r w p left dg) x := by
  have h6 := hD.1
  intro r
  induction r with
  | zero =>
    intro n w p left dg h1 h2 p0 p1 hl hd
    obtain ⟨n, rfl⟩ : ∃ m, n = m + 1 := ⟨n - 1, by omega⟩
    have ew : (nI w).toInt = w := nI_toInt (by omega)
    have eW : (nI (sW D)).toInt = sW D := nI_toInt (by omega)
    have hR2 := hR.fr (stF_fr M left) (by decide)
    have e35 : (stF M left).1 35 w = iI (flD D lf ls f need bits 0 w) := by
      rw [(stF_fr M left).1 35 (by decide) (by decide), hF w (by omega), show sW D - w = 0 by omega]
    have bb := fl_b hD hT f0 f1 n0 n1 hb hm 0 w h2
    rw [f_X7_firstBores]
    dsimp only
    rw [if_neg (by rw [oLtI, ew, tl_6]; omega), oIx_p (by omega) (by omega), nI_n (by omega), e35]
    by_cases c : flD D lf ls f need bits 0 w ≤ p
    · have hp10 : 10 ^ w ≤ 1000000 := by
        have : w = 0 ∨ w = 1 ∨ w = 2 ∨ w = 3 ∨ w = 4 ∨ w = 5 ∨ w = 6 := by omega
        rcases this with rfl | rfl | rfl | rfl | rfl | rfl | rfl <;> decide
      rw [if_pos (by rw [oLeI, iI_t (by omega) (by omega), iI_t (by omega) (by omega)]; exact c), hR2.1.1.2.1, if_neg (by rw [oLtI, ew, eW]; omega)]
      refine ⟨nI dg, rfl, Or.inr ⟨dg, rfl, by omega, ⟨fl_suf0 (by omega) c, rfl⟩, fun d' hd' => ?_⟩⟩
      have : d' = dg := hd'.2
      omega
    · rw [if_neg (by rw [oLeI, iI_t (by omega) (by omega), iI_t (by omega) (by omega)]; exact c)]
      exact ⟨-1, rfl, Or.inl ⟨rfl, fun d' hd' => c (fl_nec 0 w p left dg d' hd')⟩⟩
  | succ r ih =>
    intro n w p left dg h1 h2 p0 p1 hl hd
    obtain ⟨n, rfl⟩ : ∃ m, n = m + 1 := ⟨n - 1, by omega⟩
    have ew : (nI w).toInt = w := nI_toInt (by omega)
    have eW : (nI (sW D)).toInt = sW D := nI_toInt (by omega)
    have hR2 := hR.fr (stF_fr M left) (by decide)
    have e35 : (stF M left).1 35 w = iI (flD D lf ls f need bits (r + 1) w) := by
      rw [(stF_fr M left).1 35 (by decide) (by decide), hF w (by omega), show sW D - w = r + 1 by omega]
    have bb := fl_b hD hT f0 f1 n0 n1 hb hm (r + 1) w h2
    rw [f_X7_firstBores]
    dsimp only
    rw [if_neg (by rw [oLtI, ew, tl_6]; omega), oIx_p (by omega) (by omega), nI_n (by omega), e35]
    by_cases c : flD D lf ls f need bits (r + 1) w ≤ p
    · have l := lf_b hD hT f0 f1 hb hm (w := w) (by omega)
      have hh := hose_b hD bits (w := w) (by omega)
      have hx6 : ∀ A : Option (Int32 × oM), oIx (nI w) 6 A = A := fun A => oIx_p (by omega) (by omega)
      have ha : -(6200000 * (w : Int)) ≤ aft D w p ∧ aft D w p ≤ 6200000 * (w : Int) := by
        unfold aft
        split <;> omega
      have e42 : (if (stF M left).1 31 w = 0 then f_X7_firstBores_42 N (f_X7_firstBores N K n) K (nI w) (nI dg) (iI p) (stF M left) else f_X7_firstBores_42 N (f_X7_firstBores N K n) K (nI w) (nI dg) 0 (stF M left)) = f_X7_firstBores_42 N (f_X7_firstBores N K n) K (nI w) (nI dg) (iI (aft D w p)) (stF M left) := by
        rw [hR2.1.2.2.1 w (by omega)]
        unfold aft
        by_cases z : 0 < sT D w
        · rw [if_pos z, if_neg (by decide), if_pos z]
          rfl
        · rw [if_neg z, if_pos rfl, if_neg z]
      rw [if_pos (by rw [oLeI, iI_t (by omega) (by omega), iI_t (by omega) (by omega)]; exact c), hR2.1.1.2.1, if_pos (by rw [oLtI, ew, eW]; omega), oIx_p (by omega) (by omega), e42]
      unfold f_X7_firstBores_42
      rw [raised7 hD hR2.1 hR2.2.1 hb hm hR2.2.2 (by omega), oB2_p, hx6, lines7 hR2.1 hb hR2.2.2 (by omega), oB2_p, iI_add, nI_n (by omega), (hR2.1.2.1 w (by omega)).1, iI_mul]
      obtain ⟨x, x1, x2⟩ := fb70 (N := N) (K := K) (M := M) hD (lf := lf) (ls := ls) (f := f) (need := need) hb hR (f_X7_firstBores N K n) (w := w) (r := r) (dg := dg) (by omega) hl (p := aft D w p + lfD D lf f bits w) (fun b hb3 hh2 => by
        have dd := dr_b hD hT f0 f1 bits (w := w) (by omega) hb3
        refine ih n (w + 1) _ _ _ (by omega) (by omega) (by omega) (by omega) (fun y hy => ?_) ?_
        · have := hl y hy
          unfold lfU
          split
          · rename_i z
            rw [z]
            have := hl b hb3
            omega
          · exact this
        · rw [Nat.pow_succ]
          omega) N 0 (-1) (by omega) (by omega) (Or.inl ⟨rfl, fun d hd => by obtain ⟨b, b1, -⟩ := hd; omega⟩)
      refine ⟨x, x1, x2.eq (fun d => ?_)⟩
      have hs := fl_suf c
      exact ⟨fun q => ⟨hs, q⟩, fun q => q.2⟩
    · rw [if_neg (by rw [oLeI, iI_t (by omega) (by omega), iI_t (by omega) (by omega)]; exact c)]
      exact ⟨-1, rfl, Or.inl ⟨rfl, fun d' hd' => c (fl_nec (r + 1) w p left dg d' hd')⟩⟩
/-- the first of the keys (bores, then places) -/
def kfR (S : Nat → Prop) (x y : Int32) : Prop := (x = -1 ∧ ∀ k, ¬ S k) ∨ ∃ k, S k ∧ (∀ k', S k' → k ≤ k') ∧ k < 20000000000 ∧ x = nI (k / 10000) ∧ y = nI (k % 10000)
theorem kfR.eq {S S' : Nat → Prop} {x y : Int32} (h : kfR S x y) (e : ∀ d, S d ↔ S' d) : kfR S' x y := by
  rcases h with ⟨h1, h2⟩ | ⟨d, h1, h2, h3⟩
  · exact Or.inl ⟨h1, fun d q => h2 d ((e d).mpr q)⟩
  · exact Or.inr ⟨d, (e d).mp h1, fun d' q => h2 d' ((e d').mpr q), h3⟩
theorem kf7 {N : Nat} {K : oK} {M : oM} {D : sDt} (hD : okD D) (hS : sHas M D) {bits : Nat} (hb : bits < 64) (h13 : M.1 28 13 = nI bits) (hpd : pdg bits (sW D) < 10000) {S T : Nat → Prop} {x : Int32} (hx : fbR S x) (hk : kfR T (M.1 28 14) (M.1 28 15)) : ∀ (n w : Nat), w ≤ sW D → sW D < w + n → ∃ M', f_X7_keepFirst_4 N K n x (nI (pdg bits w)) (nI w) M = some ((), M') ∧ oFr [28] [] M M' ∧ (∀ j, ¬ j = 14 → ¬ j = 15 → M'.1 28 j = M.1 28 j) ∧ kfR (fun k => T k ∨ ∃ d, S d ∧ k = d * 10000 + pdg bits (sW D)) (M'.1 28 14) (M'.1 28 15) := by
  have h6 := hD.1
  intro n
  induction n with
  | zero => intro w h1 h2; omega
  | succ n ih =>
    intro w h1 h2
    have ew : (nI w).toInt = w := nI_toInt (by omega)
    have eW : (nI (sW D)).toInt = sW D := nI_toInt (by omega)
    rw [f_X7_keepFirst_4]
    dsimp only
    rw [hS.1.2.1]
    by_cases c : w = sW D
    · rw [if_pos (by rw [oLeI, ew, eW]; omega), c]
      generalize hpp : pdg bits (sW D) = pd at *
      have set : ∀ d, x = nI d → d < 2000000 → S d → (∀ d', S d' → d ≤ d') → (∀ k, T k → d * 10000 + pd ≤ k) → ∃ M', f_X7_keepFirst_72 N K x (nI pd) M = some ((), M') ∧ oFr [28] [] M M' ∧ (∀ j, ¬ j = 14 → ¬ j = 15 → M'.1 28 j = M.1 28 j) ∧ kfR (fun k => T k ∨ ∃ d, S d ∧ k = d * 10000 + pd) (M'.1 28 14) (M'.1 28 15) := by
        intro d d1 d2 d3 d4 d5
        unfold f_X7_keepFirst_72
        refine ⟨_, rfl, .up (by decide) (.up (by decide) .rf), fun j j1 j2 => ?_, ?_⟩
        · rw [oUp_at, if_neg (fun z => j2 z.2), oUp_at, if_neg (fun z => j1 z.2)]
        · rw [oUp_at, if_neg (by omega), oUp_at, if_pos ⟨rfl, rfl⟩, oUp_at, if_pos ⟨rfl, rfl⟩]
          refine Or.inr ⟨d * 10000 + pd, Or.inr ⟨d, d3, rfl⟩, fun k' hk' => ?_, by omega, by rw [d1]; congr 1; omega, by congr 1; omega⟩
          rcases hk' with q | ⟨d', q1, q2⟩
          · exact d5 k' q
          · have := d4 d' q1
            omega
      rcases hx with ⟨x1, x2⟩ | ⟨d, x1, x2, x3, x4⟩
      · rw [x1, if_pos (by decide)]
        refine ⟨M, rfl, .rf, fun _ _ _ => rfl, hk.eq (fun k => ⟨Or.inl, fun q => ?_⟩)⟩
        rcases q with q | ⟨d, q1, -⟩
        · exact q
        · exact absurd q1 (x2 d)
      · have ed : (nI d).toInt = d := nI_toInt (by omega)
        rw [if_neg (by rw [x1, oLtI, ed, tl_0]; omega)]
        rcases hk with ⟨k1, k2⟩ | ⟨k, k1, k2, k3, k4, k5⟩
        · rw [k1, if_pos (by decide)]
          exact set d x1 x2 x3 x4 (fun k q => absurd q (k2 k))
        · have e14 : (M.1 28 14).toInt = (k / 10000 : Nat) := by rw [k4]; exact nI_toInt (by omega)
          have e15 : (M.1 28 15).toInt = (k % 10000 : Nat) := by rw [k5]; exact nI_toInt (by omega)
          have epd : (nI pd).toInt = pd := nI_toInt (by omega)
          have keep : k ≤ d * 10000 + pd → ∃ M', (some ((), M) : Option (Unit × oM)) = some ((), M') ∧ oFr [28] [] M M' ∧ (∀ j, ¬ j = 14 → ¬ j = 15 → M'.1 28 j = M.1 28 j) ∧ kfR (fun k => T k ∨ ∃ d, S d ∧ k = d * 10000 + pd) (M'.1 28 14) (M'.1 28 15) := by
            intro hle
            refine ⟨M, rfl, .rf, fun _ _ _ => rfl, Or.inr ⟨k, Or.inl k1, fun k' hk' => ?_, k3, k4, k5⟩⟩
            rcases hk' with q | ⟨d', q1, q2⟩
            · exact k2 k' q
            · have := x4 d' q1
              omega
          rw [if_neg (by rw [oLtI, e14, tl_0]; omega)]
          by_cases c1 : d < k / 10000
          · rw [if_pos (by rw [x1, oLtI, ed, e14]; omega)]
            exact set d x1 x2 x3 x4 (fun k' q => by have := k2 k' q; omega)
          · rw [if_neg (by rw [x1, oLtI, ed, e14]; omega)]
            by_cases c2 : d = k / 10000
            · rw [if_pos (by rw [x1, oEqI, ed, e14]; omega)]
              by_cases c3 : k % 10000 ≤ pd
              · rw [if_pos (by rw [oLeI, e15, epd]; omega)]
                exact keep (by omega)
              · rw [if_neg (by rw [oLeI, e15, epd]; omega)]
                exact set d x1 x2 x3 x4 (fun k' q => by have := k2 k' q; omega)
            · rw [if_neg (by rw [x1, oEqI, ed, e14]; omega)]
              exact keep (by omega)
    · rw [if_neg (by rw [oLeI, ew, eW]; omega), stands7 hb h13 (by omega), oB2_p]
      unfold f_X7_keepFirst_30
      have h9 := ih (w + 1) (by omega) (by omega)
      rw [pdg] at h9
      by_cases e : bits / 2 ^ w % 2 = 1
      · rw [if_pos e] at h9
        rw [decide_eq_true e, cond_true, nI_10, nI_1]
        exact h9
      · rw [if_neg e] at h9
        rw [decide_eq_false e, cond_false, nI_1]
        exact h9
