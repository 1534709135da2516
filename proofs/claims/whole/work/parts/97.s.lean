/-! the most: the greatest flow of the search -/
def stoM (M : oM) (b : Nat) : Int := (M.1 2 (3 + b)).toInt
/-- keys that hold at a flow, by places below one -/
def SFb (D : sDt) (lf ls : Nat → Int → Int) (need : Int) (sto : Nat → Int) (f : Int) (k key : Nat) : Prop := ∃ bits d, bits < k ∧ mayB (sE D) bits ∧ bq (sW D) 0 d ∧ VQ D lf ls need sto bits d f ∧ key = d * 10000 + pdg bits (sW D)
theorem mayd (E bits : Nat) : mayB E bits ∨ ¬ mayB E bits := Classical.em _
theorem may7 {N : Nat} {K : oK} {M : oM} {D : sDt} (hD : okD D) (hS : sHas M D) {bits : Nat} (hb : bits < 64) : ∃ b, f_X7_mayStand N K (nI bits) M = some (b, M) ∧ (b = true ↔ mayB (sE D) bits) := by
  have h4 := hD.2.1
  have ea := bc_all bits hb
  have eb : (nI bits).toInt = bits := nI_toInt (by omega)
  unfold f_X7_mayStand mayB
  rw [hS.1.2.2]
  by_cases c : sE D = 0
  · rw [c, if_pos (by decide)]
    by_cases z : bits = 0
    · rw [z, if_pos (by decide)]
      exact ⟨true, rfl, by simp⟩
    · rw [if_neg (by rw [oEqI, eb, tl_0]; omega)]
      exact ⟨false, rfl, by simp [z]⟩
  · rw [if_neg (by rw [oEqI, nI_toInt (by omega), tl_0]; omega), if_neg c]
    by_cases z : bits % 2 = 1
    · rw [if_pos (ea.2.mpr z), bc_e, oB2_p, hS.1.2.2, ea.1]
      by_cases y : ixB bits 6 = sE D
      · rw [if_pos (by rw [y])]
        exact ⟨true, rfl, by simp [z, y]⟩
      · have := ixB_le bits hb 6 (by omega)
        rw [if_neg (by rw [nI_inj (by omega) (by omega)]; exact y)]
        exact ⟨false, rfl, by simp [y]⟩
    · rw [if_neg (fun q => z (ea.2.mp q))]
      exact ⟨false, rfl, by simp [z]⟩
theorem pow_64 {W : Nat} (h : W ≤ 6) : 1 ≤ 2 ^ W ∧ 2 ^ W ≤ 64 := by
  have : W = 0 ∨ W = 1 ∨ W = 2 ∨ W = 3 ∨ W = 4 ∨ W = 5 ∨ W = 6 := by omega
  rcases this with rfl | rfl | rfl | rfl | rfl | rfl | rfl <;> decide
theorem may_ix {E bits : Nat} (h : mayB E bits) : ixB bits 6 ≤ E := by
  unfold mayB at h
  by_cases c : E = 0
  · rw [if_pos c] at h
    rw [h]
    exact Nat.le_trans (by decide : ixB 0 6 ≤ 0) (Nat.zero_le _)
  · rw [if_neg c] at h
    exact Nat.le_of_eq h.2
theorem cmz17 {N : Nat} (hN : 100 ≤ N) {K : oK} {M : oM} (hs : iSet M) {D : sDt} (hD : okD D) {lf ls : Nat → Int → Int} (hT : okT lf ls) {f : Int} {need : Int32} (f0 : 0 ≤ f) (f1 : f ≤ 600) (n0 : 0 ≤ need.toInt) (n1 : need.toInt ≤ 99999) : ∀ (n k : Nat) (M1 : oM), k ≤ 2 ^ sW D → 2 ^ sW D < k + n → oFr [28, 33, 34, 35, 36] [] M M1 → sHas M1 D → sWe M1 D lf ls f → (∀ b, b < 3 → M1.1 36 b = M.1 2 (3 + b)) → kfR (SFb D lf ls need.toInt (stoM M) f k) (M1.1 28 14) (M1.1 28 15) →
    ∃ b M2, f_X7_comes_17 N K n need (nI k) M1 = some (b, M2) ∧ oFr [28, 33, 34, 35, 36] [] M M2 ∧ sHas M2 D ∧ kfR (SFb D lf ls need.toInt (stoM M) f (2 ^ sW D)) (M2.1 28 14) (M2.1 28 15) ∧ (b = true ↔ ∃ key, SFb D lf ls need.toInt (stoM M) f (2 ^ sW D) key) := by
  have h6 := hD.1
  have h4 := hD.2.1
  have h64 := pow_64 h6
  have hs2 := sh9 (sW D) (by omega)
  have hcast : ((2 ^ sW D : Nat) : Int) = 2 ^ sW D := Int.natCast_pow 2 (sW D)
  intro n
  induction n with
  | zero => intro k M1 h1 h2; omega
  | succ n ih =>
    intro k M1 h1 h2 F hS hW h36 hk
    have ek : (nI k).toInt = k := nI_toInt (by omega)
    rw [f_X7_comes_17]
    dsimp only
    rw [hS.1.2.1]
    by_cases c : k = 2 ^ sW D
    · rw [if_pos (by rw [oLeI, hs2, ek]; omega)]
      rw [c] at hk
      rcases id hk with ⟨k1, k2⟩ | ⟨key, k1, k2, k3, k4, k5⟩
      · rw [k1, if_pos (by decide)]
        exact ⟨false, M1, rfl, F, hS, by rw [k1] at hk; rw [k1]; exact hk, by simp [k2]⟩
      · rw [if_neg (by rw [k4, oLtI, nI_toInt (by omega), tl_0]; omega)]
        exact ⟨true, M1, rfl, F, hS, hk, by simp; exact ⟨key, k1⟩⟩
    · have hk64 : k < 64 := by omega
      obtain ⟨bm, m1, m2⟩ := may7 (N := N) (K := K) hD hS hk64
      rw [if_neg (by rw [oLeI, hs2, ek]; omega), m1, oB2_p]
      unfold f_X7_comes_56
      by_cases cm : mayB (sE D) k
      · have hm := may_ix cm
        rw [m2.mpr cm, cond_true]
        have F2 : oFr [28] [] M1 (oUp M1 28 13 (nI k)) := .up (by decide) .rf
        have e28 : ∀ j, ¬ j = 13 → (oUp M1 28 13 (nI k)).1 28 j = M1.1 28 j := fun j hj => by rw [oUp_at, if_neg (fun z => hj z.2)]
        have hS2 : sHas (oUp M1 28 13 (nI k)) D := hS.eq ⟨e28 10 (by decide), e28 11 (by decide), e28 12 (by decide)⟩ (F2.1 29 (by decide) (by decide)) (F2.1 30 (by decide) (by decide)) (F2.1 31 (by decide) (by decide)) (F2.1 32 (by decide) (by decide))
        have hW2 : sWe (oUp M1 28 13 (nI k)) D lf ls f := by
          unfold sWe drOk at hW ⊢
          rw [F2.1 33 (by decide) (by decide), F2.1 34 (by decide) (by decide)]
          exact hW
        have hR : sRn (oUp M1 28 13 (nI k)) D lf ls f k := ⟨hS2, hW2, by rw [oUp_at, if_pos ⟨rfl, rfl⟩]⟩
        obtain ⟨M3, a1, a2, a3⟩ := floors7 hN (K := K) hD hT f0 f1 n0 n1 hk64 hm hR
        have hR3 := hR.fr a2 (by decide)
        have e36 : M3.1 36 = M1.1 36 := by rw [a2.1 36 (by decide) (by decide), F2.1 36 (by decide) (by decide)]
        have hl : ∀ b, b < 3 → 0 ≤ (M3.1 36 b).toInt ∧ (M3.1 36 b).toInt ≤ 99 := fun b hb => by
          rw [e36, h36 b hb]
          have := hs.2.2.1 (3 + b) (by omega)
          unfold iVal at this
          rw [if_neg (by omega), if_pos (by omega)] at this
          exact this
        obtain ⟨x, x1, x2⟩ := fb7 hN (K := K) hD hT f0 f1 n0 n1 hk64 hm hR3 a3 (sW D) 9 0 0 (fun j => (M3.1 36 j).toInt) 0 (by omega) (by omega) (by omega) (by omega) hl (by decide)
        rw [stF_self] at x1
        have x1' : f_X7_firstBores N K 9 0 0 0 M3 = some (x, M3) := x1
        have hst : ∀ b, b < 3 → (M3.1 36 b).toInt = stoM M b := fun b hb => by rw [e36, h36 b hb]; rfl
        have x3 : fbR (fun d => bq (sW D) 0 d ∧ VQ D lf ls need.toInt (stoM M) k d f) x := x2.eq (fun d => by
          rw [fb_iff hD (sW D) 0 0 _ 0 d (by omega) (fun b hb => (hl b hb).1)]
          unfold VQ
          constructor
          · rintro ⟨q1, q2, q3⟩
            exact ⟨q1, q2, fun b hb => by rw [← hst b hb]; exact q3 b hb⟩
          · rintro ⟨q1, q2, q3⟩
            exact ⟨q1, q2, fun b hb => by rw [hst b hb]; exact q3 b hb⟩)
        have hpd : pdg k (sW D) < 10000 := by
          rw [(w_st (sW D) (by omega) k (by omega)).1]
          exact pd_b k hk64 (by omega)
        have e28' : M3.1 28 = (oUp M1 28 13 (nI k)).1 28 := a2.1 28 (by decide) (by decide)
        obtain ⟨M4, d1, d2, d3, d4⟩ := kf7 (N := N) (K := K) hD hR3.1 hk64 hR3.2.2 hpd x3 (T := SFb D lf ls need.toInt (stoM M) f k) (by rw [e28', e28 14 (by decide), e28 15 (by decide)]; exact hk) N 0 (by omega) (by omega)
        have d1' : f_X7_keepFirst N K x M3 = some ((), M4) := d1
        rw [a1, oB2_p, x1', oB2_p, d1', oB2_p, nI_1]
        have F3 : oFr [28, 33, 34, 35, 36] [] M1 M3 := (F2.weak (by decide) (by decide)).tr (a2.weak (by decide) (by decide))
        have F4 : oFr [28, 33, 34, 35, 36] [] M M4 := (F.tr F3).tr (d2.weak (by decide) (by decide))
        have hS4 : sHas M4 D := hR3.1.eq ⟨d3 10 (by decide) (by decide), d3 11 (by decide) (by decide), d3 12 (by decide) (by decide)⟩ (d2.1 29 (by decide) (by decide)) (d2.1 30 (by decide) (by decide)) (d2.1 31 (by decide) (by decide)) (d2.1 32 (by decide) (by decide))
        have hW4 : sWe M4 D lf ls f := by
          have := hR3.2.1
          unfold sWe drOk at this ⊢
          rw [d2.1 33 (by decide) (by decide), d2.1 34 (by decide) (by decide)]
          exact this
        refine ih (k + 1) M4 (by omega) (by omega) F4 hS4 hW4 (fun b hb => by rw [d2.1 36 (by decide) (by decide), e36]; exact h36 b hb) (d4.eq (fun key => ⟨fun q => ?_, fun q => ?_⟩))
        · rcases q with ⟨bits, d, q1, q2⟩ | ⟨d, q1, q2⟩
          · exact ⟨bits, d, by omega, q2⟩
          · exact ⟨k, d, by omega, cm, q1.1, q1.2, q2⟩
        · obtain ⟨bits, d, q1, q2, q3, q4, q5⟩ := q
          by_cases z : bits = k
          · rw [z] at q4 q5
            exact Or.inr ⟨d, ⟨q3, q4⟩, q5⟩
          · exact Or.inl ⟨bits, d, by omega, q2, q3, q4, q5⟩
      · have : bm = false := by
          cases bm with
          | false => rfl
          | true => exact absurd (m2.mp rfl) cm
        rw [this, cond_false, nI_1]
        refine ih (k + 1) M1 (by omega) (by omega) F hS hW h36 (hk.eq (fun key => ⟨fun q => ?_, fun q => ?_⟩))
        · obtain ⟨bits, d, q1, q2⟩ := q
          exact ⟨bits, d, by omega, q2⟩
        · obtain ⟨bits, d, q1, q2, q3⟩ := q
          have : ¬ bits = k := fun z => cm (by rw [← z]; exact q2)
          exact ⟨bits, d, by omega, q2, q3⟩
theorem comes7 {N : Nat} (hN : 100 ≤ N) {K : oK} {M : oM} (hge : iGear M) (hs : iSet M) {D : sDt} (hD : okD D) {f need : Int32} (f0 : 0 ≤ f.toInt) (f1 : f.toInt ≤ 600) (n0 : 0 ≤ need.toInt) (n1 : need.toInt ≤ 99999) {M1 : oM} (F : oFr [28, 33, 34, 35, 36] [] M M1) (hS : sHas M1 D) :
    ∃ b M2, f_X7_comes N K f need M1 = some (b, M2) ∧ oFr [28, 33, 34, 35, 36] [] M M2 ∧ sHas M2 D ∧ kfR (SFb D (liftV M) (lossV M) need.toInt (stoM M) f.toInt (2 ^ sW D)) (M2.1 28 14) (M2.1 28 15) ∧ (b = true ↔ ∃ key, SFb D (liftV M) (lossV M) need.toInt (stoM M) f.toInt (2 ^ sW D) key) := by
  obtain ⟨eL, eS, e2⟩ := eLift F (by decide)
  obtain ⟨M2, a1, a2, a3, a4⟩ := weigh7 hN (K := K) (hge.fr F (by decide) (by decide)) (hs.fr F (by decide) (by decide)) hD hS f0 f1
  rw [eL, eS] at a3
  have e28 : ∀ j, ¬ j = 14 → ¬ j = 15 → (oUp (oUp M2 28 14 (-1)) 28 15 0).1 28 j = M1.1 28 j := fun j h1 h2 => by rw [oUp_at, if_neg (fun z => h2 z.2), oUp_at, if_neg (fun z => h1 z.2), a2.1 28 (by decide) (by decide)]
  have F3 : oFr [28, 33, 34, 36] [] M1 (oUp (oUp M2 28 14 (-1)) 28 15 0) := .up (by decide) (.up (by decide) (a2.weak (by decide) (by decide)))
  have hS3 : sHas (oUp (oUp M2 28 14 (-1)) 28 15 0) D := hS.eq ⟨e28 10 (by decide) (by decide), e28 11 (by decide) (by decide), e28 12 (by decide) (by decide)⟩ (F3.1 29 (by decide) (by decide)) (F3.1 30 (by decide) (by decide)) (F3.1 31 (by decide) (by decide)) (F3.1 32 (by decide) (by decide))
  have hW3 : sWe (oUp (oUp M2 28 14 (-1)) 28 15 0) D (liftV M) (lossV M) f.toInt := by
    unfold sWe drOk at a3 ⊢
    rw [oUp_ro _ _ _ _ (show (33 : Nat) ≠ 28 by decide), oUp_ro _ _ _ _ (show (33 : Nat) ≠ 28 by decide), oUp_ro _ _ _ _ (show (34 : Nat) ≠ 28 by decide), oUp_ro _ _ _ _ (show (34 : Nat) ≠ 28 by decide)]
    exact a3
  obtain ⟨b, M4, b1, b2, b3, b4, b5⟩ := cmz17 hN (K := K) hs hD (okT_M hge hs) (need := need) f0 f1 n0 n1 N 0 (oUp (oUp M2 28 14 (-1)) 28 15 0) (Nat.zero_le _) (by have := pow_64 hD.1; omega) (F.tr (F3.weak (by decide) (by decide))) hS3 hW3 (fun b hb => by
    rw [oUp_ro _ _ _ _ (show (36 : Nat) ≠ 28 by decide), oUp_ro _ _ _ _ (show (36 : Nat) ≠ 28 by decide), a4 b hb, e2]) (Or.inl ⟨by rw [oUp_at, if_neg (by omega), oUp_at, if_pos ⟨rfl, rfl⟩], fun key q => by obtain ⟨bits, d, q1, -⟩ := q; omega⟩)
  refine ⟨b, M4, ?_, b2, b3, b4, b5⟩
  unfold f_X7_comes
  rw [a1, oB2_p]
  exact b1
/-- what comes at a flow comes at a lesser one -/
theorem vl_m {D : sDt} (hD : okD D) {lf ls : Nat → Int → Int} (hT : okT lf ls) {f f' need : Int} (f0 : 0 ≤ f) (ff : f ≤ f') (f1 : f' ≤ 600) {bits d : Nat} (hb : bits < 64) (hm : ixB bits 6 ≤ sE D) (hd : ∀ u, u < sW D → dig (sW D) d u < 3) : ∀ (r w : Nat) (p p' : Int), w + r = sW D → p' ≤ p → vl D lf ls f' need bits d r w p' → vl D lf ls f need bits d r w p := by
  have h6 := hD.1
  intro r
  induction r with
  | zero =>
    intro w p p' hw hp h
    obtain ⟨h1, h2⟩ := h
    unfold aft at h2
    refine ⟨fun q => by have := h1 q; omega, ?_⟩
    unfold aft
    split
    · rename_i q
      rw [if_pos q] at h2
      exact h2
    · rename_i q
      rw [if_neg q] at h2
      omega
  | succ r ih =>
    intro w p p' hw hp h
    obtain ⟨h1, h2, h3⟩ := h
    have ha : aft D w p' ≤ aft D w p := by
      unfold aft
      split <;> omega
    have hl : lfD D lf f' bits w ≤ lfD D lf f bits w := by
      unfold lfD
      by_cases e : bits / 2 ^ w % 2 = 1
      · rw [if_pos e, if_pos e]
        have := ix_st bits hb w (by omega) e
        exact hT.2.2.1 _ f f' (hD.2.2.2.1 _ (by omega)) f0 ff f1
      · rw [if_neg e, if_neg e]
        exact Int.le_refl _
    have hdr : drD D ls f bits w (dig (sW D) d w) ≤ drD D ls f' bits w (dig (sW D) d w) := by
      unfold drD
      have hb3 := hd w (by omega)
      have hL := hD.2.2.1 w (by omega)
      have : ls (dig (sW D) d w) (if liD D bits w = 2 then (f + 1) / 2 else f) ≤ ls (dig (sW D) d w) (if liD D bits w = 2 then (f' + 1) / 2 else f') := by
        by_cases q : liD D bits w = 2
        · rw [if_pos q, if_pos q]
          exact hT.2.2.2 _ _ _ hb3 (by omega) (by omega) (by omega)
        · rw [if_neg q, if_neg q]
          exact hT.2.2.2 _ _ _ hb3 f0 ff f1
      have := Int.mul_le_mul_of_nonneg_left this (show 0 ≤ sL D w by omega)
      omega
    exact ⟨fun q => by have := h1 q; omega, fun q => by have := h2 q; omega, ih (w + 1) _ _ (by omega) (by omega) h3⟩
theorem SF_m {D : sDt} (hD : okD D) {lf ls : Nat → Int → Int} (hT : okT lf ls) {f f' need : Int} {sto : Nat → Int} (f0 : 0 ≤ f) (ff : f ≤ f') (f1 : f' ≤ 600) {key : Nat} (h : SFb D lf ls need sto f' (2 ^ sW D) key) : SFb D lf ls need sto f (2 ^ sW D) key := by
  obtain ⟨bits, d, q1, q2, q3, q4, q5⟩ := h
  have h64 := pow_64 hD.1
  exact ⟨bits, d, q1, q2, q3, ⟨vl_m hD hT f0 ff f1 (by omega) (may_ix q2) (fun u hu => bq_d3 (sW D) 0 0 d (by omega) q3 u (by omega) hu) (sW D) 0 0 0 (by omega) (Int.le_refl _) q4.1, q4.2⟩, q5⟩
theorem gr9 {N : Nat} (hN : 100 ≤ N) {K : oK} {M : oM} (hge : iGear M) (hs : iSet M) {D : sDt} (hD : okD D) {need : Int32} (n0 : 0 ≤ need.toInt) (n1 : need.toInt ≤ 99999) : ∀ (n t : Nat) (a b : Int) (M1 : oM), t ≤ 10 → 10 < t + n → -1 ≤ a → a ≤ b → b ≤ 600 → b - a < 2 ^ (10 - t) → oFr [28, 33, 34, 35, 36] [] M M1 → sHas M1 D →
    (a = -1 ∨ ∃ key, SFb D (liftV M) (lossV M) need.toInt (stoM M) a (2 ^ sW D) key) → (∀ f, b < f → f ≤ 600 → ¬ ∃ key, SFb D (liftV M) (lossV M) need.toInt (stoM M) f (2 ^ sW D) key) →
    ∃ g M2, f_X7_greatest_9 N K n need (iI a) (iI b) (nI t) M1 = some (iI g, M2) ∧ oFr [28, 33, 34, 35, 36] [] M M2 ∧ isGr (fun f => ∃ key, SFb D (liftV M) (lossV M) need.toInt (stoM M) f (2 ^ sW D) key) g ∧ (0 ≤ g → kfR (SFb D (liftV M) (lossV M) need.toInt (stoM M) g (2 ^ sW D)) (M2.1 28 14) (M2.1 28 15)) := by
  intro n
  induction n with
  | zero => intro t a b M1 h1 h2; omega
  | succ n ih =>
    intro t a b M1 h1 h2 a0 ab b1 hd F hS ha hb
    have et : (nI t).toInt = t := nI_toInt (by omega)
    have ea : (iI a).toInt = a := iI_t (by omega) (by omega)
    have eb : (iI b).toInt = b := iI_t (by omega) (by omega)
    -- the end of the halving
    have fin : a = b → ∃ g M2, f_X7_greatest_57 N K need (iI a) M1 = some (iI g, M2) ∧ oFr [28, 33, 34, 35, 36] [] M M2 ∧ isGr (fun f => ∃ key, SFb D (liftV M) (lossV M) need.toInt (stoM M) f (2 ^ sW D) key) g ∧ (0 ≤ g → kfR (SFb D (liftV M) (lossV M) need.toInt (stoM M) g (2 ^ sW D)) (M2.1 28 14) (M2.1 28 15)) := by
      intro hab
      unfold f_X7_greatest_57
      by_cases c : a = -1
      · rw [if_pos (by rw [oLtI, ea, tl_0]; omega)]
        exact ⟨-2, M1, rfl, F, Or.inl ⟨rfl, fun f q1 q2 => hb f (by omega) q2⟩, fun q => by omega⟩
      · rw [if_neg (by rw [oLtI, ea, tl_0]; omega)]
        obtain ⟨bb, M2, c1, c2, c3, c4, c5⟩ := comes7 hN (K := K) hge hs hD (f := iI a) (by rw [ea]; omega) (by rw [ea]; omega) n0 n1 F hS
        rw [ea] at c4 c5
        have hP : ∃ key, SFb D (liftV M) (lossV M) need.toInt (stoM M) a (2 ^ sW D) key := by
          rcases ha with q | q
          · exact absurd q c
          · exact q
        rw [c1, oB2_p, c5.mpr hP, cond_true]
        exact ⟨a, M2, rfl, c2, Or.inr ⟨by omega, hP, fun f q1 q2 => hb f (by omega) q2⟩, fun _ => c4⟩
    rw [f_X7_greatest_9]
    dsimp only
    by_cases c : t = 10
    · rw [if_pos (by rw [oLeI, et, tl_10]; omega)]
      rw [c] at hd
      exact fin (by omega)
    · rw [if_neg (by rw [oLeI, et, tl_10]; omega)]
      by_cases c2 : b ≤ a
      · rw [if_pos (by rw [oLeI, ea, eb]; exact c2)]
        exact fin (by omega)
      · have em : ((iI a + iI b + 1) / 2 : Int32) = iI ((a + b + 1) / 2) := by
          have e1 : iI a + iI b + 1 = iI (a + b + 1) := by rw [iI_add]; exact iI_add _ 1
          rw [e1]
          refine iI_of ?_
          rw [oDiv (by rw [iI_t (by omega) (by omega)]; omega) (by rw [tl_2]; omega), iI_t (by omega) (by omega), tl_2]
        have e2 : iI ((a + b + 1) / 2) - 1 = iI ((a + b + 1) / 2 - 1) := iI_sub _ 1
        have em2 : (iI ((a + b + 1) / 2)).toInt = (a + b + 1) / 2 := iI_t (by omega) (by omega)
        have hp : (2 : Int) ^ (10 - t) = 2 * 2 ^ (10 - (t + 1)) := by
          rw [show 10 - t = (10 - (t + 1)) + 1 by omega, Int.pow_succ, Int.mul_comm]
        obtain ⟨bb, M2, c1, c2', c3, c4, c5⟩ := comes7 hN (K := K) hge hs hD (f := iI ((a + b + 1) / 2)) (by rw [em2]; omega) (by rw [em2]; omega) n0 n1 F hS
        rw [em2] at c4 c5
        rw [if_neg (by rw [oLeI, ea, eb]; exact c2), em, c1, oB2_p, e2]
        unfold f_X7_greatest_51
        rw [nI_1]
        by_cases cb : bb = true
        · rw [cb, cond_true]
          exact ih (t + 1) ((a + b + 1) / 2) b M2 (by omega) (by omega) (by omega) (by omega) b1 (by omega) c2' c3 (Or.inr (c5.mp cb)) hb
        · have : bb = false := by
            cases bb with
            | false => rfl
            | true => exact absurd rfl cb
          rw [this, cond_false]
          refine ih (t + 1) a ((a + b + 1) / 2 - 1) M2 (by omega) (by omega) a0 (by omega) (by omega) (by omega) c2' c3 ha (fun f q1 q2 q3 => cb (c5.mpr ?_))
          obtain ⟨key, q4⟩ := q3
          exact ⟨key, SF_m hD (okT_M hge hs) (by omega) (by omega) q2 q4⟩
theorem greatest7 {N : Nat} (hN : 100 ≤ N) {K : oK} {M : oM} (hge : iGear M) (hs : iSet M) {D : sDt} (hD : okD D) {need : Int32} (n0 : 0 ≤ need.toInt) (n1 : need.toInt ≤ 99999) (hS : sHas M D) :
    ∃ g M2, f_X7_greatest N K need M = some (iI g, M2) ∧ oFr [28, 33, 34, 35, 36] [] M M2 ∧ isGr (fun f => ∃ key, SFb D (liftV M) (lossV M) need.toInt (stoM M) f (2 ^ sW D) key) g ∧ (0 ≤ g → kfR (SFb D (liftV M) (lossV M) need.toInt (stoM M) g (2 ^ sW D)) (M2.1 28 14) (M2.1 28 15)) :=
  gr9 hN (K := K) hge hs hD n0 n1 N 0 (-1) 600 M (by omega) (by omega) (by omega) (by omega) (by omega) (by decide) .rf hS (Or.inl rfl) (fun f q1 q2 => by omega)
