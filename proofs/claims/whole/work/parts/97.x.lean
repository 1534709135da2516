/-! the most: a layout settled, and whether there is hose enough -/
/-- the point behind the first ways -/
def atW (M : oM) (l P w : Nat) : Int32 := if w = 0 then M.1 (oLy l) 2 else M.1 (oLy l + 4) (wpM (M.1 (oLy l + 1)) P (w - 1))
theorem wn_lt (s : Nat → Int32) (P k : Nat) (hk : k < P) (h1 : s k = 1) : wnM s k < wnM s P := by
  have h := (wn_m s (k + 1) (P - (k + 1))).1
  rw [show k + 1 + (P - (k + 1)) = P by omega, wnM, if_pos h1] at h
  omega
theorem wp_at (s : Nat → Int32) : ∀ P k, k < P → s k = 1 → wpM s P (wnM s k) = k := by
  intro P
  induction P with
  | zero => intro k h; exact absurd h (Nat.not_lt_zero _)
  | succ P ih =>
    intro k hk h1
    rw [wpM]
    by_cases c : k = P
    · subst c
      rw [if_pos ⟨h1, rfl⟩]
    · have := wn_lt s P k (by omega) h1
      rw [if_neg (by omega)]
      exact ih k (by omega) h1
theorem at_k {M : oM} {l : Nat} (hy : iLay1 M l) : ∀ k : Nat, k ≤ (M.1 (oLy l) 7).toInt.toNat → prevP M l k = atW M l (M.1 (oLy l) 7).toInt.toNat (wnM (M.1 (oLy l + 1)) k) := by
  intro k
  induction k with
  | zero => intro _; rfl
  | succ k ih =>
    intro hk
    have h := ih (by omega)
    rw [wnM]
    by_cases c : M.1 (oLy l + 1) k = 1
    · rw [if_pos c]
      unfold atW prevP
      rw [if_neg (by omega), if_neg (by omega), show k + 1 - 1 = k by omega, show wnM (M.1 (oLy l + 1)) k + 1 - 1 = wnM (M.1 (oLy l + 1)) k by omega, wp_at _ _ k (by omega) c]
    · rw [if_neg c, prev_k hy (by omega) c]
      exact h
theorem laR_iff (M : oM) : ∀ T i : Nat, ((i : Int) ≤ laR M T ↔ ∃ j, i ≤ j ∧ j < T ∧ M.1 81 j = 0) := by
  intro T
  induction T with
  | zero =>
    intro i
    constructor
    · intro h
      have : laR M 0 = -1 := rfl
      omega
    · rintro ⟨j, -, h, -⟩
      exact absurd h (Nat.not_lt_zero _)
  | succ T ih =>
    intro i
    rw [laR]
    by_cases c : M.1 81 T = 0
    · rw [if_pos c]
      constructor
      · intro h
        exact ⟨T, by omega, by omega, c⟩
      · rintro ⟨j, h1, h2, -⟩
        omega
    · rw [if_neg c, ih]
      constructor
      · rintro ⟨j, h1, h2, h3⟩
        exact ⟨j, h1, by omega, h3⟩
      · rintro ⟨j, h1, h2, h3⟩
        by_cases z : j = T
        · rw [z] at h3
          exact absurd h3 c
        · exact ⟨j, h1, by omega, h3⟩
/-- the layout's steps -/
def cI (D : sDt) (bits d : Nat) (i : Nat) : oStp := stI D bits d ((layI D bits (sW D) 0).getD i (2, 0))
theorem cI_ok {D : sDt} (hD : okD D) {bits d : Nat} (hbW : bits < 2 ^ sW D) (hm : ixB bits 6 ≤ sE D) (hd : ∀ u, u < sW D → dig (sW D) d u < 3) : ∀ i, i < (layI D bits (sW D) 0).length → okS (cI D bits d i) := fun i hi => stI_ok hD bits hd (al_at _ i (al_lay hD (by have := pow_64 hD.1; omega) hm (sW D) 0 (by omega)) hi)
theorem cI_F {D : sDt} {lf ls : Nat → Int → Int} {f need : Int} {bits d : Nat} : okF lf ls (cI D bits d) (layI D bits (sW D) 0).length need f ↔ vl D lf ls f need bits d (sW D) 0 0 := by
  have h := okF_Ls (lf := lf) (ls := ls) (f := f) (need := need) (c := cI D bits d) (g := stI D bits d) (layI D bits (sW D) 0) 0 (fun i _ => by rw [Nat.zero_add]; rfl)
  rw [Nat.zero_add] at h
  have h2 := ok_lay (D := D) (lf := lf) (ls := ls) (f := f) (need := need) (bits := bits) (d := d) (sW D) 0 0
  have e0 : prV lf ls (cI D bits d) f 0 = 0 := rfl
  rw [e0] at h
  rw [← h2, ← h]
  unfold okF
  constructor
  · rintro ⟨q1, q2⟩
    exact ⟨fun i hi => by rw [Nat.zero_add]; exact q1 i hi, q2⟩
  · rintro ⟨q1, q2⟩
    exact ⟨fun i hi => by have := q1 i hi; rw [Nat.zero_add] at this; exact this, q2⟩
theorem cI_h {D : sDt} {bits d b : Nat} : hoS (cI D bits d) b (layI D bits (sW D) 0).length = hsD D bits d b (sW D) 0 := by
  have h := hoS_L (c := cI D bits d) (g := stI D bits d) (b := b) (layI D bits (sW D) 0) 0 (fun i _ => by rw [Nat.zero_add]; rfl)
  have e0 : hoS (cI D bits d) b 0 = 0 := rfl
  rw [Nat.zero_add, e0, ho_lay] at h
  rw [h]
  omega
theorem sI40 {N : Nat} {K : oK} {M Mb : oM} {l : Nat} (hg : iGnd M) (hge : iGear M) (hs : iSet M) (hy : iLay1 M l) (hF : fS M Mb) {D : sDt} (hDk : D = DkV M l (M.1 (oLy l) 7).toInt.toNat) (hD : okD D) {bits d : Nat} (hbW : bits < 2 ^ sW D) (hm : ixB bits 6 ≤ sE D) (hd3 : ∀ u, u < sW D → dig (sW D) d u < 3) {T : Nat} (hT : T = (layI D bits (sW D) 0).length) (hT24 : T ≤ 24) {e : Int} (he0 : -1 ≤ e) (he1 : e ≤ 25) (he : ∀ i, i < T → ((layI D bits (sW D) 0).getD i (2, 0)).1 = 1 → ((i : Int) ≤ e ↔ ¬ bits < 2 ^ (((layI D bits (sW D) 0).getD i (2, 0)).2 + 1))) :
    ∀ (n i : Nat) (M1 : oM), i ≤ T → T < i + n → fTh Mb M1 → M1.1 59 31 = nI T → M1.1 59 29 = M.1 (oLy l) 1 → (∀ j, j < T → lyR M M1 l (M.1 (oLy l) 7).toInt.toNat (sW D) d j ((layI D bits (sW D) 0).getD j (2, 0))) → (∀ j, j < i → isM M1 j (cI D bits d j)) →
    ∃ M2, f_X12_settle_40 N K n (iI e) (atW M l (M.1 (oLy l) 7).toInt.toNat (wcI (layI D bits (sW D) 0) i)) (nI i) M1 = some ((), M2) ∧ fTh Mb M2 ∧ oMr M2 (cI D bits d) T := by
  have h24 := hy.2.2.1.2.2
  have h00 := hy.2.2.1.2.1
  have hal := al_lay hD (bits := bits) (by have := pow_64 hD.1; omega) hm (sW D) 0 (by omega)
  have hor := ord_lay D bits (sW D) 0
  generalize hxs : layI D bits (sW D) 0 = xs at *
  intro n
  induction n with
  | zero => intro i M1 h1 h2; omega
  | succ n ih =>
    intro i M1 h1 h2 f h31 h29 hR hM
    have ei : (nI i).toInt = i := nI_toInt (by omega)
    have eT : (nI T).toInt = T := nI_toInt (by omega)
    rw [f_X12_settle_40]
    dsimp only
    rw [h31]
    by_cases c : T ≤ i
    · rw [if_pos (by rw [oLeI, ei, eT]; omega)]
      have : i = T := by omega
      subst this
      exact ⟨M1, rfl, f, h31, hM⟩
    · rw [if_neg (by rw [oLeI, ei, eT]; omega), h29]
      have hiL : i < xs.length := by omega
      have hcI : cI D bits d i = stI D bits d (xs.getD i (2, 0)) := by unfold cI; rw [hxs]
      have hws := wcI_s xs i hiL
      -- one step, with its lines
      have step : ∀ ln : Int32, ((xs.getD i (2, 0)).1 = 1 → ln.toInt = liD D bits (xs.getD i (2, 0)).2) → ∃ M2, f_X12_settle_79 N K (f_X12_settle_40 N K n) (iI e) (atW M l (M.1 (oLy l) 7).toInt.toNat (wcI xs i)) (nI i) ln (nI i) M1 = some ((), M2) ∧ fTh Mb M2 ∧ oMr M2 (cI D bits d) T := by
        intro ln hln
        have hx25 : ∀ A : Option (Unit × oM), oIx (nI i) 25 A = A := fun A => oIx_p (by omega) (by omega)
        unfold f_X12_settle_79 f_X12_settle_158 f_X12_settle_133
        simp only [hx25, nI_n (show i < 2147483648 by omega)]
        generalize hM3 : oUp (oUp M1 84 i ln) 85 i 0 = M3
        have f3 : fTh Mb M3 := by rw [← hM3]; exact .up (by decide) (.up (by decide) f)
        have a31 : M3.1 59 31 = nI T := by rw [← hM3]; simp [oUp_at, h31]
        have a29 : M3.1 59 29 = M.1 (oLy l) 1 := by rw [← hM3]; simp [oUp_at, h29]
        have a81 : M3.1 81 = M1.1 81 := by rw [← hM3]; unfold oUp; simp
        have a82 : M3.1 82 = M1.1 82 := by rw [← hM3]; unfold oUp; simp
        have a83 : M3.1 83 = M1.1 83 := by rw [← hM3]; unfold oUp; simp
        have a84 : ∀ j, M3.1 84 j = if j = i then ln else M1.1 84 j := fun j => by rw [← hM3]; simp [oUp_at]
        have a66 : M3.1 66 = M1.1 66 := by rw [← hM3]; unfold oUp; simp
        have old : ∀ j, j < i → isM M3 j (cI D bits d j) := by
          intro j hj
          have := hM j hj
          have a85 : M3.1 85 j = M1.1 85 j := by rw [← hM3, oUp_at, if_neg (by omega), oUp_ro _ _ _ _ (by decide)]
          unfold isM at this ⊢
          rw [a81, a82, a83, a84, a85, a66, if_neg (by omega)]
          exact this
        have hR3 : ∀ j, j < T → lyR M M3 l (M.1 (oLy l) 7).toInt.toNat (sW D) d j (xs.getD j (2, 0)) := fun j hj => (hR j hj).eq ⟨by rw [a81], by rw [a82], by rw [a83]⟩
        have g3 : fS M M3 := hF.tr (fS.th f3)
        have r64 : M3.1 64 = M.1 64 := g3.1 64 (by decide) (by decide)
        have r65 : M3.1 65 = M.1 65 := g3.1 65 (by decide) (by decide)
        have r66 : M3.1 66 = M.1 66 := g3.1 66 (by decide) (by decide)
        have r60 : M3.1 60 = M.1 60 := g3.1 60 (by decide) (by decide)
        have ali := al_at xs i hal hiL
        have orI := ord_at xs 0 i hor hiL
        rw [Nat.zero_add] at orI
        obtain ⟨k81, k82, k83⟩ := hR i (by omega)
        generalize hx : xs.getD i (2, 0) = x at *
        rw [a81, k81]
        by_cases c1 : x.1 = 1
        · -- a way
          have hk1 := orI c1
          rw [if_pos c1] at hws
          have hu : x.2 < sW D := by
            rcases ali with ⟨z, -⟩ | ⟨-, z⟩ | z
            · omega
            · exact z
            · omega
          have hu' : x.2 < wnM (M.1 (oLy l + 1)) (M.1 (oLy l) 7).toInt.toNat := by rw [hDk] at hu; exact hu
          obtain ⟨p1, p2, p3⟩ := wp_ok (M.1 (oLy l + 1)) (M.1 (oLy l) 7).toInt.toNat x.2 hu'
          obtain ⟨k82', k83'⟩ := k83 c1
          generalize hk : wpM (M.1 (oLy l + 1)) (M.1 (oLy l) 7).toInt.toNat x.2 = k at *
          have hkn : (k : Int) < (M.1 (oLy l) 7).toInt := by omega
          have eat : atW M l (M.1 (oLy l) 7).toInt.toNat (wcI xs i) = prevP M l k := by rw [at_k hy k (by omega), p3, hk1]
          have eat2 : atW M l (M.1 (oLy l) 7).toInt.toNat (wcI xs (i + 1)) = M.1 (oLy l + 4) k := by
            rw [hws]
            unfold atW
            rw [if_neg (by omega), show wcI xs i + 1 - 1 = wcI xs i by omega, ← hk1, hk]
          have hok := hy.2.2.2.2 k hkn
          obtain ⟨-, hee, ho⟩ := hok
          have hp := pt_k hy (k := k) (by omega)
          have h12 := hg.1.2.2
          rcases ho with ⟨q1, -⟩ | ⟨q1, q2, q3, q4⟩ | ⟨q1, -⟩
          · rw [q1] at p2; exact absurd p2 (by decide)
          · have hw20 := hg.2.1.2.2
            have hwx : ∀ A : Option (Unit × oM), oIx (M.1 (oLy l + 2) k) 20 A = A := fun A => oIx_p q2.1 (by omega)
            have hw := hg.2.2.1 (M.1 (oLy l + 2) k).toInt.toNat (by omega)
            have fin : ∀ s0 : Int32, s0 = M.1 (oLy l + 4) k → ∃ M2, oIx s0 21 (oIx (prevP M l k) 21 (f_X12_settle_40 N K n (iI e) s0 (nI i + 1) (oUp M3 85 i (M3.1 60 s0.toNatClampNeg - M3.1 60 (prevP M l k).toNatClampNeg)))) = some ((), M2) ∧ fTh Mb M2 ∧ oMr M2 (cI D bits d) T := by
              intro s0 es
              rw [oIx_p (by rw [es]; exact hee.1) (by rw [es]; omega), oIx_p hp.1 (by omega), nI_1]
              have := ih (i + 1) (oUp M3 85 i (M3.1 60 s0.toNatClampNeg - M3.1 60 (prevP M l k).toNatClampNeg)) (by omega) (by omega) (.up (by decide) f3) (by rw [oUp_at, if_neg (by omega)]; exact a31) (by rw [oUp_at, if_neg (by omega)]; exact a29) (fun j hj => (hR3 j hj).eq (by simp [oUp_at])) (fun j hj => by
                by_cases q : j = i
                · subst q
                  rw [hcI]
                  unfold stI
                  rw [if_neg (by omega), if_pos c1]
                  refine Or.inr (Or.inl ⟨rfl, ?_, ?_, ?_, ?_, ?_⟩)
                  · rw [oUp_at, if_neg (by omega), a81, k81, c1]
                    rfl
                  · rw [oUp_at, if_neg (by omega), a83, k83']
                  · rw [oUp_at, if_neg (by omega), a82, k82']
                    refine ⟨q2.1, by omega, ?_⟩
                    rw [oUp_at, if_neg (by omega), r66, hw.2.2]
                    dsimp only
                    rw [hDk, ← hk]
                    rfl
                  · rw [oUp_at, if_neg (by omega), a84, if_pos rfl]
                    exact hln c1
                  · rw [oUp_at, if_pos ⟨rfl, rfl⟩, r60, oTnn, oTnn, es]
                    have v1 := hs.2.2.1 (9 + (M.1 (oLy l + 4) k).toInt.toNat) (by omega)
                    have v2 := hs.2.2.1 (9 + (prevP M l k).toInt.toNat) (by omega)
                    have w1 := hs.2.1 (M.1 (oLy l + 4) k).toInt.toNat (by omega)
                    have w2 := hs.2.1 (prevP M l k).toInt.toNat (by omega)
                    have esc : sC D x.2 = htV M (M.1 (oLy l + 4) k) - htV M (prevP M l k) := by
                      rw [hDk, ← hk]
                      rfl
                    unfold iVal at v1 v2
                    dsimp only
                    rw [esc]
                    unfold htV
                    rw [w1, w2, Nat.add_comm _ 9, Nat.add_comm _ 9]
                    exact oSub (by omega) (by omega)
                · have := old j (by omega)
                  unfold isM at this ⊢
                  rw [oUp_at, if_neg (by omega), oUp_at, if_neg (by omega), oUp_at, if_neg (by omega), oUp_at, if_neg (by omega), oUp_at, if_neg (by omega), oUp_at, if_neg (by omega)]
                  exact this)
              rw [eat2, ← es] at this
              exact this
            rw [if_pos (by rw [c1]; rfl), a82, k82', eat, hwx, hwx, hwx, r64, r65, oTnn, hw.1, hw.2.1]
            rcases q4 with ⟨g1, g2⟩ | ⟨g1, g2, g3⟩
            · rw [if_pos (show _ = prevP M l k from g1)]
              exact fin _ g2.symm
            · rw [if_neg (show ¬ _ = prevP M l k from g1)]
              exact fin _ g3.symm
          · rw [q1] at p2; exact absurd p2 (by decide)
        · -- an engine, a tub
          have hx3 : x.1 < 3 := by
            rcases ali with ⟨z, -⟩ | ⟨z, -⟩ | z <;> omega
          rw [if_neg c1, Nat.add_zero] at hws
          rw [if_neg (by rw [show (1 : Int32) = nI 1 from rfl, nI_inj (by omega) (by omega)]; exact c1), nI_1]
          have := ih (i + 1) M3 (by omega) (by omega) f3 a31 a29 hR3 (fun j hj => by
            by_cases q : j = i
            · subst q
              rw [hcI]
              unfold stI
              by_cases c0 : x.1 = 0
              · rw [if_pos c0]
                refine Or.inl ⟨rfl, by rw [a81, k81, c0]; rfl, ?_⟩
                have he2 : x.2 < sE D := by
                  rcases ali with ⟨-, z⟩ | ⟨z, -⟩ | z
                  · exact z
                  · omega
                  · omega
                have he2' : x.2 < enM (M.1 (oLy l + 1)) (M.1 (oLy l) 7).toInt.toNat := by rw [hDk] at he2; exact he2
                have eo := ep_ok (M.1 (oLy l + 1)) (M.1 (oLy l) 7).toInt.toNat x.2 he2'
                obtain ⟨-, -, ho⟩ := hy.2.2.2.2 (epM (M.1 (oLy l + 1)) (M.1 (oLy l) 7).toInt.toNat x.2) (by omega)
                rw [a82, k82 c0]
                have hn : 0 ≤ (M.1 (oLy l + 2) (epM (M.1 (oLy l + 1)) (M.1 (oLy l) 7).toInt.toNat x.2)).toInt := by
                  rcases ho with ⟨-, z, -⟩ | ⟨z, -⟩ | ⟨z, -⟩
                  · exact z.1
                  · rw [eo.2] at z; exact absurd z (by decide)
                  · rw [eo.2] at z; exact absurd z (by decide)
                have eg : sG D x.2 = (M.1 (oLy l + 2) (epM (M.1 (oLy l + 1)) (M.1 (oLy l) 7).toInt.toNat x.2)).toInt.toNat := by
                  rw [hDk]
                  rfl
                dsimp only
                rw [eg]
                exact oNI (by omega)
              · rw [if_neg c0, if_neg c1]
                exact Or.inr (Or.inr ⟨rfl, by rw [a81, k81, show x.1 = 2 by omega]; rfl⟩)
            · exact old j (by omega))
          rw [hws] at this
          exact this
      -- lines
      have hK : M.1 (oLy l) 1 = sK D := by rw [hDk]; rfl
      have hei := he i (by omega)
      unfold liD at step
      rw [hK]
      by_cases d2 : sK D = 2
      · rw [if_pos d2]
        rw [if_pos d2] at step
        exact step 2 (fun _ => rfl)
      · rw [if_neg d2]
        rw [if_neg d2] at step
        by_cases d4 : sK D = 4
        · rw [if_pos d4]
          rw [if_pos d4] at step
          by_cases d5 : (i : Int) ≤ e
          · rw [if_pos (by rw [oLeI, ei, iI_t (by omega) (by omega)]; exact d5)]
            exact step 1 (fun hne => by rw [if_neg ((hei hne).mp d5)]; rfl)
          · rw [if_neg (by rw [oLeI, ei, iI_t (by omega) (by omega)]; exact d5)]
            exact step 2 (fun hne => by
              by_cases z : bits < 2 ^ ((xs.getD i (2, 0)).2 + 1)
              · rw [if_pos z]; rfl
              · exact absurd ((hei hne).mpr z) d5)
        · rw [if_neg d4]
          rw [if_neg d4] at step
          exact step 1 (fun _ => rfl)
/-- a layout laid out -/
theorem lay12 {N : Nat} (hN : 100 ≤ N) {K : oK} {M Mb : oM} {l : Nat} (hl : l < 20) (hg : iGnd M) (hge : iGear M) (hs : iSet M) (hy : iLay1 M l) (hF : fS M Mb) {D : sDt} (hDk : D = DkV M l (M.1 (oLy l) 7).toInt.toNat) (hD : okD D) {bits d : Nat} (hbW : bits < 2 ^ sW D) (hm : ixB bits 6 = sE D) (hd3 : ∀ u, u < sW D → dig (sW D) d u < 3) (hd : d < 2000000) (hH : lyH M Mb l (M.1 (oLy l) 7).toInt.toNat D bits) :
    ∃ M2, f_X12_lay N K (nI l) (nI d) Mb = some ((), M2) ∧ fTh Mb M2 ∧ oMr M2 (cI D bits d) (layI D bits (sW D) 0).length := by
  obtain ⟨M1, a1, s1, s2, s3, s4, s5⟩ := ly12 hN (K := K) hl hD hbW hm hd hH
  have hT24 := lay_le hD hm hbW
  have hal := al_lay hD (bits := bits) (by have := pow_64 hD.1; omega) (Nat.le_of_eq hm) (sW D) 0 (by omega)
  have hln := ln_lay hD hbW (sW D) 0 (by omega)
  generalize hT : (layI D bits (sW D) 0).length = T at *
  have k73 : Mb.1 73 l = M.1 (oLy l) 1 := by rw [hF.1 73 (by decide) (by decide)]; exact hy.1.2.1
  have k74 : Mb.1 74 l = M.1 (oLy l) 2 := by rw [hF.1 74 (by decide) (by decide)]; exact hy.2.1.1
  rw [k73] at s4
  rw [k74] at s5
  have h4 := set4 (N := N) (K := K) (M := M1) s2 (show T ≤ 25 by omega) N 0 (by omega) (by omega)
  have hb := laR_b M1 T
  have e81 : ∀ j, j < T → (M1.1 81 j = 0 ↔ ((layI D bits (sW D) 0).getD j (2, 0)).1 = 0) := fun j hj => by
    have hx := (s3 j hj).1
    have hx3 : ((layI D bits (sW D) 0).getD j (2, 0)).1 < 3 := by
      rcases al_at _ j hal (by omega) with ⟨z, -⟩ | ⟨z, -⟩ | z <;> omega
    rw [hx, show (0 : Int32) = nI 0 from rfl, nI_inj (by omega) (by omega)]
  obtain ⟨M2, b1, b2, b3⟩ := sI40 (N := N) (K := K) hg hge hs hy hF hDk hD hbW (Nat.le_of_eq hm) hd3 hT.symm hT24 (e := laR M1 T) hb.1 (by omega) (fun i hi h1 => by
    have q := ln_at _ i hln (by omega) h1
    rw [← q, laR_iff]
    constructor
    · rintro ⟨j, j1, j2, j3⟩ z
      rw [e81 j j2] at j3
      have : ¬ i = j := fun y => by rw [← y, h1] at j3; exact absurd j3 (by decide)
      exact z j (by omega) (by omega) j3
    · intro z
      refine Classical.byContradiction fun y => z fun j j1 j2 j3 => y ⟨j, by omega, by omega, ?_⟩
      rw [e81 j (by omega)]
      exact j3) N 0 M1 (by omega) (by omega) s1 s2 s4 s3 (fun j hj => absurd hj (Nat.not_lt_zero _))
  refine ⟨M2, ?_, b2, b3⟩
  have hw0 : wcI (layI D bits (sW D) 0) 0 = 0 := by cases layI D bits (sW D) 0 <;> rfl
  have h4' : f_X12_settle_4 N K N (-1) 0 M1 = _ := h4
  rw [hw0] at b1
  rw [a1]
  unfold f_X12_lay_173 f_X12_settle
  have b1' : f_X12_settle_40 N K N (iI (laR M1 T)) (M.1 (oLy l) 2) 0 M1 = some ((), M2) := b1
  rw [h4', s5, b1', oB2_p]
