/-! the most: one layout tried; all places; all bores -/
theorem bq_s : ∀ (w a dg b : Nat), bq w a dg → b < 3 → bq (w + 1) a (10 * dg + b) := by
  intro w
  induction w with
  | zero =>
    intro a dg b h hb
    have : dg = a := h
    rw [this]
    exact ⟨b, hb, rfl⟩
  | succ w ih =>
    intro a dg b h hb
    obtain ⟨b', hb', h'⟩ := h
    exact ⟨b', hb', ih _ _ _ h' hb⟩
theorem bq_6 {W d : Nat} (hW : W ≤ 6) (h : bq W 0 d) : d < 1000000 := by
  have h1 := (bq_g W 0 d h).2
  have h2 := (p10 hW).2
  omega
theorem pl40 {N : Nat} (hN : 100 ≤ N) {K : oK} {rS : Int32 → Int32 → Int32 → Int32 → Int32 → oM → Option (Unit × oM)} {D : sDt} (hD : okD D) {lf ls : Nat → Int → Int} {need : Int} {sto : Nat → Int} {V : Nat → Nat → Prop} {bits d : Nat} (hbW : bits < 2 ^ sW D) (hm : ixB bits 6 = sE D) {M : oM} (h45 : M.1 59 45 = nI (sE D)) (h90 : ∀ e, e < sE D → M.1 90 e = nI (itB bits 6 e)) (hB : BI D lf ls need sto V (M.1 59 46) (M.1 59 47) (M.1 59 48)) (hlt : ∀ b' d', V b' d' → d' * 10000 + pdg b' (sW D) ≤ d * 10000 + pdg bits (sW D)) {g : Int}
    (hg : (g = (M.1 59 46).toInt ∧ ∀ f, (M.1 59 46).toInt < f → f ≤ 600 → ¬ VQ D lf ls need sto bits d f) ∨ (((M.1 59 46).toInt < g ∧ g ≤ 600) ∧ VQ D lf ls need sto bits d g ∧ ∀ f, g < f → f ≤ 600 → ¬ VQ D lf ls need sto bits d f)) :
    ∃ M2, f_X12_placeFrom_40 N rS K (nI d) (iI g) M = some ((), M2) ∧ oFr [] [46, 47, 48] M M2 ∧ BI D lf ls need sto (fun b' d' => V b' d' ∨ (b' = bits ∧ d' = d)) (M2.1 59 46) (M2.1 59 47) (M2.1 59 48) := by
  have h6 := hD.1
  have h4 := hD.2.1
  have h64 := pow_64 h6
  have hr := BI_r hB
  have ws := (w_st (sW D) (by omega) bits hbW).1
  unfold f_X12_placeFrom_40
  rcases hg with ⟨g1, g2⟩ | ⟨g1, g2, g3⟩
  · rw [if_pos (by rw [oLeI, iI_t (by omega) (by omega)]; omega)]
    exact ⟨M, rfl, .rf, BI_no hB g2 hlt⟩
  · rw [if_neg (by rw [oLeI, iI_t (by omega) (by omega)]; omega)]
    have F : oFr [] [46, 47, 48] M (oUp (oUp (oUp M 59 46 (iI g)) 59 47 (nI d)) 59 48 0) := .up59 (by decide) (.up59 (by decide) (.up59 (by decide) .rf))
    obtain ⟨M2, a1, a2, a3⟩ := pl71 (N := N) (K := K) (rS := rS) (show bits < 64 by omega) hm h4 N 0 (oUp (oUp (oUp M 59 46 (iI g)) 59 47 (nI d)) 59 48 0) (by omega) (by omega) (by rw [F.2.1 45 (by decide)]; exact h45) (fun e he => by rw [F.1 90 (by decide) (by decide)]; exact h90 e he) (by rw [oUp_at, if_pos ⟨rfl, rfl⟩]; rfl)
    refine ⟨M2, a1, F.tr (a2.weak (by decide) (by decide)), ?_⟩
    rw [a3, a2.2.1 46 (by decide), a2.2.1 47 (by decide), oUp_at, if_neg (by omega), oUp_at, if_neg (by omega), oUp_at, if_pos ⟨rfl, rfl⟩, oUp_at, if_neg (by omega), oUp_at, if_pos ⟨rfl, rfl⟩, ← ws]
    exact BI_yes hB g1.1 g1.2 g2 g3 (by rw [ws]; exact pd_b bits (by omega) (by omega))
theorem cand12 {K : oK} {M : oM} (h : oInv K M) {N : Nat} (hN : 1000 ≤ N) {l : Nat} (hl : l < 20) (hy : iLay1 M l) {D : sDt} (hDk : D = DkV M l (M.1 (oLy l) 7).toInt.toNat) (hD : okD D) {bits d : Nat} (hbW : bits < 2 ^ sW D) (hm : ixB bits 6 = sE D) (hq : bq (sW D) 0 d) (need : Int32) {Mb : oM} (hF : fS M Mb) (hH : lyH M Mb l (M.1 (oLy l) 7).toInt.toNat D bits) {V : Nat → Nat → Prop} (hB : BI D (liftV M) (lossV M) need.toInt (stoM M) V (Mb.1 59 46) (Mb.1 59 47) (Mb.1 59 48)) (hlt : ∀ b' d', V b' d' → d' * 10000 + pdg b' (sW D) ≤ d * 10000 + pdg bits (sW D)) (rS : Int32 → Int32 → Int32 → Int32 → Int32 → oM → Option (Unit × oM)) :
    ∃ M2, oB2 (f_X12_lay N K (nI l) (nI d) Mb) (fun _ M9 => oB2 (f_X12_isStored N K M9) (fun v11 M12 => cond v11 (oB2 (f_X12_greatest N K need (0 : Int32) (M12.1 59 46) M12) (fun v14 M15 => (f_X12_placeFrom_40 N rS K (nI d) v14 M15))) ((f_X12_placeFrom_40 N rS K (nI d) (M12.1 59 46) M12)))) = some ((), M2) ∧ fCa Mb M2 ∧ BI D (liftV M) (lossV M) need.toInt (stoM M) (fun b' d' => V b' d' ∨ (b' = bits ∧ d' = d)) (M2.1 59 46) (M2.1 59 47) (M2.1 59 48) := by
  have hd := bq_6 hD.1 hq
  have hd3 : ∀ u, u < sW D → dig (sW D) d u < 3 := fun u hu => bq_d3 (sW D) 0 0 d (by omega) hq u (by omega) hu
  obtain ⟨M1, a1, a2, a3⟩ := lay12 (N := N) (by omega) (K := K) hl h.2.1 h.2.2.2.1 h.2.2.1 hy hF hDk hD hbW hm hd3 (by omega) hH
  have hF1 := hF.tr (fS.th a2)
  have h1 := h.scr hF1
  have hok := cI_ok hD hbW (Nat.le_of_eq hm) hd3
  have hT := lay_le hD hm hbW
  obtain ⟨v, b1, b2⟩ := iss12 (N := N) (by omega) (K := K) (M := M1) (show (layI D bits (sW D) 0).length ≤ 25 by omega) a3 hok
  obtain ⟨eL, eS, -⟩ := eLift hF1 (by decide)
  have hst : v = true ↔ ∀ b, b < 3 → hsD D bits d b (sW D) 0 ≤ stoM M b := by
    rw [b2]
    have e : ∀ b, b < 3 → (hoS (cI D bits d) b (layI D bits (sW D) 0).length ≤ (M1.1 60 (15 + b)).toInt ↔ hsD D bits d b (sW D) 0 ≤ stoM M b) := fun b hb => by
      have := h.2.2.1.1 (3 + b) (by omega)
      rw [cI_h, hF1.1 60 (by decide) (by decide), show 15 + b = 3 + b + 12 by omega, this]
      exact Iff.rfl
    exact ⟨fun q b hb => (e b hb).mp (q b hb), fun q b hb => (e b hb).mpr (q b hb)⟩
  have p46 : ∀ j, j ∉ [29, 30, 31] → M1.1 59 j = Mb.1 59 j := fun j hj => a2.2.1 j hj
  rw [a1, oB2_p, b1, oB2_p]
  have hr := BI_r hB
  cases v with
  | true =>
    have hs := hst.mp rfl
    rw [cond_true]
    obtain ⟨g, M2, c1, c2, c3⟩ := gra12 hN (K := K) (M := M1) h1.2.2.2.1 h1.2.2.1 (show (layI D bits (sW D) 0).length ≤ 25 by omega) a3 hok (need := need) (a := M1.1 59 46) (by rw [p46 46 (by decide)]; exact hr.1) (by rw [p46 46 (by decide)]; exact hr.2)
    rw [eL, eS] at c3
    rw [c1, oB2_p]
    have q46 : ∀ j, j ∉ [29, 30, 31, 38, 39] → M2.1 59 j = Mb.1 59 j := fun j hj => by
      rw [c2.2.1 j (fun z => hj (by simp at z ⊢; omega)), p46 j (fun z => hj (by simp at z ⊢; omega))]
    have q90 : M2.1 90 = Mb.1 90 := by rw [c2.1 90 (by decide) (by decide), a2.1 90 (by decide) (by decide)]
    have cv : ∀ f, okF (liftV M) (lossV M) (cI D bits d) (layI D bits (sW D) 0).length need.toInt f ↔ VQ D (liftV M) (lossV M) need.toInt (stoM M) bits d f := fun f => by
      rw [cI_F]
      exact ⟨fun z => ⟨z, hs⟩, fun z => z.1⟩
    have g46 : M1.1 59 46 = M2.1 59 46 := by rw [p46 46 (by decide), q46 46 (by decide)]
    obtain ⟨M3, d1, d2, d3⟩ := pl40 (N := N) (by omega) (K := K) (rS := rS) hD (lf := liftV M) (ls := lossV M) (need := need.toInt) (sto := stoM M) (V := V) (d := d) hbW hm (M := M2) (by rw [q46 45 (by decide)]; exact hH.1.2) (fun e he => by rw [q90]; exact hH.2.2.2.2 e he) (by rw [q46 46 (by decide), q46 47 (by decide), q46 48 (by decide)]; exact hB) hlt (g := g) (by
      rw [← g46]
      rcases c3 with ⟨k1, k2⟩ | ⟨k1, k2, k3⟩
      · exact Or.inl ⟨k1, fun f f0 f1 z => k2 f f0 f1 ((cv f).mpr z)⟩
      · exact Or.inr ⟨k1, (cv g).mp k2, fun f f0 f1 z => k3 f f0 f1 ((cv f).mpr z)⟩)
    exact ⟨M3, d1, ((a2.weak (by decide) (by decide)).tr (c2.weak (by decide) (by decide))).tr (d2.weak (by decide) (by decide)), d3⟩
  | false =>
    rw [cond_false]
    have q90 : M1.1 90 = Mb.1 90 := a2.1 90 (by decide) (by decide)
    have hno : ∀ f, ¬ VQ D (liftV M) (lossV M) need.toInt (stoM M) bits d f := fun f z => absurd (hst.mpr z.2) (by decide)
    obtain ⟨M3, d1, d2, d3⟩ := pl40 (N := N) (by omega) (K := K) (rS := rS) hD (lf := liftV M) (ls := lossV M) (need := need.toInt) (sto := stoM M) (V := V) (d := d) hbW hm (M := M1) (by rw [p46 45 (by decide)]; exact hH.1.2) (fun e he => by rw [q90]; exact hH.2.2.2.2 e he) (by rw [p46 46 (by decide), p46 47 (by decide), p46 48 (by decide)]; exact hB) hlt (g := (M1.1 59 46).toInt) (Or.inl ⟨rfl, fun f _ _ => hno f⟩)
    rw [iI_self] at d1
    exact ⟨M3, d1, (a2.weak (by decide) (by decide)).tr (d2.weak (by decide) (by decide)), d3⟩
/-! all places -/
theorem ad_b : ∀ w, w < 6 → ∀ p, p < 2 ^ w → ixB (p + 2 ^ w) 6 = ixB p 6 + 1 ∧ p + 2 ^ w < 2 ^ (w + 1) ∧ pdg (p + 2 ^ w) 6 = 10 * pdg p 6 + w ∧ itB (p + 2 ^ w) 6 (ixB p 6) = w := by decide +kernel
theorem ad_i : ∀ w, w < 6 → ∀ p, p < 2 ^ w → ∀ i, i < ixB p 6 → itB (p + 2 ^ w) 6 i = itB p 6 i := by decide +kernel
theorem ad_m : ∀ w, w < 6 → ∀ fr, fr < w + 1 → ∀ p, p < 2 ^ fr → (p + 2 ^ w) % 2 ^ fr = p := by decide +kernel
theorem eq_b : ∀ bits, bits < 64 → ∀ fr, fr < 7 → ixB bits 6 = ixB (bits % 2 ^ fr) 6 → bits = bits % 2 ^ fr := by decide +kernel
def lwB (bits : Nat) : Nat → Nat → Nat
  | 0, u => u
  | k + 1, u => if bits / 2 ^ u % 2 = 1 then u else lwB bits k (u + 1)
theorem lw_b : ∀ bits, bits < 64 → ∀ fr, fr < 7 → ixB (bits % 2 ^ fr) 6 < ixB bits 6 → lwB bits 6 fr < 6 ∧ fr ≤ lwB bits 6 fr ∧ bits % 2 ^ (lwB bits 6 fr + 1) = bits % 2 ^ fr + 2 ^ (lwB bits 6 fr) := by decide +kernel
theorem pd_g : ∀ bits, bits < 64 → ∀ k, k < 7 → pdg (bits % 2 ^ k) 6 * 10 ^ (ixB bits 6 - ixB (bits % 2 ^ k) 6) ≤ pdg bits 6 ∧ pdg bits 6 < (pdg (bits % 2 ^ k) 6 + 1) * 10 ^ (ixB bits 6 - ixB (bits % 2 ^ k) 6) := by decide +kernel
theorem pl_lt {b1 b2 E u w p : Nat} (h1 : b1 < 64) (h2 : b2 < 64) (e1 : ixB b1 6 = E) (e2 : ixB b2 6 = E) (hu : u < w) (hw : w < 6) (hp : p < 2 ^ u) (m1 : b1 % 2 ^ (u + 1) = p + 2 ^ u) (m2 : b2 % 2 ^ (w + 1) = p + 2 ^ w) : pdg b1 6 ≤ pdg b2 6 := by
  have hp2 : p < 2 ^ w := Nat.lt_of_lt_of_le hp (Nat.pow_le_pow_right (by decide) (by omega))
  have a1 := ad_b u (by omega) p hp
  have a2 := ad_b w hw p hp2
  have g1 := (pd_g b1 h1 (u + 1) (by omega)).2
  have g2 := (pd_g b2 h2 (w + 1) (by omega)).1
  rw [m1, a1.1, a1.2.2.1, e1] at g1
  rw [m2, a2.1, a2.2.2.1, e2] at g2
  have := Nat.mul_le_mul_right (10 ^ (E - (ixB p 6 + 1))) (show 10 * pdg p 6 + u + 1 ≤ 10 * pdg p 6 + w by omega)
  omega
abbrev fPl (M M' : oM) : Prop := oFr [81, 82, 83, 84, 85, 86, 90] [29, 30, 31, 38, 39, 46, 47, 48] M M'
theorem fS.pl {M M' : oM} (f : fPl M M') : fS M M' := f.weak (by decide) (by decide)
theorem mHasK.pl {M Mb M1 : oM} {l k : Nat} (h : mHasK M Mb l k) (f : fPl Mb M1) : mHasK M M1 l k := by
  unfold mHasK
  rw [f.2.1 44 (by decide), f.2.1 45 (by decide), f.1 87 (by decide) (by decide), f.1 88 (by decide) (by decide), f.1 89 (by decide) (by decide)]
  exact h
/-- the places gone through -/
def PV (D : sDt) (fr p d : Nat) (b' d' : Nat) : Prop := d' = d ∧ b' < 2 ^ sW D ∧ ixB b' 6 = sE D ∧ b' % 2 ^ fr = p
theorem plc {K : oK} {M : oM} (h : oInv K M) {N : Nat} (hN : 1000 ≤ N) {l : Nat} (hl : l < 20) (hy : iLay1 M l) {D : sDt} (hDk : D = DkV M l (M.1 (oLy l) 7).toInt.toNat) (hD : okD D) {d : Nat} (hq : bq (sW D) 0 d) (need : Int32) : ∀ (r n e fr p : Nat) (Mb : oM) (V : Nat → Nat → Prop), r < n → e + r = sE D → (0 < e ∨ r = 0) → fr ≤ sW D → p < 2 ^ fr → ixB p 6 = e → fS M Mb → mHasK M Mb l (M.1 (oLy l) 7).toInt.toNat → (∀ i, i < e → Mb.1 90 i = nI (itB p 6 i)) → BI D (liftV M) (lossV M) need.toInt (stoM M) V (Mb.1 59 46) (Mb.1 59 47) (Mb.1 59 48) → (∀ b' d', V b' d' → ∀ bits, bits < 2 ^ sW D → ixB bits 6 = sE D → bits % 2 ^ fr = p → d' * 10000 + pdg b' (sW D) ≤ d * 10000 + pdg bits (sW D)) →
    ∃ M2, f_X12_placeFrom N K n (nI l) (nI e) (nI fr) (nI d) need Mb = some ((), M2) ∧ fPl Mb M2 ∧ (∀ i, i < e → M2.1 90 i = Mb.1 90 i) ∧ BI D (liftV M) (lossV M) need.toInt (stoM M) (fun b' d' => V b' d' ∨ PV D fr p d b' d') (M2.1 59 46) (M2.1 59 47) (M2.1 59 48) := by
  have h6 := hD.1
  have h4 := hD.2.1
  have h64 := pow_64 h6
  intro r
  induction r with
  | zero =>
    intro n e fr p Mb V g1 g2 g3 g4 g5 g6 hF hm h90 hB hlt
    obtain ⟨n, rfl⟩ : ∃ m, n = m + 1 := ⟨n - 1, by omega⟩
    have hpW : p < 2 ^ sW D := Nat.lt_of_lt_of_le g5 (Nat.pow_le_pow_right (by decide) g4)
    have e45 : Mb.1 59 45 = nI (sE D) := by rw [hDk]; exact hm.1.2
    have hH : lyH M Mb l (M.1 (oLy l) 7).toInt.toNat D p := by
      refine ⟨⟨by rw [hDk]; exact hm.1.1, e45⟩, fun w hw => hm.2.1 w (by rw [hDk] at hw; exact hw), fun w hw => by rw [hDk]; exact hm.2.2.1 w hw, fun x hx => hm.2.2.2 x (by rw [hDk] at hx; exact hx), fun x hx => h90 x (by omega)⟩
    have hpm : p % 2 ^ fr = p := Nat.mod_eq_of_lt g5
    obtain ⟨M2, a1, a2, a3⟩ := cand12 h hN hl hy hDk hD hpW (by omega) hq need hF hH hB (fun b' d' q => hlt b' d' q p hpW (by omega) hpm) (f_X12_placeFrom N K n)
    rw [f_X12_placeFrom]
    dsimp only
    rw [e45, if_pos (by rw [show e = sE D by omega])]
    refine ⟨M2, a1, a2.weak (by decide) (by decide), fun i hi => by rw [a2.1 90 (by decide) (by decide)], a3.eq (fun b' d' => ?_)⟩
    constructor
    · rintro (q | ⟨q1, q2⟩)
      · exact Or.inl q
      · refine Or.inr ⟨q2, ?_, ?_, ?_⟩
        · rw [q1]; exact hpW
        · rw [q1]; omega
        · rw [q1]; exact hpm
    · rintro (q | ⟨q1, q2, q3, q4⟩)
      · exact Or.inl q
      · refine Or.inr ⟨?_, q1⟩
        have := eq_b b' (by omega) fr (by omega) (by rw [q4]; omega)
        rw [this, q4]
  | succ r ih =>
    intro n e fr p Mb V g1 g2 g3 g4 g5 g6 hF hm h90 hB hlt
    obtain ⟨n, rfl⟩ : ∃ m, n = m + 1 := ⟨n - 1, by omega⟩
    have e45 : Mb.1 59 45 = nI (sE D) := by rw [hDk]; exact hm.1.2
    have ee : (nI e).toInt = e := nI_toInt (by omega)
    have eW : (nI (sW D)).toInt = sW D := nI_toInt (by omega)
    have loop : ∀ (n2 w : Nat) (M1 : oM), fr ≤ w → w ≤ sW D → sW D < w + n2 → fPl Mb M1 → (∀ i, i < e → M1.1 90 i = Mb.1 90 i) → BI D (liftV M) (lossV M) need.toInt (stoM M) (fun b' d' => V b' d' ∨ (d' = d ∧ b' < 2 ^ sW D ∧ ixB b' 6 = sE D ∧ ∃ u, fr ≤ u ∧ u < w ∧ b' % 2 ^ (u + 1) = p + 2 ^ u)) (M1.1 59 46) (M1.1 59 47) (M1.1 59 48) →
        ∃ M2, f_X12_placeFrom_109 N (f_X12_placeFrom N K n) K n2 (nI l) (nI e) (nI d) need (nI w) M1 = some ((), M2) ∧ fPl Mb M2 ∧ (∀ i, i < e → M2.1 90 i = Mb.1 90 i) ∧ BI D (liftV M) (lossV M) need.toInt (stoM M) (fun b' d' => V b' d' ∨ (d' = d ∧ b' < 2 ^ sW D ∧ ixB b' 6 = sE D ∧ ∃ u, fr ≤ u ∧ u < sW D ∧ b' % 2 ^ (u + 1) = p + 2 ^ u)) (M2.1 59 46) (M2.1 59 47) (M2.1 59 48) := by
      intro n2
      induction n2 with
      | zero => intro w M1 k1 k2 k3; omega
      | succ n2 ih2 =>
        intro w M1 k1 k2 k3 f k90 kB
        have ew : (nI w).toInt = w := nI_toInt (by omega)
        have e44 : M1.1 59 44 = nI (sW D) := by rw [f.2.1 44 (by decide), hDk]; exact hm.1.1
        rw [f_X12_placeFrom_109]
        dsimp only
        rw [if_neg (by rw [oEqI, ee, tl_0]; omega), e44]
        unfold f_X12_placeFrom_123
        by_cases c : w = sW D
        · rw [if_pos (by rw [oLeI, ew, eW]; omega)]
          rw [c] at kB
          exact ⟨M1, rfl, f, k90, kB⟩
        · have hpw : p < 2 ^ w := Nat.lt_of_lt_of_le g5 (Nat.pow_le_pow_right (by decide) k1)
          have ab := ad_b w (by omega) p hpw
          have f2 : fPl Mb (oUp M1 90 e (nI w)) := .up (by decide) f
          rw [if_neg (by rw [oLeI, ew, eW]; omega), oIx_p (by omega) (by omega), nI_n (by omega), nI_1, nI_1]
          obtain ⟨M2, a1, a2, a3, a4⟩ := ih n (e + 1) (w + 1) (p + 2 ^ w) (oUp M1 90 e (nI w)) (fun b' d' => V b' d' ∨ (d' = d ∧ b' < 2 ^ sW D ∧ ixB b' 6 = sE D ∧ ∃ u, fr ≤ u ∧ u < w ∧ b' % 2 ^ (u + 1) = p + 2 ^ u)) (by omega) (by omega) (Or.inl (by omega)) (by omega) ab.2.1 (by omega) (hF.tr (fS.pl f2)) (hm.pl f2) (fun i hi => by
            rw [oUp_at]
            by_cases z : i = e
            · rw [if_pos ⟨rfl, z⟩, z, ← g6, ab.2.2.2]
            · rw [if_neg (fun y => z y.2), k90 i (by omega), h90 i (by omega), ad_i w (by omega) p hpw i (by omega)]) (by rw [oUp_ro _ _ _ _ (show (59 : Nat) ≠ 90 by decide)]; exact kB) (by
            rintro b' d' (q | ⟨q1, q2, q3, u, q4, q5, q6⟩) bits y1 y2 y3
            · refine hlt b' d' q bits y1 y2 ?_
              have hdv : 2 ^ fr ∣ 2 ^ (w + 1) := Nat.pow_dvd_pow 2 (by omega)
              rw [← Nat.mod_mod_of_dvd bits hdv, y3]
              exact ad_m w (by omega) fr (by omega) p g5
            · have hpu : p < 2 ^ u := Nat.lt_of_lt_of_le g5 (Nat.pow_le_pow_right (by decide) q4)
              have := pl_lt (b1 := b') (b2 := bits) (by omega) (by omega) q3 y2 q5 (by omega) hpu q6 y3
              rw [q1, (w_st (sW D) (by omega) b' q2).1, (w_st (sW D) (by omega) bits y1).1]
              omega)
          rw [a1, oB2_p]
          refine ih2 (w + 1) M2 (by omega) (by omega) (by omega) (f2.tr a2) (fun i hi => by rw [a3 i (by omega), oUp_at, if_neg (by omega)]; exact k90 i hi) (a4.eq (fun b' d' => ?_))
          constructor
          · rintro ((q | ⟨q1, q2, q3, u, q4, q5, q6⟩) | ⟨q1, q2, q3, q4⟩)
            · exact Or.inl q
            · exact Or.inr ⟨q1, q2, q3, u, q4, by omega, q6⟩
            · exact Or.inr ⟨q1, q2, q3, w, k1, by omega, q4⟩
          · rintro (q | ⟨q1, q2, q3, u, q4, q5, q6⟩)
            · exact Or.inl (Or.inl q)
            · by_cases z : u = w
              · rw [z] at q6
                exact Or.inr ⟨q1, q2, q3, q6⟩
              · exact Or.inl (Or.inr ⟨q1, q2, q3, u, q4, by omega, q6⟩)
    rw [f_X12_placeFrom]
    dsimp only
    rw [e45, if_neg (by rw [nI_inj (by omega) (by omega)]; omega)]
    obtain ⟨M2, a1, a2, a3, a4⟩ := loop N fr Mb (Nat.le_refl _) g4 (by omega) .rf (fun i _ => rfl) (hB.eq (fun b' d' => by
      constructor
      · intro q
        exact Or.inl q
      · rintro (q | ⟨-, -, -, u, q4, q5, -⟩)
        · exact q
        · omega))
    refine ⟨M2, a1, a2, a3, a4.eq (fun b' d' => ?_)⟩
    constructor
    · rintro (q | ⟨q1, q2, q3, u, q4, q5, q6⟩)
      · exact Or.inl q
      · refine Or.inr ⟨q1, q2, q3, ?_⟩
        have hdv : 2 ^ fr ∣ 2 ^ (u + 1) := Nat.pow_dvd_pow 2 (by omega)
        rw [← Nat.mod_mod_of_dvd b' hdv, q6]
        exact ad_m u (by omega) fr (by omega) p g5
    · rintro (q | ⟨q1, q2, q3, q4⟩)
      · exact Or.inl q
      · have lw := lw_b b' (by omega) fr (by omega) (by rw [q4]; omega)
        refine Or.inr ⟨q1, q2, q3, lwB b' 6 fr, lw.2.1, ?_, by rw [lw.2.2, q4]⟩
        have hge : 2 ^ lwB b' 6 fr ≤ b' := by
          have := Nat.mod_le b' (2 ^ (lwB b' 6 fr + 1))
          omega
        rcases Nat.lt_or_ge (lwB b' 6 fr) (sW D) with z | z
        · exact z
        · have := Nat.pow_le_pow_right (show 0 < 2 by decide) z
          omega
