/-! water through a laying: the reference reckons it -/
theorem set12 {N : Nat} (hN : 100 ≤ N) {K : oK} {M M1 : oM} {l md x : Nat} (hg : iGnd M) (hge : iGear M) (hs : iSet M) (hy : iLay1 M l) (hmd : md ≤ 2) (hx : md = 1 ∨ md = 2 → (x : Int) < (M.1 (oLy l) 7).toInt) (hx1 : md = 1 → M.1 (oLy l + 1) x = 0) (f : fTh M M1) (h31 : M1.1 59 31 = nI (cntI md x (M.1 (oLy l) 7).toInt.toNat)) (h29 : M1.1 59 29 = M.1 (oLy l) 1) (h30 : M1.1 59 30 = M.1 (oLy l) 2) (hR : ∀ j, j < cntI md x (M.1 (oLy l) 7).toInt.toNat → isR M M1 l md x j) :
    ∃ M2, f_X12_settle N K M1 = some ((), M2) ∧ fTh M M2 ∧ oMr M2 (coV M l md x) (cntI md x (M.1 (oLy l) 7).toInt.toNat) := by
  have h24 := hy.2.2.1.2.2
  have h00 := hy.2.2.1.2.1
  have hTb : cntI md x (M.1 (oLy l) 7).toInt.toNat ≤ 25 := by
    unfold cntI
    split
    · omega
    · split <;> omega
  unfold f_X12_settle
  have e1 := set4 (N := N) (K := K) h31 hTb N 0 (by omega) (by omega)
  have e2 : f_X12_settle_4 N K N (-1) 0 M1 = f_X12_settle_4 N K N (iI (laR M1 0)) (nI 0) M1 := rfl
  rw [e2, e1, laR_ok _ hR, h30]
  obtain ⟨M2, a1, a2, a3⟩ := set40 (N := N) (K := K) hg hge hs hy hmd hx hx1 rfl N 0 M1 (by omega) (by omega) f h31 h29 hR (fun j hj => by omega)
  have e3 : prevP M l (srcI md x 0) = M.1 (oLy l) 2 := by
    unfold srcI
    by_cases q : md = 1 ∧ x ≤ 0
    · rw [if_pos q]
      have hx0 : x = 0 := by omega
      have h0 := hx1 q.1
      have h1 := hx (Or.inl q.1)
      rw [hx0] at h0 h1
      rw [prev_k hy h1 (by rw [h0]; decide)]
      rfl
    · rw [if_neg q, if_neg (by omega)]
      rfl
  rw [e3] at a1
  exact ⟨M2, a1, a2, a3⟩
theorem think12 {N : Nat} (hN : 100 ≤ N) {K : oK} {M : oM} {l : Nat} (hl : l < 20) (hg : iGnd M) (hge : iGear M) (hs : iSet M) (hy : iLay1 M l) : ∃ M2, f_X12_think N K (nI l) M = some ((), M2) ∧ fTh M M2 ∧ oMr M2 (coV M l 0 0) (M.1 (oLy l) 7).toInt.toNat := by
  have el : (nI l).toInt = l := nI_toInt (by omega)
  have hc : ∀ k, cntI 0 0 k = k := fun k => by unfold cntI; rw [if_neg (by omega), if_neg (by omega)]
  obtain ⟨⟨y1, y2, -⟩, ⟨y3, -⟩, ⟨y4, y5, y6⟩, -⟩ := id hy
  generalize hM1 : oUp (oUp (oUp M 59 29 (M.1 73 l)) 59 30 (M.1 74 l)) 59 31 0 = M1
  have f1 : fTh M M1 := by rw [← hM1]; exact .up59 (by decide) (.up59 (by decide) (.up59 (by decide) .rf))
  obtain ⟨M2, a1, a2, a3, a4, a5, a6⟩ := thk30 (N := N) (K := K) hl hy N 0 M1 (by omega) (by omega) f1 (by rw [← hM1]; simp [oUp_at]; rfl) (fun i hi => by omega)
  obtain ⟨M3, b1, b2, b3⟩ := set12 hN (K := K) (l := l) (md := 0) (x := 0) hg hge hs hy (by omega) (by omega) (by omega) a2 (by rw [hc]; exact a3) (by rw [a5, ← hM1]; simp [oUp_at]; rw [y2]) (by rw [a6, ← hM1]; simp [oUp_at]; rw [y3]) (by rw [hc]; exact a4)
  rw [hc] at b3
  refine ⟨M3, ?_, b2, b3⟩
  unfold f_X12_think
  have ea : (oUp M 59 29 (M.1 73 l)).1 74 l = M.1 74 l := by simp [oUp_at]
  have ez : 24 * nI l + nI 0 = 24 * nI l := Int32.add_zero _
  rw [oIx_p (by omega) (by omega), oIx_p (by omega) (by omega), nI_n (by omega), ea, hM1]
  rw [ez] at a1
  rw [a1, b1, oB2_p]
theorem thinkBut12 {N : Nat} (hN : 100 ≤ N) {K : oK} {M : oM} {l md x : Nat} (hl : l < 20) (hg : iGnd M) (hge : iGear M) (hs : iSet M) (hy : iLay1 M l) (hmd : md = 1 ∨ md = 2) (hx : (x : Int) < (M.1 (oLy l) 7).toInt) (hx1 : md = 1 → M.1 (oLy l + 1) x = 0) : ∃ M2, f_X12_thinkBut N K (nI l) (nI x) (if md = 1 then 0 else 1) M = some ((), M2) ∧ fTh M M2 ∧ oMr M2 (coV M l md x) (cntI md x (M.1 (oLy l) 7).toInt.toNat) := by
  have el : (nI l).toInt = l := nI_toInt (by omega)
  obtain ⟨⟨y1, y2, -⟩, ⟨y3, -⟩, ⟨y4, y5, y6⟩, -⟩ := id hy
  have hc0 : cntI md x 0 = 0 := by unfold cntI; rw [if_neg (by omega), if_neg (by omega)]
  generalize hM1 : oUp (oUp (oUp M 59 29 (M.1 73 l)) 59 30 (M.1 74 l)) 59 31 0 = M1
  have f1 : fTh M M1 := by rw [← hM1]; exact .up59 (by decide) (.up59 (by decide) (.up59 (by decide) .rf))
  obtain ⟨M2, a1, a2, a3, a4, a5, a6⟩ := thb28 (N := N) (K := K) hl hy hmd hx N 0 M1 (by omega) (by omega) f1 (by rw [hc0, ← hM1]; simp [oUp_at]; rfl) (fun i hi => by rw [hc0] at hi; omega)
  obtain ⟨M3, b1, b2, b3⟩ := set12 hN (K := K) (l := l) (md := md) (x := x) hg hge hs hy (by omega) (fun _ => hx) hx1 a2 a3 (by rw [a5, ← hM1]; simp [oUp_at]; rw [y2]) (by rw [a6, ← hM1]; simp [oUp_at]; rw [y3]) a4
  refine ⟨M3, ?_, b2, b3⟩
  unfold f_X12_thinkBut
  have ea : (oUp M 59 29 (M.1 73 l)).1 74 l = M.1 74 l := by simp [oUp_at]
  rw [oIx_p (by omega) (by omega), oIx_p (by omega) (by omega), nI_n (by omega), ea, hM1]
  rw [show (0 : Int32) = nI 0 from rfl] at a1 ⊢
  rw [a1, b1, oB2_p]
def gM (M : oM) (i : Nat) (v : Int32) (a b : Int) : oM := oUp (oUp (oUp M 86 i v) 59 38 (iI a)) 59 39 (iI b)
theorem g182 {N : Nat} {K : oK} (r : Int32 → Int32 → Int32 → oM → Option (Int32 × oM)) {M : oM} {f v p4 p5 : Int32} {i : Nat} (hi : i < 25) {a b : Int} (ha : M.1 59 38 = iI a) (hb : M.1 59 39 = iI b) (ra : -1 ≤ a ∧ a ≤ 30) (rb : -1 ≤ b ∧ b ≤ 30) : f_X12_goThrough_182 N K r f v (nI i) p4 p5 M = r f v (nI (i + 1)) (gM M i v (if ¬ p4 = 0 ∧ a < 0 then i else a) (if (¬ p4 = 0 ∨ ¬ p5 = 0) ∧ b < 0 then i else b)) := by
  have ei : (nI i).toInt = i := nI_toInt (by omega)
  have k38 : (oUp M 86 i v).1 59 38 = iI a := by rw [oUp_at, if_neg (by omega)]; exact ha
  have k39 : ∀ w : Int32, (oUp (oUp M 86 i v) 59 38 w).1 59 39 = iI b := fun w => by rw [oUp_at, if_neg (by omega), oUp_at, if_neg (by omega)]; exact hb
  have sa : (0 ≤ iI a) ↔ ¬ a < 0 := by rw [oLeI, tl_0, iI_t (by omega) (by omega)]; omega
  have sb : (0 ≤ iI b) ↔ ¬ b < 0 := by rw [oLeI, tl_0, iI_t (by omega) (by omega)]; omega
  unfold f_X12_goThrough_182 f_X12_goThrough_206 f_X12_goThrough_210 f_X12_goThrough_224 f_X12_goThrough_235 f_X12_goThrough_239 gM
  rw [oIx_p (by omega) (by omega), nI_n (by omega), nI_1]
  simp only [k38, k39]
  by_cases c4 : p4 = 0
  · by_cases c5 : p5 = 0
    · simp [c4, c5]
    · by_cases cb : b < 0
      · simp [c4, c5, sb, cb, iI_nI]
      · simp [c4, c5, sb, cb]
  · by_cases ca : a < 0
    · by_cases cb : b < 0
      · simp [c4, sa, sb, ca, cb, iI_nI]
      · simp [c4, sa, sb, ca, cb, iI_nI]
    · by_cases cb : b < 0
      · simp [c4, sa, sb, ca, cb, iI_nI]
      · simp [c4, sa, sb, ca, cb, iI_nI]
/-- the frame of going through -/
abbrev fGo (M M' : oM) : Prop := oFr [86] [38, 39] M M'
theorem fst_s {P : Nat → Prop} {i : Nat} {p : Prop} [Decidable p] (h : p ↔ P i) : (if p ∧ fstI P i < 0 then (i : Int) else fstI P i) = fstI P (i + 1) := by
  have hb : fstI P i = -1 ∨ 0 ≤ fstI P i := by
    rcases fstI_c P i with ⟨h1, -⟩ | ⟨h1, -⟩
    · exact Or.inl h1
    · exact Or.inr h1
  rw [fstI]
  by_cases c : P i
  · rw [if_pos c]
    rcases hb with hb | hb
    · rw [if_pos ⟨h.mpr c, by omega⟩, if_neg (by omega)]
    · rw [if_neg (fun q => by omega), if_pos hb]
  · rw [if_neg c]
    rcases hb with hb | hb
    · rw [if_neg (fun q => c (h.mp q.1)), if_neg (by omega), hb]
    · rw [if_neg (fun q => by omega), if_pos hb]
theorem fst_r (P : Nat → Prop) (i : Nat) : -1 ≤ fstI P i ∧ (fstI P i < i ∨ fstI P i = -1) := by
  rcases fstI_c P i with ⟨h1, -⟩ | ⟨h1, h2, -⟩ <;> omega
theorem go14 {N : Nat} {K : oK} {M : oM} (hge : iGear M) (hs : iSet M) {c : Nat → oStp} {T : Nat} (hT : T ≤ 25) (hM : oMr M c T) (ho : ∀ i, i < T → okS (c i)) {f : Int32} (f0 : 0 ≤ f.toInt) (f1 : f.toInt ≤ 600) :
    ∀ (n i : Nat) (M1 : oM), i ≤ T → T < i + n → fGo M M1 → M1.1 59 38 = iI (fstI (bad0 (liftV M) (lossV M) c f.toInt) i) → M1.1 59 39 = iI (fstI (bad1 (liftV M) (lossV M) (fun b => (M.1 2 b).toInt) c f.toInt) i) → (∀ j, j < i → M1.1 86 j = iI (prV (liftV M) (lossV M) c f.toInt (j + 1))) →
    ∃ M2, f_X12_goThrough_14 N K n f (iI (prV (liftV M) (lossV M) c f.toInt i)) (nI i) M1 = some (iI (prV (liftV M) (lossV M) c f.toInt T), M2) ∧ fGo M M2 ∧ M2.1 59 38 = iI (fstI (bad0 (liftV M) (lossV M) c f.toInt) T) ∧ M2.1 59 39 = iI (fstI (bad1 (liftV M) (lossV M) (fun b => (M.1 2 b).toInt) c f.toInt) T) ∧ ∀ j, j < T → M2.1 86 j = iI (prV (liftV M) (lossV M) c f.toInt (j + 1)) := by
  have hb := fun i hi => prV_b (okT_M hge hs) ho f0 f1 i hi
  have eT : (nI T).toInt = T := nI_toInt (by omega)
  intro n
  induction n with
  | zero => intro i M1 h1 h2; omega
  | succ n ih =>
    intro i M1 h1 h2 fr h38 h39 h86
    have ei : (nI i).toInt = i := nI_toInt (by omega)
    have b := hb i h1
    have eb : (iI (prV (liftV M) (lossV M) c f.toInt i)).toInt = prV (liftV M) (lossV M) c f.toInt i := iI_t (by omega) (by omega)
    have r31 : M1.1 59 31 = nI T := by rw [fr.2.1 31 (by decide)]; exact hM.1
    have r81 : M1.1 81 = M.1 81 := fr.1 81 (by decide) (by decide)
    have r82 : M1.1 82 = M.1 82 := fr.1 82 (by decide) (by decide)
    have r83 : M1.1 83 = M.1 83 := fr.1 83 (by decide) (by decide)
    have r84 : M1.1 84 = M.1 84 := fr.1 84 (by decide) (by decide)
    have r85 : M1.1 85 = M.1 85 := fr.1 85 (by decide) (by decide)
    have r66 : M1.1 66 = M.1 66 := fr.1 66 (by decide) (by decide)
    have r60 : M1.1 60 = M.1 60 := fr.1 60 (by decide) (by decide)
    have hge1 := hge.fr fr (by decide) (by decide)
    have hs1 := hs.fr fr (by decide) (by decide)
    have eL : liftV M1 = liftV M := by unfold liftV; rw [fr.1 15 (by decide) (by decide), fr.1 16 (by decide) (by decide)]
    have eS : lossV M1 = lossV M := by unfold lossV; rw [fr.1 15 (by decide) (by decide), fr.1 16 (by decide) (by decide), fr.1 2 (by decide) (by decide)]
    rw [f_X12_goThrough_14]
    dsimp only
    rw [r31]
    by_cases c1 : T ≤ i
    · have : i = T := by omega
      subst this
      rw [if_pos (by rw [oLeI, eT]; omega)]
      exact ⟨M1, rfl, fr, h38, h39, h86⟩
    · have hiT : i < T := by omega
      have b2 := hb (i + 1) (by omega)
      have eb2 : (iI (prV (liftV M) (lossV M) c f.toInt (i + 1))).toInt = prV (liftV M) (lossV M) c f.toInt (i + 1) := iI_t (by omega) (by omega)
      have hx : ∀ A : Option (Int32 × oM), oIx (nI i) 25 A = A := fun A => oIx_p (by omega) (by omega)
      rw [if_neg (by rw [oLeI, eT, ei]; omega), hx, nI_n (by omega), r81]
      have ra := fst_r (bad0 (liftV M) (lossV M) c f.toInt) i
      have rb := fst_r (bad1 (liftV M) (lossV M) (fun b => (M.1 2 b).toInt) c f.toInt) i
      have next : ∀ (p4 p5 : Int32), (¬ p4 = 0 ↔ bad0 (liftV M) (lossV M) c f.toInt i) → ((¬ p4 = 0 ∨ ¬ p5 = 0) ↔ bad1 (liftV M) (lossV M) (fun b => (M.1 2 b).toInt) c f.toInt i) →
          ∃ M2, f_X12_goThrough_182 N K (f_X12_goThrough_14 N K n) f (iI (prV (liftV M) (lossV M) c f.toInt (i + 1))) (nI i) p4 p5 M1 = some (iI (prV (liftV M) (lossV M) c f.toInt T), M2) ∧ fGo M M2 ∧ M2.1 59 38 = iI (fstI (bad0 (liftV M) (lossV M) c f.toInt) T) ∧ M2.1 59 39 = iI (fstI (bad1 (liftV M) (lossV M) (fun b => (M.1 2 b).toInt) c f.toInt) T) ∧ ∀ j, j < T → M2.1 86 j = iI (prV (liftV M) (lossV M) c f.toInt (j + 1)) := by
        intro p4 p5 h4 h5
        rw [g182 _ (by omega) h38 h39 (by omega) (by omega), fst_s h4, fst_s h5]
        refine ih (i + 1) _ (by omega) (by omega) (.up59 (by decide) (.up59 (by decide) (.up (by decide) fr))) ?_ ?_ (fun j hj => ?_)
        · unfold gM; simp [oUp_at]
        · unfold gM; simp [oUp_at]
        · unfold gM
          by_cases q : j = i
          · simp [oUp_at, q]
          · simp [oUp_at, q]
            exact h86 j (by omega)
      have hpr : ∀ s, c i = s → stV (liftV M) (lossV M) s (prV (liftV M) (lossV M) c f.toInt i) f.toInt = prV (liftV M) (lossV M) c f.toInt (i + 1) := fun s hs => by rw [← hs]; rfl
      -- the fault ahead of what is no way
      have ahead : ¬ (c i).1 = 1 → ∀ (A : Int32 → Option (Int32 × oM)) (R : Option (Int32 × oM) → Prop), (∀ s0 : Int32, (¬ s0 = 0 ↔ bad0 (liftV M) (lossV M) c f.toInt i) → R (A s0)) → R (if 0 ≤ iI (prV (liftV M) (lossV M) c f.toInt i) then A 0 else A 1) := by
        intro hne A R hA
        by_cases q : 0 ≤ prV (liftV M) (lossV M) c f.toInt i
        · rw [if_pos (by rw [oLeI, tl_0, eb]; exact q)]
          exact hA 0 ⟨fun z => absurd rfl z, fun z => by have := z.2; omega⟩
        · rw [if_neg (by rw [oLeI, tl_0, eb]; exact q)]
          exact hA 1 ⟨fun _ => ⟨hne, by omega⟩, fun _ => by decide⟩
      have b1iff : ¬ (c i).1 = 1 → ∀ s0 : Int32, (¬ s0 = 0 ↔ bad0 (liftV M) (lossV M) c f.toInt i) → ((¬ s0 = 0 ∨ ¬ (0 : Int32) = 0) ↔ bad1 (liftV M) (lossV M) (fun b => (M.1 2 b).toInt) c f.toInt i) := by
        intro hne s0 h0
        unfold bad1
        constructor
        · rintro (q | q)
          · exact Or.inl (h0.mp q)
          · exact absurd rfl q
        · rintro (q | q)
          · exact Or.inl (h0.mpr q)
          · exact absurd q.1 hne
      rcases hM.2 i hiT with ⟨s1, c2, c3⟩ | ⟨s1, c2, c3, ⟨c4, c5, c6⟩, c7, c8⟩ | ⟨s1, c2⟩
      · have he : (c i).2.1 < 6 := by
          rcases ho i hiT with ⟨q1, q2⟩ | ⟨q1, q2⟩ | q1
          · exact q2
          · omega
          · omega
        have hbl := liftV_b hge (e := (c i).2.1) he f0 f1
        have en : (nI (c i).2.1).toInt = (c i).2.1 := nI_toInt (by omega)
        rw [if_neg (by rw [c2]; decide)]
        unfold f_X12_goThrough_40
        refine ahead (by omega) (fun s0 => f_X12_goThrough_41 N K (f_X12_goThrough_14 N K n) f (iI (prV (liftV M) (lossV M) c f.toInt i)) (nI i) s0 M1) (fun o => ∃ M2, o = some (iI (prV (liftV M) (lossV M) c f.toInt T), M2) ∧ fGo M M2 ∧ M2.1 59 38 = iI (fstI (bad0 (liftV M) (lossV M) c f.toInt) T) ∧ M2.1 59 39 = iI (fstI (bad1 (liftV M) (lossV M) (fun b => (M.1 2 b).toInt) c f.toInt) T) ∧ ∀ j, j < T → M2.1 86 j = iI (prV (liftV M) (lossV M) c f.toInt (j + 1))) (fun s0 h0 => ?_)
        unfold f_X12_goThrough_41
        rw [hx, nI_n (by omega), r81, if_pos c2, hx, r82, c3, lift12 hge1 (by omega) (by omega) f0 f1, oB2_p, nI_n (by omega), eL]
        have e1 : iI (prV (liftV M) (lossV M) c f.toInt i) + iI (liftV M (c i).2.1 f.toInt) = iI (prV (liftV M) (lossV M) c f.toInt (i + 1)) := by
          refine iI_of ?_
          rw [oAdd (by rw [eb, iI_t (by omega) (by omega)]; omega) (by rw [eb, iI_t (by omega) (by omega)]; omega), eb, iI_t (by omega) (by omega), ← hpr _ rfl]
          unfold stV
          rw [if_pos s1]
        rw [e1]
        exact next s0 0 h0 (b1iff (by omega) s0 h0)
      · rcases ho i hiT with ⟨q1, q2⟩ | ⟨q1, q2, ⟨q3, q4⟩, q5, q6, q7⟩ | q1
        · omega
        · have en : (nI (c i).2.1).toInt = (c i).2.1 := nI_toInt (by omega)
          have e12 : (12 + nI (c i).2.1).toInt = 12 + (c i).2.1 := by rw [oAdd (by rw [tl_12, en]; omega) (by rw [tl_12, en]; omega), tl_12, en]
          have n12 : (12 + nI (c i).2.1).toNatClampNeg = (c i).2.1 + 12 := by rw [oTnn, e12]; omega
          have h60 : M.1 60 ((c i).2.1 + 12) = M.1 2 (c i).2.1 := hs.1 (c i).2.1 (by omega)
          rw [if_pos c2]
          unfold f_X12_goThrough_40 f_X12_goThrough_41
          rw [hx, nI_n (by omega), r81, if_neg (by rw [c2]; decide), hx, if_neg (by rw [c2]; decide), hx, r83, c3, oIx_p (by omega) (by omega), hx, r82, oIx_p c4 (by omega), hx, hx, r84, n12, r60, h60, r66, oTnn]
          have go1 : ∀ g : Int32, 0 ≤ g.toInt → g.toInt ≤ 600 → prV (liftV M) (lossV M) c f.toInt (i + 1) = prV (liftV M) (lossV M) c f.toInt i - (c i).2.2.1 * lossV M (c i).2.1 g.toInt - 43 * (c i).2.2.2.2 → 
              ∃ M2, f_X12_goThrough_144 N K (f_X12_goThrough_14 N K n) f (nI i) 0 (iI (prV (liftV M) (lossV M) c f.toInt i)) (M.1 2 (c i).2.1) g (nI (c i).2.1) (M.1 66 (M.1 82 i).toInt.toNat) (iI (prV (liftV M) (lossV M) c f.toInt i)) M1 = some (iI (prV (liftV M) (lossV M) c f.toInt T), M2) ∧ fGo M M2 ∧ M2.1 59 38 = iI (fstI (bad0 (liftV M) (lossV M) c f.toInt) T) ∧ M2.1 59 39 = iI (fstI (bad1 (liftV M) (lossV M) (fun b => (M.1 2 b).toInt) c f.toInt) T) ∧ ∀ j, j < T → M2.1 86 j = iI (prV (liftV M) (lossV M) c f.toInt (j + 1)) := by
            intro g g0 g1 hv
            have hbs := lossV_b hge hs (b := (c i).2.1) q2 g0 g1
            have hm := mulB (show 0 ≤ (c i).2.2.1 by omega) q4 hbs.1 hbs.2
            have ev : (iI (lossV M (c i).2.1 g.toInt)).toInt = lossV M (c i).2.1 g.toInt := iI_t (by omega) (by omega)
            have em : (M.1 66 (M.1 82 i).toInt.toNat * iI (lossV M (c i).2.1 g.toInt)).toInt = (c i).2.2.1 * lossV M (c i).2.1 g.toInt := by rw [oMul (by rw [ev, c6]; omega) (by rw [ev, c6]; omega), ev, c6]
            have e43 : (43 * M.1 85 i).toInt = 43 * (c i).2.2.2.2 := by rw [oMul (by rw [tl_43, c8]; omega) (by rw [tl_43, c8]; omega), tl_43, c8]
            have es1 : (iI (prV (liftV M) (lossV M) c f.toInt i) - M.1 66 (M.1 82 i).toInt.toNat * iI (lossV M (c i).2.1 g.toInt)).toInt = prV (liftV M) (lossV M) c f.toInt i - (c i).2.2.1 * lossV M (c i).2.1 g.toInt := by rw [oSub (by rw [em, eb]; omega) (by rw [em, eb]; omega), em, eb]
            have es : iI (prV (liftV M) (lossV M) c f.toInt i) - M.1 66 (M.1 82 i).toInt.toNat * iI (lossV M (c i).2.1 g.toInt) - 43 * M.1 85 i = iI (prV (liftV M) (lossV M) c f.toInt (i + 1)) := by
              refine iI_of ?_
              rw [oSub (by rw [es1, e43]; omega) (by rw [es1, e43]; omega), es1, e43, hv]
            unfold f_X12_goThrough_144 f_X12_goThrough_175 f_X12_goThrough_180
            rw [lost12 hge1 hs1 (by omega) (by omega) g0 g1, oB2_p, hx, nI_n (show i < 2147483648 by omega), nI_n (show (c i).2.1 < 2147483648 by omega), eS, r85, es]
            have n0 : ¬ bad0 (liftV M) (lossV M) c f.toInt i := fun q => q.1 s1
            have i0 : ¬ (0 : Int32) = 0 ↔ bad0 (liftV M) (lossV M) c f.toInt i := ⟨fun q => absurd rfl q, fun q => absurd q n0⟩
            by_cases k1 : (M.1 2 (c i).2.1).toInt < prV (liftV M) (lossV M) c f.toInt i
            · rw [if_pos (by rw [oLtI, eb]; exact k1)]
              exact next 0 1 i0 ⟨fun _ => Or.inr ⟨s1, Or.inl k1⟩, fun _ => Or.inr (by decide)⟩
            · rw [if_neg (by rw [oLtI, eb]; exact k1)]
              by_cases k2 : prV (liftV M) (lossV M) c f.toInt (i + 1) ≤ (M.1 2 (c i).2.1).toInt
              · rw [if_pos (by rw [oLeI, eb2]; exact k2)]
                refine next 0 0 i0 ⟨fun q => ?_, fun q => ?_⟩
                · rcases q with q | q <;> exact absurd rfl q
                · rcases q with q | q
                  · exact absurd q n0
                  · have := q.2
                    dsimp only at this
                    omega
              · rw [if_neg (by rw [oLeI, eb2]; exact k2)]
                exact next 0 1 i0 ⟨fun _ => Or.inr ⟨s1, Or.inr (by dsimp only; omega)⟩, fun _ => Or.inr (by decide)⟩
          have hst := hpr _ rfl
          unfold stV at hst
          rw [if_neg (by omega), if_pos s1] at hst
          by_cases q : (c i).2.2.2.1 = 2
          · have hh := half1 f0 f1
            rw [if_pos q] at hst
            rw [if_pos (by rw [oEqI, c7, q, tl_2])]
            exact go1 _ (by omega) (by omega) (by rw [hh]; exact hst.symm)
          · rw [if_neg q] at hst
            rw [if_neg (by rw [oEqI, c7, tl_2]; exact q)]
            exact go1 _ f0 f1 hst.symm
        · omega
      · rw [if_neg (by rw [c2]; decide)]
        unfold f_X12_goThrough_40
        refine ahead (by omega) (fun s0 => f_X12_goThrough_41 N K (f_X12_goThrough_14 N K n) f (iI (prV (liftV M) (lossV M) c f.toInt i)) (nI i) s0 M1) (fun o => ∃ M2, o = some (iI (prV (liftV M) (lossV M) c f.toInt T), M2) ∧ fGo M M2 ∧ M2.1 59 38 = iI (fstI (bad0 (liftV M) (lossV M) c f.toInt) T) ∧ M2.1 59 39 = iI (fstI (bad1 (liftV M) (lossV M) (fun b => (M.1 2 b).toInt) c f.toInt) T) ∧ ∀ j, j < T → M2.1 86 j = iI (prV (liftV M) (lossV M) c f.toInt (j + 1))) (fun s0 h0 => ?_)
        unfold f_X12_goThrough_41
        rw [hx, nI_n (by omega), r81, if_neg (by rw [c2]; decide), hx, if_pos c2]
        have e1 : (0 : Int32) = iI (prV (liftV M) (lossV M) c f.toInt (i + 1)) := by
          rw [← hpr _ rfl]
          unfold stV
          rw [if_neg (by omega), if_neg (by omega)]
          rfl
        have nx := next s0 0 h0 (b1iff (by omega) s0 h0)
        rw [← e1] at nx
        exact nx
theorem go12 {N : Nat} (hN : 100 ≤ N) {K : oK} {M : oM} (hge : iGear M) (hs : iSet M) {c : Nat → oStp} {T : Nat} (hT : T ≤ 25) (hM : oMr M c T) (ho : ∀ i, i < T → okS (c i)) {f : Int32} (f0 : 0 ≤ f.toInt) (f1 : f.toInt ≤ 600) :
    ∃ M2, f_X12_goThrough N K f M = some (iI (prV (liftV M) (lossV M) c f.toInt T), M2) ∧ fGo M M2 ∧ M2.1 59 38 = iI (fstI (bad0 (liftV M) (lossV M) c f.toInt) T) ∧ M2.1 59 39 = iI (fstI (bad1 (liftV M) (lossV M) (fun b => (M.1 2 b).toInt) c f.toInt) T) ∧ ∀ j, j < T → M2.1 86 j = iI (prV (liftV M) (lossV M) c f.toInt (j + 1)) := by
  have fr : fGo M (oUp (oUp M 59 38 (-1)) 59 39 (-1)) := .up59 (by decide) (.up59 (by decide) .rf)
  obtain ⟨M2, a1, a2⟩ := go14 (N := N) (K := K) hge hs hT hM ho f0 f1 N 0 (oUp (oUp M 59 38 (-1)) 59 39 (-1)) (by omega) (by omega) fr (by simp [oUp_at]; rfl) (by simp [oUp_at]; rfl) (fun j hj => by omega)
  exact ⟨M2, a1, a2⟩
theorem oMr.fr {M M' : oM} {c : Nat → oStp} {T : Nat} (h : oMr M c T) (f : fGo M M') : oMr M' c T := by
  unfold oMr isM at h ⊢
  rw [f.2.1 31 (by decide), f.1 81 (by decide) (by decide), f.1 82 (by decide) (by decide), f.1 83 (by decide) (by decide), f.1 84 (by decide) (by decide), f.1 85 (by decide) (by decide), f.1 66 (by decide) (by decide)]
  exact h
theorem eLift {R F : List Nat} {M M' : oM} (f : oFr R F M M') (hR : ∀ a ∈ [15, 16, 2], a ∉ R) : liftV M' = liftV M ∧ lossV M' = lossV M ∧ M'.1 2 = M.1 2 := by
  have a15 := f.1 15 (by decide) (hR 15 (by decide))
  have a16 := f.1 16 (by decide) (hR 16 (by decide))
  have a2 := f.1 2 (by decide) (hR 2 (by decide))
  refine ⟨?_, ?_, a2⟩
  · unfold liftV; rw [a15, a16]
  · unfold lossV; rw [a15, a16, a2]
/-- which flows count: what starves nothing, or also bursts nothing -/
def okW (w : Int32) (lf ls : Nat → Int → Int) (mo : Nat → Int) (c : Nat → oStp) (T : Nat) (need f : Int) : Prop := if w = 0 then okF lf ls c T need f else okB lf ls mo c T need f
theorem gre5 {N : Nat} (hN : 100 ≤ N) {K : oK} {M : oM} (hge : iGear M) (hs : iSet M) {c : Nat → oStp} {T : Nat} (hT : T ≤ 25) (hM : oMr M c T) (ho : ∀ i, i < T → okS (c i)) {need w : Int32} : ∀ (n : Nat) (q : Int32) (M1 : oM), -1 ≤ q.toInt → q.toInt ≤ 600 → q.toInt < n → fGo M M1 → (∀ f, q.toInt < f → f ≤ 600 → ¬ okW w (liftV M) (lossV M) (fun b => (M.1 2 b).toInt) c T need.toInt f) →
    ∃ g M2, f_X12_greatest_5 N K (n + 1) need w (-1) q M1 = some (iI g, M2) ∧ fGo M M2 ∧ ((g = -1 ∧ ∀ f, 0 ≤ f → f ≤ 600 → ¬ okW w (liftV M) (lossV M) (fun b => (M.1 2 b).toInt) c T need.toInt f) ∨ ((0 ≤ g ∧ g ≤ 600) ∧ okW w (liftV M) (lossV M) (fun b => (M.1 2 b).toInt) c T need.toInt g ∧ ∀ f, g < f → f ≤ 600 → ¬ okW w (liftV M) (lossV M) (fun b => (M.1 2 b).toInt) c T need.toInt f)) := by
  intro n
  induction n with
  | zero =>
    intro q M1 h1 h2 h3 fr hn
    rw [f_X12_greatest_5]
    dsimp only
    rw [if_pos (by rw [oLeI, tl_m1]; omega)]
    exact ⟨-1, M1, rfl, fr, Or.inl ⟨rfl, fun f f0 f1 => hn f (by omega) f1⟩⟩
  | succ n ih =>
    intro q M1 h1 h2 h3 fr hn
    rw [f_X12_greatest_5]
    dsimp only
    by_cases c1 : q.toInt ≤ -1
    · rw [if_pos (by rw [oLeI, tl_m1]; exact c1)]
      exact ⟨-1, M1, rfl, fr, Or.inl ⟨rfl, fun f f0 f1 => hn f (by omega) f1⟩⟩
    · rw [if_neg (by rw [oLeI, tl_m1]; exact c1)]
      obtain ⟨eL, eS, e2⟩ := eLift fr (by decide)
      obtain ⟨M3, a1, a2, a3, a4, a5⟩ := go12 hN (K := K) (hge.fr fr (by decide) (by decide)) (hs.fr fr (by decide) (by decide)) hT (hM.fr fr) ho (show 0 ≤ q.toInt by omega) h2
      rw [eL, eS, e2] at a4
      rw [eL, eS] at a1 a3
      rw [a1, oB2_p, a3, a4]
      have hb := prV_b (okT_M hge hs) ho (show 0 ≤ q.toInt by omega) h2 T (Nat.le_refl T)
      have eb : (iI (prV (liftV M) (lossV M) c q.toInt T)).toInt = prV (liftV M) (lossV M) c q.toInt T := iI_t (by omega) (by omega)
      have less : ¬ okW w (liftV M) (lossV M) (fun b => (M.1 2 b).toInt) c T need.toInt q.toInt → ∃ g M2, f_X12_greatest_46 N K (f_X12_greatest_5 N K (n + 1)) need w (-1) q M3 = some (iI g, M2) ∧ fGo M M2 ∧ ((g = -1 ∧ ∀ f, 0 ≤ f → f ≤ 600 → ¬ okW w (liftV M) (lossV M) (fun b => (M.1 2 b).toInt) c T need.toInt f) ∨ ((0 ≤ g ∧ g ≤ 600) ∧ okW w (liftV M) (lossV M) (fun b => (M.1 2 b).toInt) c T need.toInt g ∧ ∀ f, g < f → f ≤ 600 → ¬ okW w (liftV M) (lossV M) (fun b => (M.1 2 b).toInt) c T need.toInt f)) := by
        intro hno
        unfold f_X12_greatest_46
        have e1 : (q + -1).toInt = q.toInt - 1 := by rw [oAdd (by rw [tl_m1]; omega) (by rw [tl_m1]; omega), tl_m1]; omega
        exact ih (q + -1) M3 (by omega) (by omega) (by omega) (fr.tr a2) (fun f q1 q2 => by
          by_cases z : f = q.toInt
          · rw [z]; exact hno
          · exact hn f (by omega) q2)
      have this : okW w (liftV M) (lossV M) (fun b => (M.1 2 b).toInt) c T need.toInt q.toInt → ∃ g M2, some (q, M3) = some (iI g, M2) ∧ fGo M M2 ∧ ((g = -1 ∧ ∀ f, 0 ≤ f → f ≤ 600 → ¬ okW w (liftV M) (lossV M) (fun b => (M.1 2 b).toInt) c T need.toInt f) ∨ ((0 ≤ g ∧ g ≤ 600) ∧ okW w (liftV M) (lossV M) (fun b => (M.1 2 b).toInt) c T need.toInt g ∧ ∀ f, g < f → f ≤ 600 → ¬ okW w (liftV M) (lossV M) (fun b => (M.1 2 b).toInt) c T need.toInt f)) := fun hy => ⟨q.toInt, M3, by rw [← iI_of rfl], fr.tr a2, Or.inr ⟨⟨by omega, h2⟩, hy, hn⟩⟩
      by_cases c2 : prV (liftV M) (lossV M) c q.toInt T < need.toInt
      · rw [if_pos (by rw [oLtI, eb]; exact c2)]
        refine less ?_
        unfold okW okF okB
        split
        · exact fun z => by have := z.2; omega
        · exact fun z => by have := z.2; omega
      · rw [if_neg (by rw [oLtI, eb]; exact c2)]
        unfold f_X12_greatest_40
        by_cases cw : w = 0
        · have r := fst_r (bad0 (liftV M) (lossV M) c q.toInt) T
          rw [if_pos cw]
          by_cases c3 : 0 ≤ fstI (bad0 (liftV M) (lossV M) c q.toInt) T
          · rw [if_pos (by rw [oLeI, tl_0, iI_t (by omega) (by omega)]; exact c3)]
            refine less ?_
            unfold okW okF
            rw [if_pos cw]
            intro z
            rw [fstI_n z.1] at c3
            omega
          · rw [if_neg (by rw [oLeI, tl_0, iI_t (by omega) (by omega)]; exact c3)]
            refine this ?_
            unfold okW okF
            rw [if_pos cw]
            rcases fstI_c (bad0 (liftV M) (lossV M) c q.toInt) T with ⟨-, k2⟩ | ⟨k1, -⟩
            · exact ⟨k2, by omega⟩
            · omega
        · have r := fst_r (bad1 (liftV M) (lossV M) (fun b => (M.1 2 b).toInt) c q.toInt) T
          rw [if_neg cw]
          by_cases c3 : 0 ≤ fstI (bad1 (liftV M) (lossV M) (fun b => (M.1 2 b).toInt) c q.toInt) T
          · rw [if_pos (by rw [oLeI, tl_0, iI_t (by omega) (by omega)]; exact c3)]
            refine less ?_
            unfold okW okB
            rw [if_neg cw]
            intro z
            rw [fstI_n z.1] at c3
            omega
          · rw [if_neg (by rw [oLeI, tl_0, iI_t (by omega) (by omega)]; exact c3)]
            refine this ?_
            unfold okW okB
            rw [if_neg cw]
            rcases fstI_c (bad1 (liftV M) (lossV M) (fun b => (M.1 2 b).toInt) c q.toInt) T with ⟨-, k2⟩ | ⟨k1, -⟩
            · exact ⟨k2, by omega⟩
            · omega
theorem flowW {N : Nat} (hN : 1000 ≤ N) {K : oK} {M : oM} (hge : iGear M) (hs : iSet M) {c : Nat → oStp} {T : Nat} (hT : T ≤ 25) (hM : oMr M c T) (ho : ∀ i, i < T → okS (c i)) {need w : Int32} : ∃ g M2, oB2 (f_X12_greatest N K need w (-1) M) (fun v1 M2 => (if 0 ≤ v1 then some (v1, M2) else some ((-2), M2))) = some (iI g, M2) ∧ fGo M M2 ∧ isGr (okW w (liftV M) (lossV M) (fun b => (M.1 2 b).toInt) c T need.toInt) g := by
  obtain ⟨n, rfl⟩ : ∃ n, N = n + 1 := ⟨N - 1, by omega⟩
  obtain ⟨g, M2, a1, a2, a3⟩ := gre5 (N := n + 1) (by omega) (K := K) hge hs hT hM ho (need := need) (w := w) n 600 M (by decide) (by decide) (by rw [tl_600]; omega) .rf (fun f q1 q2 => by rw [tl_600] at q1; omega)
  have e : f_X12_greatest (n + 1) K need w (-1) M = some (iI g, M2) := a1
  rw [e, oB2_p]
  rcases a3 with ⟨b1, b2⟩ | ⟨b1, b2⟩
  · rw [b1, if_neg (by decide)]
    exact ⟨-2, M2, rfl, a2, Or.inl ⟨rfl, b2⟩⟩
  · rw [if_pos (by rw [oLeI, tl_0, iI_t (by omega) (by omega)]; exact b1.1)]
    exact ⟨g, M2, rfl, a2, Or.inr ⟨b1, b2⟩⟩
theorem flow12 {N : Nat} (hN : 1000 ≤ N) {K : oK} {M : oM} (hge : iGear M) (hs : iSet M) {c : Nat → oStp} {T : Nat} (hT : T ≤ 25) (hM : oMr M c T) (ho : ∀ i, i < T → okS (c i)) {need : Int32} : ∃ g M2, f_X12_flowNow N K need M = some (iI g, M2) ∧ fGo M M2 ∧ isGr (okF (liftV M) (lossV M) c T need.toInt) g := by
  obtain ⟨g, M2, a1, a2, a3⟩ := flowW hN (K := K) hge hs hT hM ho (need := need) (w := 0)
  exact ⟨g, M2, a1, a2, a3⟩
theorem isGr_r {P : Int → Prop} {g : Int} (h : isGr P g) : -2 ≤ g ∧ g ≤ 600 := by
  rcases h with ⟨h1, -⟩ | ⟨h1, -⟩ <;> omega
theorem cnt_b {M : oM} {l md x : Nat} (hy : iLay1 M l) : cntI md x (M.1 (oLy l) 7).toInt.toNat ≤ 25 := by
  have h24 := hy.2.2.1.2.2
  unfold cntI
  split
  · omega
  · split <;> omega
/-- what the class's flow changes -/
abbrev fCl (M M' : oM) : Prop := oFr [21, 22, 23, 24, 25, 26, 27] [] M M'
theorem flow11 {N : Nat} (hN : 100 ≤ N) {K : oK} {M : oM} {l md x : Nat} (hg : iGnd M) (hge : iGear M) (hs : iSet M) (hy : iLay1 M l) (hmd : md ≤ 3) (hx : md = 1 ∨ md = 2 → (x : Int) < (M.1 (oLy l) 7).toInt) (hx2 : x < 100) (need : Int32) :
    ∃ g M2, f_X11_flowWith N K (oLy l) need (nI md) (nI x) M = some (iI g, M2) ∧ fCl M M2 ∧ isGr (okF (liftV M) (lossV M) (coV M l md x) (cntI md x (M.1 (oLy l) 7).toInt.toNat) need.toInt) g ∧ oCr M2 (coV M l md x) (cntI md x (M.1 (oLy l) 7).toInt.toNat) := by
  obtain ⟨M2, a1, a2, a3⟩ := lay2 hN (K := K) hg hs hy hmd hx hx2
  obtain ⟨eL, eS, -⟩ := eLift a2 (by decide)
  obtain ⟨g, b1, b2⟩ := gre2' hN (K := K) (hge.fr a2 (by decide) (by decide)) (hs.fr a2 (by decide) (by decide)) (cnt_b hy) a3 (coV_ok hg hge hs hy hmd hx) (need := need)
  rw [eL, eS] at b2
  refine ⟨g, M2, ?_, a2, b2, a3⟩
  unfold f_X11_flowWith
  rw [a1, oB2_p, b1, oB2_p]
/-- the reckoning is the same where only the course, or the thought, has changed -/
theorem coV_e {R F : List Nat} {M M' : oM} {l : Nat} (f : oFr R F M M') (hR : ∀ a ∈ R, a < 101) (hR2 : ∀ a ∈ [2, 9], a ∉ R) (md x : Nat) : coV M' l md x = coV M l md x := by
  obtain ⟨e0, e1, e2, e3, e4⟩ := fr_lay (l := l) f hR
  funext i
  unfold coV lnC
  rw [lnV_e e0 e1, paV_e e0 e1 e2 e3 e4 (f.1 2 (by decide) (hR2 2 (by decide))) (f.1 9 (by decide) (hR2 9 (by decide)))]
