/-! the most: hose enough, the greatest flow above one, one layout tried -/
theorem iss11 {N : Nat} {K : oK} {M : oM} {c : Nat → oStp} {T b : Nat} (hT : T ≤ 25) (hM : oMr M c T) (hok : ∀ i, i < T → okS (c i)) (hb : b < 3) (r2 : Int32 → oM → Option (Bool × oM)) : ∀ (f k : Nat), k ≤ T → T < k + f → f_X12_isStored_11 N K r2 f (nI b) (iI (hoS c b k)) (nI k) M = if hoS c b T ≤ (M.1 60 (15 + b)).toInt then r2 (nI (b + 1)) M else some (false, M) := by
  have hbd := hoS_b hok b
  have eT : (nI T).toInt = T := nI_toInt (by omega)
  have e15 : (15 : Int32) + nI b = nI (15 + b) := by
    refine oNI ?_
    rw [oAdd (by rw [tl_15, nI_toInt (by omega)]; omega) (by rw [tl_15, nI_toInt (by omega)]; omega), tl_15, nI_toInt (by omega)]
    omega
  intro f
  induction f with
  | zero => intro k h1 h2; omega
  | succ f ih =>
    intro k h1 h2
    have ek : (nI k).toInt = k := nI_toInt (by omega)
    rw [f_X12_isStored_11]
    dsimp only
    rw [hM.1]
    by_cases cT : k = T
    · have hbT := hbd T (Nat.le_refl _)
      rw [if_pos (by rw [oLeI, ek, eT]; omega), cT, e15, oIx_p (by rw [nI_toInt (by omega)]; omega) (by rw [nI_toInt (by omega)]; omega), nI_n (by omega), nI_1]
      by_cases q : hoS c b T ≤ (M.1 60 (15 + b)).toInt
      · rw [if_pos (by rw [oLeI, iI_t (by omega) (by omega)]; exact q), if_pos q]
      · rw [if_neg (by rw [oLeI, iI_t (by omega) (by omega)]; exact q), if_neg q]
    · have hxk : ∀ A : Option (Bool × oM), oIx (nI k) 25 A = A := fun A => oIx_p (by omega) (by omega)
      have h2k := hbd k (by omega)
      have h2k1 := hbd (k + 1) (by omega)
      have okk := hok k (by omega)
      unfold f_X12_isStored_61 f_X12_isStored_62
      rw [if_neg (by rw [oLeI, ek, eT]; omega), hxk, nI_n (by omega), nI_1, ← ih (k + 1) (by omega) (by omega)]
      rcases hM.2 k (by omega) with ⟨s1, c1, -⟩ | ⟨s1, c2, c3, ⟨c4, c5, c6⟩, c7, c8⟩ | ⟨s1, c1⟩
      · rw [if_neg (by rw [c1]; decide), Int32.add_zero, hoS, if_neg (fun z => by omega), Int.add_zero]
      · rw [if_pos c2, hxk, c3]
        have hb3 : (c k).2.1 < 3 := by
          rcases okk with ⟨w, -⟩ | ⟨-, w, -⟩ | w
          · omega
          · exact w
          · omega
        by_cases q : (c k).2.1 = b
        · have lb : (c k).2.2.2.1 = 1 ∨ (c k).2.2.2.1 = 2 := by
            rcases okk with ⟨w, -⟩ | ⟨-, -, -, w, -⟩ | w
            · omega
            · exact w
            · omega
          have lb3 : 1 ≤ (c k).2.2.1 ∧ (c k).2.2.1 ≤ 30 := by
            rcases okk with ⟨w, -⟩ | ⟨-, -, w, -⟩ | w
            · omega
            · exact w
            · omega
          rw [if_pos (by rw [q]), hxk, oIx_p c4 (by omega), hxk, oTnn]
          have e : iI (hoS c b k) + M.1 66 (M.1 82 k).toInt.toNat * M.1 84 k = iI (hoS c b (k + 1)) := by
            refine iI_of ?_
            rw [hoS, if_pos ⟨s1, q⟩] at h2k1
            rw [hoS, if_pos ⟨s1, q⟩]
            have em : (M.1 66 (M.1 82 k).toInt.toNat * M.1 84 k).toInt = (c k).2.2.1 * (c k).2.2.2.1 := by
              rcases lb with lb | lb
              · rw [oMul (by rw [c6, c7, lb]; omega) (by rw [c6, c7, lb]; omega), c6, c7]
              · rw [oMul (by rw [c6, c7, lb]; omega) (by rw [c6, c7, lb]; omega), c6, c7]
            rw [oAdd (by rw [iI_t (by omega) (by omega), em]; omega) (by rw [iI_t (by omega) (by omega), em]; omega), em, iI_t (by omega) (by omega)]
          rw [e]
        · rw [if_neg (by rw [nI_inj (by omega) (by omega)]; exact q), Int32.add_zero, hoS, if_neg (fun z => q z.2), Int.add_zero]
      · rw [if_neg (by rw [c1]; decide), Int32.add_zero, hoS, if_neg (fun z => by omega), Int.add_zero]
theorem iss12 {N : Nat} (hN : 100 ≤ N) {K : oK} {M : oM} {c : Nat → oStp} {T : Nat} (hT : T ≤ 25) (hM : oMr M c T) (hok : ∀ i, i < T → okS (c i)) : ∃ b, f_X12_isStored N K M = some (b, M) ∧ (b = true ↔ ∀ b, b < 3 → hoS c b T ≤ (M.1 60 (15 + b)).toInt) := by
  have loop : ∀ (n b : Nat), b ≤ 3 → 3 < b + n → (∀ b', b' < b → hoS c b' T ≤ (M.1 60 (15 + b')).toInt) → ∃ v, f_X12_isStored_2 N K n (nI b) M = some (v, M) ∧ (v = true ↔ ∀ b, b < 3 → hoS c b T ≤ (M.1 60 (15 + b)).toInt) := by
    intro n
    induction n with
    | zero => intro b h1 h2; omega
    | succ n ih =>
      intro b h1 h2 h3
      have eb : (nI b).toInt = b := nI_toInt (by omega)
      rw [f_X12_isStored_2]
      dsimp only
      by_cases q : b = 3
      · subst q
        rw [if_pos (by decide)]
        exact ⟨true, rfl, fun _ => h3, fun _ => rfl⟩
      · have h11 := iss11 (N := N) (K := K) hT hM hok (show b < 3 by omega) (f_X12_isStored_2 N K n) N 0 (by omega) (by omega)
        have h11' : f_X12_isStored_11 N K (f_X12_isStored_2 N K n) N (nI b) 0 0 M = _ := h11
        rw [if_neg (by rw [oLeI, eb, tl_3]; omega), h11']
        by_cases z : hoS c b T ≤ (M.1 60 (15 + b)).toInt
        · rw [if_pos z]
          refine ih (b + 1) (by omega) (by omega) (fun b' hb' => ?_)
          by_cases y : b' = b
          · rw [y]; exact z
          · exact h3 b' (by omega)
        · rw [if_neg z]
          exact ⟨false, rfl, fun y => absurd y (by decide), fun y => absurd (y b (by omega)) z⟩
  exact loop N 0 (by omega) (by omega) (fun b' hb' => by omega)
theorem gra5 {N : Nat} (hN : 100 ≤ N) {K : oK} {M : oM} (hge : iGear M) (hs : iSet M) {c : Nat → oStp} {T : Nat} (hT : T ≤ 25) (hM : oMr M c T) (ho : ∀ i, i < T → okS (c i)) {need a : Int32} (a0 : -1 ≤ a.toInt) (a1' : a.toInt ≤ 600) : ∀ (n : Nat) (q : Int32) (M1 : oM), a.toInt ≤ q.toInt → q.toInt ≤ 600 → q.toInt < n → fGo M M1 → (∀ f, q.toInt < f → f ≤ 600 → ¬ okF (liftV M) (lossV M) c T need.toInt f) →
    ∃ g M2, f_X12_greatest_5 N K (n + 1) need 0 a q M1 = some (iI g, M2) ∧ fGo M M2 ∧ ((g = a.toInt ∧ ∀ f, a.toInt < f → f ≤ 600 → ¬ okF (liftV M) (lossV M) c T need.toInt f) ∨ ((a.toInt < g ∧ g ≤ 600) ∧ okF (liftV M) (lossV M) c T need.toInt g ∧ ∀ f, g < f → f ≤ 600 → ¬ okF (liftV M) (lossV M) c T need.toInt f)) := by
  have ea : iI a.toInt = a := iI_self a
  intro n
  induction n with
  | zero =>
    intro q M1 h1 h2 h3 fr hn
    rw [f_X12_greatest_5]
    dsimp only
    rw [if_pos (by rw [oLeI]; omega)]
    exact ⟨a.toInt, M1, by rw [ea], fr, Or.inl ⟨rfl, fun f f0 f1 => hn f (by omega) f1⟩⟩
  | succ n ih =>
    intro q M1 h1 h2 h3 fr hn
    rw [f_X12_greatest_5]
    dsimp only
    by_cases c1 : q.toInt ≤ a.toInt
    · rw [if_pos (by rw [oLeI]; exact c1)]
      exact ⟨a.toInt, M1, by rw [ea], fr, Or.inl ⟨rfl, fun f f0 f1 => hn f (by omega) f1⟩⟩
    · rw [if_neg (by rw [oLeI]; exact c1)]
      obtain ⟨eL, eS, e2⟩ := eLift fr (by decide)
      obtain ⟨M3, a1, a2, a3, a4, a5⟩ := go12 hN (K := K) (hge.fr fr (by decide) (by decide)) (hs.fr fr (by decide) (by decide)) hT (hM.fr fr) ho (show 0 ≤ q.toInt by omega) h2
      rw [eL, eS] at a1 a3
      rw [a1, oB2_p, if_pos (rfl : (0 : Int32) = 0), a3]
      have hb := prV_b (okT_M hge hs) ho (show 0 ≤ q.toInt by omega) h2 T (Nat.le_refl T)
      have eb : (iI (prV (liftV M) (lossV M) c q.toInt T)).toInt = prV (liftV M) (lossV M) c q.toInt T := iI_t (by omega) (by omega)
      have less : ¬ okF (liftV M) (lossV M) c T need.toInt q.toInt → ∃ g M2, f_X12_greatest_46 N K (f_X12_greatest_5 N K (n + 1)) need 0 a q M3 = some (iI g, M2) ∧ fGo M M2 ∧ ((g = a.toInt ∧ ∀ f, a.toInt < f → f ≤ 600 → ¬ okF (liftV M) (lossV M) c T need.toInt f) ∨ ((a.toInt < g ∧ g ≤ 600) ∧ okF (liftV M) (lossV M) c T need.toInt g ∧ ∀ f, g < f → f ≤ 600 → ¬ okF (liftV M) (lossV M) c T need.toInt f)) := by
        intro hno
        unfold f_X12_greatest_46
        have e1 : (q + -1).toInt = q.toInt - 1 := by rw [oAdd (by rw [tl_m1]; omega) (by rw [tl_m1]; omega), tl_m1]; omega
        exact ih (q + -1) M3 (by omega) (by omega) (by omega) (fr.tr a2) (fun f q1 q2 => by
          by_cases z : f = q.toInt
          · rw [z]; exact hno
          · exact hn f (by omega) q2)
      by_cases c2 : prV (liftV M) (lossV M) c q.toInt T < need.toInt
      · rw [if_pos (by rw [oLtI, eb]; exact c2)]
        exact less (fun z => by have := z.2; omega)
      · rw [if_neg (by rw [oLtI, eb]; exact c2)]
        unfold f_X12_greatest_40
        have r := fst_r (bad0 (liftV M) (lossV M) c q.toInt) T
        by_cases c3 : 0 ≤ fstI (bad0 (liftV M) (lossV M) c q.toInt) T
        · rw [if_pos (by rw [oLeI, tl_0, iI_t (by omega) (by omega)]; exact c3)]
          refine less ?_
          intro z
          rw [fstI_n z.1] at c3
          omega
        · rw [if_neg (by rw [oLeI, tl_0, iI_t (by omega) (by omega)]; exact c3)]
          refine ⟨q.toInt, M3, by rw [iI_self], fr.tr a2, Or.inr ⟨⟨by omega, h2⟩, ?_, hn⟩⟩
          rcases fstI_c (bad0 (liftV M) (lossV M) c q.toInt) T with ⟨-, k2⟩ | ⟨k1, -⟩
          · exact ⟨k2, by omega⟩
          · omega
theorem gra12 {N : Nat} (hN : 1000 ≤ N) {K : oK} {M : oM} (hge : iGear M) (hs : iSet M) {c : Nat → oStp} {T : Nat} (hT : T ≤ 25) (hM : oMr M c T) (ho : ∀ i, i < T → okS (c i)) {need a : Int32} (a0 : -1 ≤ a.toInt) (a1 : a.toInt ≤ 600) : ∃ g M2, f_X12_greatest N K need 0 a M = some (iI g, M2) ∧ fGo M M2 ∧ ((g = a.toInt ∧ ∀ f, a.toInt < f → f ≤ 600 → ¬ okF (liftV M) (lossV M) c T need.toInt f) ∨ ((a.toInt < g ∧ g ≤ 600) ∧ okF (liftV M) (lossV M) c T need.toInt g ∧ ∀ f, g < f → f ≤ 600 → ¬ okF (liftV M) (lossV M) c T need.toInt f)) := by
  obtain ⟨n, rfl⟩ : ∃ n, N = n + 1 := ⟨N - 1, by omega⟩
  exact gra5 (N := n + 1) (by omega) (K := K) hge hs hT hM ho (need := need) a0 a1 n 600 M (by rw [tl_600]; exact a1) (by decide) (by rw [tl_600]; omega) .rf (fun f q1 q2 => by rw [tl_600] at q1; omega)
/-- keys among the layouts seen that hold at a flow -/
def SV (D : sDt) (lf ls : Nat → Int → Int) (need : Int) (sto : Nat → Int) (V : Nat → Nat → Prop) (f : Int) (key : Nat) : Prop := ∃ bits d, V bits d ∧ VQ D lf ls need sto bits d f ∧ key = d * 10000 + pdg bits (sW D)
/-- the best of the layouts seen -/
def BI (D : sDt) (lf ls : Nat → Int → Int) (need : Int) (sto : Nat → Int) (V : Nat → Nat → Prop) (g x y : Int32) : Prop := (g = -1 ∧ ∀ f, 0 ≤ f → f ≤ 600 → ∀ key, ¬ SV D lf ls need sto V f key) ∨ ((0 ≤ g.toInt ∧ g.toInt ≤ 600) ∧ (∃ key, SV D lf ls need sto V g.toInt key ∧ (∀ key', SV D lf ls need sto V g.toInt key' → key ≤ key') ∧ x = nI (key / 10000) ∧ y = nI (key % 10000)) ∧ ∀ f, g.toInt < f → f ≤ 600 → ∀ key, ¬ SV D lf ls need sto V f key)
theorem SV.eq {D : sDt} {lf ls : Nat → Int → Int} {need : Int} {sto : Nat → Int} {V V' : Nat → Nat → Prop} (e : ∀ b d, V b d ↔ V' b d) {f : Int} {key : Nat} : SV D lf ls need sto V f key ↔ SV D lf ls need sto V' f key := by
  constructor
  · rintro ⟨b, d, h1, h2⟩
    exact ⟨b, d, (e b d).mp h1, h2⟩
  · rintro ⟨b, d, h1, h2⟩
    exact ⟨b, d, (e b d).mpr h1, h2⟩
theorem BI.eq {D : sDt} {lf ls : Nat → Int → Int} {need : Int} {sto : Nat → Int} {V V' : Nat → Nat → Prop} {g x y : Int32} (h : BI D lf ls need sto V g x y) (e : ∀ b d, V b d ↔ V' b d) : BI D lf ls need sto V' g x y := by
  rcases h with ⟨h1, h2⟩ | ⟨h1, ⟨key, k1, k2, k3⟩, h3⟩
  · exact Or.inl ⟨h1, fun f f0 f1 key q => h2 f f0 f1 key ((SV.eq e).mpr q)⟩
  · exact Or.inr ⟨h1, ⟨key, (SV.eq e).mp k1, fun key' q => k2 key' ((SV.eq e).mpr q), k3⟩, fun f f0 f1 key q => h3 f f0 f1 key ((SV.eq e).mpr q)⟩
theorem BI_r {D : sDt} {lf ls : Nat → Int → Int} {need : Int} {sto : Nat → Int} {V : Nat → Nat → Prop} {g x y : Int32} (h : BI D lf ls need sto V g x y) : -1 ≤ g.toInt ∧ g.toInt ≤ 600 := by
  rcases h with ⟨h1, -⟩ | ⟨h1, -⟩
  · rw [h1, tl_m1]
    omega
  · omega
/-- one more is seen, and it is not better -/
theorem BI_no {D : sDt} {lf ls : Nat → Int → Int} {need : Int} {sto : Nat → Int} {V : Nat → Nat → Prop} {g x y : Int32} (h : BI D lf ls need sto V g x y) {bits d : Nat} (hno : ∀ f, g.toInt < f → f ≤ 600 → ¬ VQ D lf ls need sto bits d f) (hlt : ∀ b' d', V b' d' → d' * 10000 + pdg b' (sW D) ≤ d * 10000 + pdg bits (sW D)) : BI D lf ls need sto (fun b' d' => V b' d' ∨ (b' = bits ∧ d' = d)) g x y := by
  rcases h with ⟨h1, h2⟩ | ⟨h1, ⟨key, k1, k2, k3⟩, h3⟩
  · refine Or.inl ⟨h1, fun f f0 f1 key q => ?_⟩
    obtain ⟨b', d', q1 | ⟨rfl, rfl⟩, q2, q3⟩ := q
    · exact h2 f f0 f1 key ⟨b', d', q1, q2, q3⟩
    · exact hno f (by rw [h1, tl_m1]; omega) f1 q2
  · refine Or.inr ⟨h1, ⟨key, ?_, fun key' q => ?_, k3⟩, fun f f0 f1 key q => ?_⟩
    · obtain ⟨b', d', q1, q2⟩ := k1
      exact ⟨b', d', Or.inl q1, q2⟩
    · obtain ⟨b', d', q1 | ⟨rfl, rfl⟩, q2, q3⟩ := q
      · exact k2 key' ⟨b', d', q1, q2, q3⟩
      · obtain ⟨b2, d2, p1, p2, p3⟩ := k1
        have := hlt b2 d2 p1
        omega
    · obtain ⟨b', d', q1 | ⟨rfl, rfl⟩, q2, q3⟩ := q
      · exact h3 f f0 f1 key ⟨b', d', q1, q2, q3⟩
      · exact hno f f0 f1 q2
/-- one more is seen, and it is better -/
theorem BI_yes {D : sDt} {lf ls : Nat → Int → Int} {need : Int} {sto : Nat → Int} {V : Nat → Nat → Prop} {g x y : Int32} (h : BI D lf ls need sto V g x y) {bits d : Nat} {g' : Int} (hg0 : g.toInt < g') (hg1 : g' ≤ 600) (hyes : VQ D lf ls need sto bits d g') (hno : ∀ f, g' < f → f ≤ 600 → ¬ VQ D lf ls need sto bits d f) (hp : pdg bits (sW D) < 10000) : BI D lf ls need sto (fun b' d' => V b' d' ∨ (b' = bits ∧ d' = d)) (iI g') (nI d) (nI (pdg bits (sW D))) := by
  have hr := BI_r h
  have eg : (iI g').toInt = g' := iI_t (by omega) (by omega)
  have hV : ∀ f, g' ≤ f → f ≤ 600 → ∀ key, ¬ SV D lf ls need sto V f key := fun f f0 f1 key q => by
    rcases h with ⟨h1, h2⟩ | ⟨h1, -, h3⟩
    · rw [h1, tl_m1] at hg0
      exact h2 f (by omega) f1 key q
    · exact h3 f (by omega) f1 key q
  refine Or.inr ⟨by rw [eg]; omega, ⟨d * 10000 + pdg bits (sW D), ?_, fun key' q => ?_, by congr 1; omega, by congr 1; omega⟩, fun f f0 f1 key q => ?_⟩
  · rw [eg]
    exact ⟨bits, d, Or.inr ⟨rfl, rfl⟩, hyes, rfl⟩
  · rw [eg] at q
    obtain ⟨b', d', q1 | ⟨rfl, rfl⟩, q2, q3⟩ := q
    · exact absurd ⟨b', d', q1, q2, rfl⟩ (hV g' (Int.le_refl _) hg1 _)
    · omega
  · rw [eg] at f0
    obtain ⟨b', d', q1 | ⟨rfl, rfl⟩, q2, q3⟩ := q
    · exact hV f (by omega) f1 key ⟨b', d', q1, q2, q3⟩
    · exact hno f f0 f1 q2
/-! the places told as digits -/
def dgs (bits : Nat) : Nat → Nat
  | 0 => 0
  | k + 1 => 10 * dgs bits k + itB bits 6 k
theorem dg_pd : ∀ bits, bits < 64 → ixB bits 6 ≤ 4 → dgs bits (ixB bits 6) = pdg bits 6 ∧ ∀ k, k < 5 → k ≤ ixB bits 6 → dgs bits k < 10000 := by decide +kernel
abbrev fCa (M M' : oM) : Prop := oFr [81, 82, 83, 84, 85, 86] [29, 30, 31, 38, 39, 46, 47, 48] M M'
theorem pl71 {N : Nat} {K : oK} {rS : Int32 → Int32 → Int32 → Int32 → Int32 → oM → Option (Unit × oM)} {bits E : Nat} (hb : bits < 64) (hm : ixB bits 6 = E) (hE : E ≤ 4) : ∀ (n k : Nat) (M : oM), k ≤ E → E < k + n → M.1 59 45 = nI E → (∀ e, e < E → M.1 90 e = nI (itB bits 6 e)) → M.1 59 48 = nI (dgs bits k) → ∃ M2, f_X12_placeFrom_71 N rS K n (nI k) M = some ((), M2) ∧ oFr [] [48] M M2 ∧ M2.1 59 48 = nI (pdg bits 6) := by
  have hdg := dg_pd bits hb (by omega)
  intro n
  induction n with
  | zero => intro k M h1 h2; omega
  | succ n ih =>
    intro k M h1 h2 h45 h90 h48
    have ek : (nI k).toInt = k := nI_toInt (by omega)
    have eE : (nI E).toInt = E := nI_toInt (by omega)
    rw [f_X12_placeFrom_71]
    dsimp only
    rw [h45]
    by_cases c : k = E
    · rw [if_pos (by rw [oLeI, ek, eE]; omega)]
      exact ⟨M, rfl, .rf, by rw [h48, c, ← hm, hdg.1]⟩
    · have h1k := hdg.2 (k + 1) (by omega) (by omega)
      rw [if_neg (by rw [oLeI, ek, eE]; omega), oIx_p (by omega) (by omega), nI_n (by omega), h48, h90 k (by omega), nI_10', nI_1]
      have F : oFr [] [48] M (oUp M 59 48 (nI (10 * dgs bits k + itB bits 6 k))) := .up59 (by decide) .rf
      obtain ⟨M2, a1, a2, a3⟩ := ih (k + 1) (oUp M 59 48 (nI (10 * dgs bits k + itB bits 6 k))) (by omega) (by omega) (by rw [F.2.1 45 (by decide)]; exact h45) (fun e he => by rw [F.1 90 (by decide) (by decide)]; exact h90 e he) (by rw [oUp_at, if_pos ⟨rfl, rfl⟩]; rfl)
      exact ⟨M2, a1, F.tr a2, a3⟩
