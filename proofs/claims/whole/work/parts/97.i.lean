/-! a second fire: share -/
def shG (b W f : Int) : Int := if b < W - f then b else W - f
def shL (b W f : Int) : Int := if f < shG b W f then f else shG b W f
def shS (b W f : Int) : Int := f + shG b W f
def shLe (b W f g : Int) : Prop := shL b W f < shL b W g ∨ (shL b W f = shL b W g ∧ (shS b W f < shS b W g ∨ (shS b W f = shS b W g ∧ f ≤ g)))
def shMin (a b W : Int) : Int := if (if b < a then b else a) < W / 2 then (if b < a then b else a) else W / 2
def shBoth (a b W : Int) : Int := if a + b < W then a + b else W
def shFst (a b W : Int) : Int := if shBoth a b W - shMin a b W < a then shBoth a b W - shMin a b W else a
theorem shMin_c {a b W : Int} : shMin a b W ≤ a ∧ shMin a b W ≤ b ∧ shMin a b W ≤ W / 2 ∧ (shMin a b W = a ∨ shMin a b W = b ∨ shMin a b W = W / 2) := by
  unfold shMin
  by_cases c : b < a
  · rw [if_pos c]
    split <;> omega
  · rw [if_neg c]
    split <;> omega
theorem shBoth_c {a b W : Int} : (a + b < W ∧ shBoth a b W = a + b) ∨ (W ≤ a + b ∧ shBoth a b W = W) := by
  unfold shBoth
  split <;> omega
theorem shG_c {b W f : Int} : (b < W - f ∧ shG b W f = b) ∨ (W - f ≤ b ∧ shG b W f = W - f) := by
  unfold shG
  split <;> omega
theorem shL_c {b W f : Int} : (f < shG b W f ∧ shL b W f = f) ∨ (shG b W f ≤ f ∧ shL b W f = shG b W f) := by
  unfold shL
  split <;> omega
theorem shFst_c {a b W : Int} : (shBoth a b W - shMin a b W < a ∧ shFst a b W = shBoth a b W - shMin a b W) ∨ (a ≤ shBoth a b W - shMin a b W ∧ shFst a b W = a) := by
  unfold shFst
  split <;> omega
theorem sh_best {a b W v : Int} (a0 : 0 ≤ a) (b0 : 0 ≤ b) (W0 : 0 ≤ W) (h0 : 0 ≤ v) (h1 : v ≤ a) (h2 : v ≤ W) (hm : ∀ f, 0 ≤ f → f ≤ a → f ≤ W → shLe b W f v) : v = shFst a b W ∧ shG b W v = shBoth a b W - shFst a b W := by
  have m := shMin_c (a := a) (b := b) (W := W)
  have bo := shBoth_c (a := a) (b := b) (W := W)
  have fs := shFst_c (a := a) (b := b) (W := W)
  generalize shMin a b W = m0 at *
  generalize shBoth a b W = b0' at *
  generalize shFst a b W = f0 at *
  have hf := hm f0 (by omega) (by omega) (by omega)
  unfold shLe shS at hf
  have g1 := shG_c (b := b) (W := W) (f := f0)
  have g2 := shG_c (b := b) (W := W) (f := v)
  have l1 := shL_c (b := b) (W := W) (f := f0)
  have l2 := shL_c (b := b) (W := W) (f := v)
  generalize shG b W f0 = G1 at *
  generalize shG b W v = G2 at *
  generalize shL b W f0 = L1 at *
  generalize shL b W v = L2 at *
  have e1 : L1 = m0 := by omega
  have e2 : f0 + G1 = b0' := by omega
  have e3 : L2 ≤ m0 := by omega
  have e4 : v + G2 ≤ b0' := by omega
  have e5 : L2 = m0 := by omega
  have e6 : v + G2 = b0' := by omega
  have e7 : f0 ≤ v := by omega
  constructor
  · omega
  · omega
def shI (a b W : Int) (k : Nat) (bf bg : Int) : Prop := (k = 0 ∧ bf = 0 ∧ bg = 0) ∨ ((0 ≤ bf ∧ bf < k ∧ bf ≤ a ∧ bf ≤ W) ∧ bg = shG b W bf ∧ ∀ f : Int, 0 ≤ f → f < k → shLe b W f bf)
theorem mnI {x y : Int} (hx : -2000000000 ≤ x ∧ x ≤ 2000000000) (hy : -2000000000 ≤ y ∧ y ≤ 2000000000) : (if iI x < iI y then iI x else iI y) = iI (if x < y then x else y) := by
  have ex : (iI x).toInt = x := iI_t (by omega) (by omega)
  have ey : (iI y).toInt = y := iI_t (by omega) (by omega)
  by_cases c : x < y
  · rw [if_pos (by rw [oLtI, ex, ey]; exact c), if_pos c]
  · rw [if_neg (by rw [oLtI, ex, ey]; exact c), if_neg c]
theorem shI_set {a b W : Int} {k : Nat} {bf bg : Int} (b0 : 0 ≤ b) (ka : (k : Int) ≤ a) (kW : (k : Int) ≤ W) (h : shI a b W k bf bg) (hs : (if bg ≤ bf then bg else bf) < shL b W k ∨ (shL b W k = (if bg ≤ bf then bg else bf) ∧ (bf + bg < k + shG b W k ∨ (k + shG b W k = bf + bg ∧ bf < k)))) : shI a b W (k + 1) k (shG b W k) := by
  refine Or.inr ⟨by omega, rfl, fun f f0 f1 => ?_⟩
  by_cases e : f = k
  · rw [e]
    unfold shLe
    omega
  · rcases h with ⟨h1, -⟩ | ⟨h1, h2, h3⟩
    · omega
    · have := h3 f f0 (by omega)
      have l := shL_c (b := b) (W := W) (f := bf)
      unfold shLe shS at *
      rw [h2] at hs
      by_cases q : shG b W bf ≤ bf
      · rw [if_pos q] at hs
        omega
      · rw [if_neg q] at hs
        omega
theorem shI_keep {a b W : Int} {k : Nat} {bf bg : Int} (b0 : 0 ≤ b) (ka : (k : Int) ≤ a) (kW : (k : Int) ≤ W) (h : shI a b W k bf bg) (hs : ¬ ((if bg ≤ bf then bg else bf) < shL b W k ∨ (shL b W k = (if bg ≤ bf then bg else bf) ∧ (bf + bg < k + shG b W k ∨ (k + shG b W k = bf + bg ∧ bf < k))))) : shI a b W (k + 1) bf bg := by
  rcases h with ⟨h1, h2, h3⟩ | ⟨h1, h2, h3⟩
  · subst h1
    rw [h2, h3, if_pos (by omega)] at hs
    have l := shL_c (b := b) (W := W) (f := 0)
    have g := shG_c (b := b) (W := W) (f := 0)
    have e : shG b W 0 = 0 := by
      have : ((0 : Nat) : Int) = 0 := rfl
      rw [this] at hs
      omega
    refine Or.inr ⟨by omega, by rw [h3, h2, e], fun f f0 f1 => ?_⟩
    have : f = bf := by omega
    rw [this]
    unfold shLe
    omega
  · refine Or.inr ⟨by omega, h2, fun f f0 f1 => ?_⟩
    by_cases e : f = k
    · have l := shL_c (b := b) (W := W) (f := bf)
      unfold shLe shS
      rw [h2] at hs
      rw [e]
      by_cases q : shG b W bf ≤ bf
      · rw [if_pos q] at hs
        omega
      · rw [if_neg q] at hs
        omega
    · exact h3 f f0 (by omega)
theorem sh109 {N : Nat} {K : oK} {M : oM} {a b W : Int} (a0 : 0 ≤ a) (a1 : a ≤ 600) (b0 : 0 ≤ b) (b1 : b ≤ 600) (W0 : 0 ≤ W) (W1 : W ≤ 600) (p4 : Int32) : ∀ (f k : Nat) (bf bg : Int), k ≤ 601 → 601 < k + f → (k : Int) ≤ a + 1 → (k : Int) ≤ W + 1 → shI a b W k bf bg → f_X12_share_109 N K f (iI W) p4 (iI a) (iI b) (iI bf) (iI bg) (nI k) M = some (if p4 = 0 then iI (shFst a b W) else iI (shBoth a b W - shFst a b W), M) := by
  have ea : (iI a).toInt = a := iI_t (by omega) (by omega)
  have eb : (iI b).toInt = b := iI_t (by omega) (by omega)
  have eW : (iI W).toInt = W := iI_t (by omega) (by omega)
  intro f
  induction f with
  | zero => intro k bf bg h1 h2; omega
  | succ f ih =>
    intro k bf bg h1 h2 h3 h4 hI
    have ek : (nI k).toInt = k := nI_toInt (by omega)
    have fin : (a < k ∨ W < k) → f_X12_share_235 N K p4 (iI bf) (iI bg) M = some (if p4 = 0 then iI (shFst a b W) else iI (shBoth a b W - shFst a b W), M) := by
      intro hk
      unfold f_X12_share_235
      rcases hI with ⟨z, -⟩ | ⟨z1, z2, z3⟩
      · omega
      · have := sh_best a0 b0 W0 z1.1 z1.2.2.1 z1.2.2.2 (fun g g0 g1 g2 => z3 g g0 (by omega))
        rw [z2, this.2, this.1]
        by_cases q : p4 = 0
        · rw [if_pos q, if_pos q]
        · rw [if_neg q, if_neg q]
    rw [f_X12_share_109]
    dsimp only
    by_cases ca : a < k
    · rw [if_pos (by rw [oLtI, ea, ek]; exact ca)]
      exact fin (Or.inl ca)
    · rw [if_neg (by rw [oLtI, ea, ek]; exact ca)]
      by_cases cW : W < k
      · rw [if_pos (by rw [oLtI, eW, ek]; exact cW)]
        exact fin (Or.inr cW)
      · rw [if_neg (by rw [oLtI, eW, ek]; exact cW)]
        have es : (iI W - nI k).toInt = W - k := by rw [oSub (by rw [eW, ek]; omega) (by rw [eW, ek]; omega), eW, ek]
        have hG := shG_c (b := b) (W := W) (f := (k : Int))
        have hL := shL_c (b := b) (W := W) (f := (k : Int))
        have hrng : (0 ≤ bf ∧ bf ≤ 600) ∧ 0 ≤ bg ∧ bg ≤ 600 := by
          rcases hI with ⟨z, z1, z2⟩ | ⟨z1, z2, -⟩
          · omega
          · have := shG_c (b := b) (W := W) (f := bf)
            omega
        have ebf : (iI bf).toInt = bf := iI_t (by omega) (by omega)
        have ebg : (iI bg).toInt = bg := iI_t (by omega) (by omega)
        have eG : (iI (shG b W k)).toInt = shG b W k := iI_t (by omega) (by omega)
        have eL : (iI (shL b W k)).toInt = shL b W k := iI_t (by omega) (by omega)
        have g140 : (if iI W - nI k ≤ iI b then f_X12_share_140 N K (f_X12_share_109 N K f) (iI W) p4 (iI a) (iI b) (iI bf) (iI bg) (nI k) (iI W - nI k) M else f_X12_share_140 N K (f_X12_share_109 N K f) (iI W) p4 (iI a) (iI b) (iI bf) (iI bg) (nI k) (iI b) M) = f_X12_share_140 N K (f_X12_share_109 N K f) (iI W) p4 (iI a) (iI b) (iI bf) (iI bg) (nI k) (iI (shG b W k)) M := by
          by_cases q : W - k ≤ b
          · rw [if_pos (by rw [oLeI, es, eb]; exact q), show iI W - nI k = iI (shG b W k) from iI_of (by rw [es]; omega)]
          · rw [if_neg (by rw [oLeI, es, eb]; exact q), show shG b W k = b by omega]
        have g156 : f_X12_share_140 N K (f_X12_share_109 N K f) (iI W) p4 (iI a) (iI b) (iI bf) (iI bg) (nI k) (iI (shG b W k)) M = f_X12_share_156 N K (f_X12_share_109 N K f) (iI W) p4 (iI a) (iI b) (iI bf) (iI bg) (nI k) (iI (shG b W k)) (iI (shL b W k)) M := by
          unfold f_X12_share_140
          by_cases q : shG b W k ≤ k
          · rw [if_pos (by rw [oLeI, eG, ek]; exact q), show shL b W k = shG b W k by omega]
          · rw [if_neg (by rw [oLeI, eG, ek]; exact q), show shL b W k = k by omega, iI_nI]
        have g172 : f_X12_share_156 N K (f_X12_share_109 N K f) (iI W) p4 (iI a) (iI b) (iI bf) (iI bg) (nI k) (iI (shG b W k)) (iI (shL b W k)) M = f_X12_share_172 N K (f_X12_share_109 N K f) (iI W) p4 (iI a) (iI b) (iI bf) (iI bg) (nI k) (iI (shG b W k)) (iI (shL b W k)) (iI (if bg ≤ bf then bg else bf)) M := by
          unfold f_X12_share_156
          by_cases q : bg ≤ bf
          · rw [if_pos (by rw [oLeI, ebg, ebf]; exact q), if_pos q]
          · rw [if_neg (by rw [oLeI, ebg, ebf]; exact q), if_neg q]
        have em : (iI (if bg ≤ bf then bg else bf)).toInt = if bg ≤ bf then bg else bf := iI_t (by split <;> omega) (by split <;> omega)
        have esum : (iI bf + iI bg).toInt = bf + bg := by rw [oAdd (by omega) (by omega), ebf, ebg]
        have esk : (nI k + iI (shG b W k)).toInt = k + shG b W k := by rw [oAdd (by rw [ek, eG]; omega) (by rw [ek, eG]; omega), ek, eG]
        rw [g140, g156, g172]
        have eset : ∀ x : Int32, x = nI k → f_X12_share_221 N K (f_X12_share_109 N K f) (iI W) p4 (iI a) (iI b) x (iI (shG b W k)) M = f_X12_share_109 N K f (iI W) p4 (iI a) (iI b) (iI (k : Int)) (iI (shG b W k)) (nI (k + 1)) M := by
          intro x hx
          unfold f_X12_share_221 f_X12_share_229
          rw [hx, nI_1, iI_nI]
        have ekeep : f_X12_share_229 N K (f_X12_share_109 N K f) (iI W) p4 (iI a) (iI b) (iI bf) (iI bg) (nI k) M = f_X12_share_109 N K f (iI W) p4 (iI a) (iI b) (iI bf) (iI bg) (nI (k + 1)) M := by
          unfold f_X12_share_229
          rw [nI_1]
        unfold f_X12_share_172
        rw [eset _ rfl, ekeep]
        have iset := fun hs => ih (k + 1) k (shG b W k) (by omega) (by omega) (by omega) (by omega) (shI_set b0 (by omega) (by omega) hI hs)
        have ikeep := fun hs => ih (k + 1) bf bg (by omega) (by omega) (by omega) (by omega) (shI_keep b0 (by omega) (by omega) hI hs)
        generalize hmm : (if bg ≤ bf then bg else bf) = mm at *
        by_cases q1 : mm < shL b W k
        · rw [if_pos (by rw [oLtI, em, eL]; exact q1)]
          exact iset (Or.inl q1)
        · rw [if_neg (by rw [oLtI, em, eL]; exact q1)]
          by_cases q2 : shL b W k = mm
          · rw [if_pos (by rw [oEqI, em, eL]; exact q2)]
            by_cases q3 : bf + bg < k + shG b W k
            · rw [if_pos (by rw [oLtI, esum, esk]; exact q3)]
              exact iset (Or.inr ⟨q2, Or.inl q3⟩)
            · rw [if_neg (by rw [oLtI, esum, esk]; exact q3)]
              by_cases q4 : k + shG b W k = bf + bg
              · rw [if_pos (by rw [oEqI, esum, esk]; exact q4)]
                by_cases q5 : (k : Int) ≤ bf
                · rw [if_pos (by rw [oLeI, ek, ebf]; exact q5)]
                  exact ikeep (by omega)
                · rw [if_neg (by rw [oLeI, ek, ebf]; exact q5)]
                  exact iset (Or.inr ⟨q2, Or.inr ⟨q4, by omega⟩⟩)
              · rw [if_neg (by rw [oEqI, esum, esk]; exact q4)]
                exact ikeep (by omega)
          · rw [if_neg (by rw [oEqI, em, eL]; exact q2)]
            exact ikeep (by omega)
theorem ag_share {K : oK} {M : oM} (h : oInv K M) {N : Nat} (hN : 3000 ≤ N) (p n w t : Int32) : oAg K M (f_X11_share N K p n w t M) (f_X12_share N K p n w t) := by
  have hl := h.2.2.2.2.2.2.2.2.1
  have c1 := hl.1.2.2
  have three : ∀ (o : Option Nat), oCs o (if p < 0 then some ((-1 : Int32), M) else some (-1, M)) (fun _ => if p < 0 then some ((-1 : Int32), M) else some (-1, M)) = some (-1, M) := by
    intro o
    have : (if p < 0 then some ((-1 : Int32), M) else some (-1, M)) = some (-1, M) := by split <;> rfl
    rw [this]
    cases o <;> rfl
  unfold f_X11_share
  rw [lyAt hl, oB2_p]
  by_cases p0 : p.toInt < 0
  · refine oAg.mk (r := -1) (M1 := M) M ?_ ?_ h
    · by_cases q : 0 ≤ (p / 100).toInt ∧ (p / 100).toInt < (M.1 0 11).toInt
      · rw [if_pos q, oCs_s, lyAt hl, oB2_p]
        by_cases q2 : 0 ≤ (p - p / 100 * 100).toInt ∧ (p - p / 100 * 100).toInt < (M.1 0 11).toInt
        · rw [if_pos q2, oCs_s, if_pos (by rw [oLtI, tl_0]; exact p0)]
        · rw [if_neg q2, oCs_n, if_pos (by rw [oLtI, tl_0]; exact p0)]
      · rw [if_neg q, oCs_n, lyAt hl, oB2_p, three]
    · unfold f_X12_share
      rw [if_pos (by rw [oLtI, tl_0]; exact p0)]
  · have ed : (p / 100).toInt = p.toInt / 100 := by rw [oDiv (by omega) (by rw [tl_100]; omega), tl_100]
    have er : (p - p / 100 * 100).toInt = p.toInt % 100 := by rw [oRem (by omega) (by rw [tl_100]; omega), tl_100]
    have hp0 : ¬ p < 0 := by rw [oLtI, tl_0]; exact p0
    have m0 : ∀ M1, fS M M1 → f_X12_share N K p n w t M1 = cond (decide (0 ≤ p.toInt / 100 ∧ p.toInt / 100 < (M.1 0 11).toInt)) (cond (decide (0 ≤ p.toInt % 100 ∧ p.toInt % 100 < (M.1 0 11).toInt)) (if p / 100 = p - p / 100 * 100 then some (-1, M1) else cond (decide (0 ≤ n.toInt ∧ n.toInt ≤ 99999)) (cond (decide (0 ≤ w.toInt ∧ w.toInt ≤ 600)) (cond (decide (0 ≤ t.toInt ∧ t.toInt ≤ 1)) (oB2 (f_X12_think N K (p / 100) M1) (fun v18 M19 => oB2 (f_X12_flowNow N K n M19) (fun v21 M22 => oB2 (f_X12_orNone N K v21 M22) (fun v24 M25 => oB2 (f_X12_think N K (p - p / 100 * 100) M25) (fun v27 M28 => oB2 (f_X12_flowNow N K n M28) (fun v30 M31 => oB2 (f_X12_orNone N K v30 M31) (fun v33 M34 => f_X12_share_109 N K N w t v24 v33 0 0 0 M34))))))) (some (-1, M1))) (some (-1, M1))) (some (-1, M1))) (some (-1, M1))) (some (-1, M1)) := by
      intro M1 F
      unfold f_X12_share
      rw [if_neg hp0, l12 (h.scr F), oB2_p, F.1 0 (by decide) (by decide), l12 (h.scr F), oB2_p, F.1 0 (by decide) (by decide), ed, er, isNe12, oB2_p, isFl12, oB2_p, w12, oB2_p, oLg]
      rfl
    by_cases q : 0 ≤ (p / 100).toInt ∧ (p / 100).toInt < (M.1 0 11).toInt
    · rw [if_pos q, oCs_s, lyAt hl, oB2_p]
      rw [ed] at q
      by_cases q2 : 0 ≤ (p - p / 100 * 100).toInt ∧ (p - p / 100 * 100).toInt < (M.1 0 11).toInt
      · rw [if_pos q2, oCs_s, if_neg hp0]
        have hy1 := (ly_nn hl (a := p / 100) (by rw [ed]; exact q.1) (by rw [ed]; exact q.2)).2
        have hy2 := (ly_nn hl q2.1 q2.2).2
        rw [er] at q2
        rw [oTnn, ed] at hy1
        rw [oTnn, er] at hy2
        rw [oTnn, ed, oTnn, er]
        obtain ⟨l1, hl1⟩ : ∃ l1 : Nat, p.toInt / 100 = l1 := ⟨(p.toInt / 100).toNat, by omega⟩
        obtain ⟨l2, hl2⟩ : ∃ l2 : Nat, p.toInt % 100 = l2 := ⟨(p.toInt % 100).toNat, by omega⟩
        have x1 : p / 100 = nI l1 := oNI (by rw [ed, hl1])
        have x2 : p - p / 100 * 100 = nI l2 := oNI (by rw [er, hl2])
        have n1 : (p.toInt / 100).toNat = l1 := by omega
        have n2 : (p.toInt % 100).toNat = l2 := by omega
        rw [n1] at hy1 ⊢
        rw [n2] at hy2 ⊢
        by_cases e12 : l1 = l2
        · rw [if_pos (by rw [e12])]
          refine oAg.mk M rfl ?_ h
          rw [m0 M .rf, decide_eq_true q, decide_eq_true q2, cond_true, cond_true, x1, ← x1, x2, x1, if_pos (by rw [e12])]
        · rw [if_neg (by unfold oLy; omega), isNe11, oB2_p]
          have hx : ¬ p / 100 = p - p / 100 * 100 := by rw [oEqI, ed, er]; omega
          by_cases cn : 0 ≤ n.toInt ∧ n.toInt ≤ 99999
          · rw [decide_eq_true cn, cond_true, w11, oB2_p, tl_0, tl_600]
            by_cases cw : 0 ≤ w.toInt ∧ w.toInt ≤ 600
            · rw [decide_eq_true cw, cond_true, w11, oB2_p, tl_0, tl_1]
              by_cases ct : 0 ≤ t.toInt ∧ t.toInt ≤ 1
              · rw [decide_eq_true ct, cond_true]
                obtain ⟨g, M1, a1, F1, a3, -⟩ := cfl h .rf (N := N) (by omega) hy1 (show 0 ≤ 3 by omega) (by omega) (show 0 < 100 by omega) n
                obtain ⟨g', M2, b1, F2, b3, -⟩ := cfl h F1 (N := N) (by omega) hy2 (show 0 ≤ 3 by omega) (x := 0) (by omega) (by omega) n
                rw [show (nI 0 : Int32) = 0 from rfl] at a1 b1
                rw [cnt0] at a3 b3
                have hok1 := ok0 h hy1 (md := 0) (x := 0) (by omega) (by omega)
                have hok2 := ok0 h hy2 (md := 0) (x := 0) (by omega) (by omega)
                rw [cnt0] at hok1 hok2
                have h241 := hy1.2.2.1.2.2
                have h242 := hy2.2.2.1.2.2
                have r1 := isGr_r a3
                have r2 := isGr_r b3
                have ra : 0 ≤ (if 0 < g then g else 0) ∧ (if 0 < g then g else 0) ≤ 600 := by split <;> omega
                have rb : 0 ≤ (if 0 < g' then g' else 0) ∧ (if 0 < g' then g' else 0) ≤ 600 := by split <;> omega
                rw [a1, oB2_p, b1, oB2_p, max0 r1, max0 r2]
                -- the reference
                obtain ⟨M3, d1, d2, d3⟩ := thk h F2 (N := N) (by omega) (show l1 < 20 by omega) hy1
                obtain ⟨g3, M4, e1, e2, e3⟩ := flw h d2 (N := N) (by omega) (by omega) d3 hok1 n
                obtain ⟨M5, i1, i2, i3⟩ := thk h e2 (N := N) (by omega) (show l2 < 20 by omega) hy2
                obtain ⟨g4, M6, j1, j2, j3⟩ := flw h i2 (N := N) (by omega) (by omega) i3 hok2 n
                have eg3 := isGr_u a3 e3
                have eg4 := isGr_u b3 j3
                rw [← eg3] at e1
                rw [← eg4] at j1
                have o3 : f_X12_orNone N K (iI g) M4 = some (iI (if 0 < g then g else 0), M4) := orN r1
                have o4 : f_X12_orNone N K (iI g') M6 = some (iI (if 0 < g' then g' else 0), M6) := orN r2
                generalize (if 0 < g then g else 0) = A at *
                generalize (if 0 < g' then g' else 0) = B at *
                have xw : w = iI w.toInt := iI_of rfl
                have fin := sh109 (N := N) (K := K) (M := M6) (a := A) (b := B) (W := w.toInt) ra.1 ra.2 rb.1 rb.2 cw.1 cw.2 t N 0 0 0 (by omega) (by omega) (by omega) (by omega) (Or.inl ⟨rfl, rfl, rfl⟩)
                rw [← xw] at fin
                -- the class's numbers
                have sm := shMin_c (a := A) (b := B) (W := w.toInt)
                have sb := shBoth_c (a := A) (b := B) (W := w.toInt)
                have sf := shFst_c (a := A) (b := B) (W := w.toInt)
                have eA : (iI A).toInt = A := iI_t (by omega) (by omega)
                have eB : (iI B).toInt = B := iI_t (by omega) (by omega)
                have v1 : iI A + iI B = iI (A + B) := iI_of (by rw [oAdd (by omega) (by omega), eA, eB])
                have v2 : (if iI (A + B) < w then iI (A + B) else w) = iI (shBoth A B w.toInt) := by
                  have := mnI (x := A + B) (y := w.toInt) (by omega) (by omega)
                  rw [← xw] at this
                  exact this
                have v3 : (if iI B < iI A then iI B else iI A) = iI (if B < A then B else A) := mnI (by omega) (by omega)
                have v4 : w / 2 = iI (w.toInt / 2) := iI_of (by rw [oDiv cw.1 (by rw [tl_2]; omega), tl_2])
                have rBA : 0 ≤ (if B < A then B else A) ∧ (if B < A then B else A) ≤ 600 := by split <;> omega
                have v5 : (if iI (if B < A then B else A) < iI (w.toInt / 2) then iI (if B < A then B else A) else iI (w.toInt / 2)) = iI (shMin A B w.toInt) := mnI (by omega) (by omega)
                have v6 : iI (shBoth A B w.toInt) - iI (shMin A B w.toInt) = iI (shBoth A B w.toInt - shMin A B w.toInt) := iI_of (by rw [oSub (by rw [iI_t (by omega) (by omega), iI_t (by omega) (by omega)]; omega) (by rw [iI_t (by omega) (by omega), iI_t (by omega) (by omega)]; omega), iI_t (by omega) (by omega), iI_t (by omega) (by omega)])
                have v7 : (if iI (shBoth A B w.toInt - shMin A B w.toInt) < iI A then iI (shBoth A B w.toInt - shMin A B w.toInt) else iI A) = iI (shFst A B w.toInt) := mnI (by omega) (by omega)
                have v8 : iI (shBoth A B w.toInt) - iI (shFst A B w.toInt) = iI (shBoth A B w.toInt - shFst A B w.toInt) := iI_of (by rw [oSub (by rw [iI_t (by omega) (by omega), iI_t (by omega) (by omega)]; omega) (by rw [iI_t (by omega) (by omega), iI_t (by omega) (by omega)]; omega), iI_t (by omega) (by omega), iI_t (by omega) (by omega)])
                rw [v1, v2, v3, v4, v5, v6, v7, v8]
                have mod : f_X12_share N K p n w t M2 = some (if t = 0 then iI (shFst A B w.toInt) else iI (shBoth A B w.toInt - shFst A B w.toInt), M6) := by
                  rw [m0 M2 F2, decide_eq_true q, decide_eq_true q2, cond_true, cond_true, if_neg hx, decide_eq_true cn, decide_eq_true cw, decide_eq_true ct, cond_true, cond_true, cond_true, x2, x1, d1, oB2_p, e1, oB2_p, o3, oB2_p, i1, oB2_p, j1, oB2_p, o4, oB2_p]
                  exact fin
                by_cases t0 : t = 0
                · rw [if_pos t0]
                  rw [if_pos t0] at mod
                  exact oAg.mk M6 rfl mod (h.scr j2)
                · rw [if_neg t0]
                  rw [if_neg t0] at mod
                  exact oAg.mk M6 rfl mod (h.scr j2)
              · rw [decide_eq_false ct, cond_false]
                refine oAg.mk M rfl ?_ h
                rw [m0 M .rf, decide_eq_true q, decide_eq_true q2, cond_true, cond_true, if_neg hx, decide_eq_true cn, decide_eq_true cw, decide_eq_false ct, cond_true, cond_true, cond_false]
            · rw [decide_eq_false cw, cond_false]
              refine oAg.mk M rfl ?_ h
              rw [m0 M .rf, decide_eq_true q, decide_eq_true q2, cond_true, cond_true, if_neg hx, decide_eq_true cn, decide_eq_false cw, cond_true, cond_false]
          · rw [decide_eq_false cn, cond_false]
            refine oAg.mk M rfl ?_ h
            rw [m0 M .rf, decide_eq_true q, decide_eq_true q2, cond_true, cond_true, if_neg hx, decide_eq_false cn, cond_false]
      · rw [if_neg q2, oCs_n, if_neg hp0]
        rw [er] at q2
        refine oAg.mk M rfl ?_ h
        rw [m0 M .rf, decide_eq_true q, decide_eq_false q2, cond_true, cond_false]
    · rw [if_neg q, oCs_n, lyAt hl, oB2_p, three]
      rw [ed] at q
      refine oAg.mk M rfl ?_ h
      rw [m0 M .rf, decide_eq_false q, cond_false]
