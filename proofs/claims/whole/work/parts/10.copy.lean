/-! System.arraycopy between two rows of one kind -/
theorem oNat_of {z : Int32} (hz : ¬ z < 0) : z.toInt = (z.toNatClampNeg : Int) := by
  have hz0 : (0 : Int) ≤ z.toInt := by
    have := Int32.not_lt.mp hz
    simpa using Int32.le_iff_toInt_le.mp this
  show z.toInt = ((z.toInt.toNat : Nat) : Int)
  omega
section COPY
variable {X : oX} {d : Nat} {J : oJ} {pc : Nat} {L : List (Option Value)} {S : List Value} {K K' : oK} {M M' : oM} {r : Option Value}
theorem oe_copyI {a b na nb idx : Nat} {sp dp n : Int32} (hd : decode J.2.1 pc = .ok (.invokestatic idx, 3)) (hw : Cond.methodLink J.2.2.2.2 idx arraycopyName ∈ oGood) (hd1 : 1 ≤ d) (hS8 : (S.map fun v => v.category).sum ≤ 8) (ha : a < K.1) (hs : K.2.2.1 a = (0, na)) (hb : b < K.1) (hsb : K.2.2.1 b = (0, nb))
    (hin : ¬ sp < 0 ∧ ¬ dp < 0 ∧ ¬ n < 0 ∧ sp.toNatClampNeg + n.toNatClampNeg ≤ na ∧ dp.toNatClampNeg + n.toNatClampNeg ≤ nb)
    (kk : oEv X d J (pc + 3) L S K (oRow M b (va_cpy (M.1 a) (M.1 b) sp.toNatClampNeg dp.toNatClampNeg n.toNatClampNeg)) r K' M') : oEv X d J pc L (.int n :: .int dp :: .ref b :: .int sp :: .ref a :: S) K M r K' M' := by
  intro p l e R s m args below meth c H locs ls Θ n0 ns0 Q hC hD hL h1 h2 hR h3 h4 hQ
  have ea := oAd_lt (Θ := Θ) (Nat.lt_of_lt_of_le ha hD.2.1)
  have eb := oAd_lt (Θ := Θ) (Nat.lt_of_lt_of_le hb hD.2.1)
  show W p l e R s m args below meth c H locs _ _ Q (F0 m pc ls (.int n :: .int dp :: .ref (oAd Θ b) :: .int sp :: .ref (oAd Θ a) :: S.map (oTr Θ)))
  rw [ea, eb]
  have hts := hC.2.2.2.2.2.1
  have hK := hC.2.2.2.2.2.2.2.2.2.1.1
  have hnw : nativeFrameWords "java/lang/System" "arraycopy" 5 + 11 ≤ 48 := by decide +kernel
  intro T hT Xs
  have hc0 : H[Θ.2.2.1 + a]? = some (vp_cell (Θ.2.1 0) (na, .inl (M.1 a))) := hD.2.2.1 a (Θ.2.2.1 + a, .inl (Θ.2.1 0, na, .inl (M.1 a))) (by rw [oW_at ha, oE_int hs (by decide)])
  have hc1 : H[Θ.2.2.1 + b]? = some (vp_cell (Θ.2.1 0) (nb, .inl (M.1 b))) := hD.2.2.1 b (Θ.2.2.1 + b, .inl (Θ.2.1 0, nb, .inl (M.1 b))) (by rw [oW_at hb, oE_int hsb (by decide)])
  obtain ⟨-, k0, hk0, cm0, hkk0⟩ := (hK.2 0 _ rfl).1 na (fun j => .int (M.1 a j))
  obtain ⟨vm', X', step⟩ := Xs.arraycopy hC.1 hC.2.2.2.2.1 (hts _ hw) (hts _ oacp.1) (hts _ oacp.2.1) (hts _ oacp.2.2) (src := Θ.2.2.1 + a) (dst := Θ.2.2.1 + b) (cs := vp_cell (Θ.2.1 0) (na, .inl (M.1 a))) (cd := vp_cell (Θ.2.1 0) (nb, .inl (M.1 b))) (srcPos := sp) (destPos := dp) (n := n) (by rw [hT]; exact hc0) (by rw [hT]; exact hc1)
    (fun _ h => by cases h) (fun _ h => by cases h) (fun h => by cases h) (fun h => by cases h) hk0 hk0 hkk0 hkk0 (by simp [refKind]) hin.1 hin.2.1 hin.2.2.1
    (by rw [oNat_of hin.1, oNat_of hin.2.2.1]; show ¬ _ > ((arrV _ na (fun j => .int (M.1 a j))).slots.size : Int); rw [arrV_size]; omega)
    (by rw [oNat_of hin.2.1, oNat_of hin.2.2.1]; show ¬ _ > ((arrV _ nb (fun j => .int (M.1 b j))).slots.size : Int); rw [arrV_size]; omega)
    (fun vm₁ _ i hi => by
      have e : (vp_cell (Θ.2.1 0) (na, .inl (M.1 a))).slots.getD (sp.toNatClampNeg + i) .null = .int (M.1 a (sp.toNatClampNeg + i)) := by
        show (arrV _ na (fun j => .int (M.1 a j))).slots.getD _ _ = _
        rw [Array.getD_eq_getD_getElem?, arrV_read _ _ (by omega)]
        rfl
      refine ⟨?_, ?_⟩
      · rw [e]
        rfl
      · rw [e]
        exact trivial)
    (g := F0 m pc ls (.int n :: .int dp :: .ref (Θ.2.2.1 + b) :: .int sp :: .ref (Θ.2.2.1 + a) :: S.map (oTr Θ))) rfl (hL.1.trans hC.2.2.2.1.symm) (rest := S.map (oTr Θ)) rfl (by rw [hC.2.1]; exact hd) (by omega) (by rw [oCat]; show 2 * 0 + _ + (nativeFrameWords "java/lang/System" "arraycopy" 5 + 11) ≤ _; omega)
  have e1 : copied (vp_cell (Θ.2.1 0) (na, .inl (M.1 a))) (vp_cell (Θ.2.1 0) (nb, .inl (M.1 b))) sp dp n = vp_cell (Θ.2.1 0) (nb, .inl (va_cpy (M.1 a) (M.1 b) sp.toNatClampNeg dp.toNatClampNeg n.toNatClampNeg)) := va_copied (fun z => .int z) _ _ _ _ hin.2.2.2.1
  rw [e1] at X' step
  have hl : Θ.2.2.1 + b < H.size := (Array.getElem?_eq_some_iff.mp hc1).1
  generalize hH1 : H.setIfInBounds (Θ.2.2.1 + b) (vp_cell (Θ.2.1 0) (nb, .inl (va_cpy (M.1 a) (M.1 b) sp.toNatClampNeg dp.toNatClampNeg n.toNatClampNeg))) = H1
  have z : H1.size = H.size := by rw [← hH1]; simp
  have oq : ∀ q : Nat, q ≠ Θ.2.2.1 + b → H1[q]? = H[q]? := fun q hq => by rw [← hH1]; simp [Array.getElem?_setIfInBounds, Ne.symm hq]
  have e2 : H1[Θ.2.2.1 + b]? = some (vp_cell (Θ.2.1 0) (nb, .inl (va_cpy (M.1 a) (M.1 b) sp.toNatClampNeg dp.toNatClampNeg n.toNatClampNeg))) := by rw [← hH1]; simp [Array.getElem?_setIfInBounds, hl]
  obtain ⟨t, a1, b1⟩ := kk p l e R s m args below meth c H1 _ ls Θ n0 ns0 Q hC (hD.set (M' := oRow M b (va_cpy (M.1 a) (M.1 b) sp.toNatClampNeg dp.toNatClampNeg n.toNatClampNeg)) (K' := K) rfl hb (by rw [oE_int hsb (by decide)]; show H1[_]? = some (vp_cell _ _); rw [e2]; simp [oRow]) z oq oRow_ne (fun q hq => by
      rcases List.mem_append.mp hq with h | h
      · exact Or.inl h
      · obtain ⟨zz, -, hz⟩ := List.mem_map.mp h
        rw [← hz]
        exact Or.inr rfl)) hL h1 h2 hR h3 h4 hQ _ (by rw [← hH1, ← hT]; rfl) X'
  exact ⟨t, step t a1, b1⟩
theorem oe_copyL {a b na nb idx : Nat} {sp dp n : Int32} (hd : decode J.2.1 pc = .ok (.invokestatic idx, 3)) (hw : Cond.methodLink J.2.2.2.2 idx arraycopyName ∈ oGood) (hd1 : 1 ≤ d) (hS8 : (S.map fun v => v.category).sum ≤ 8) (ha : a < K.1) (hs : K.2.2.1 a = (3, na)) (hb : b < K.1) (hsb : K.2.2.1 b = (3, nb))
    (hin : ¬ sp < 0 ∧ ¬ dp < 0 ∧ ¬ n < 0 ∧ sp.toNatClampNeg + n.toNatClampNeg ≤ na ∧ dp.toNatClampNeg + n.toNatClampNeg ≤ nb)
    (kk : oEv X d J (pc + 3) L S K (oRowL M b (va_cpy (M.2 a) (M.2 b) sp.toNatClampNeg dp.toNatClampNeg n.toNatClampNeg)) r K' M') : oEv X d J pc L (.int n :: .int dp :: .ref b :: .int sp :: .ref a :: S) K M r K' M' := by
  intro p l e R s m args below meth c H locs ls Θ n0 ns0 Q hC hD hL h1 h2 hR h3 h4 hQ
  have ea := oAd_lt (Θ := Θ) (Nat.lt_of_lt_of_le ha hD.2.1)
  have eb := oAd_lt (Θ := Θ) (Nat.lt_of_lt_of_le hb hD.2.1)
  show W p l e R s m args below meth c H locs _ _ Q (F0 m pc ls (.int n :: .int dp :: .ref (oAd Θ b) :: .int sp :: .ref (oAd Θ a) :: S.map (oTr Θ)))
  rw [ea, eb]
  have hts := hC.2.2.2.2.2.1
  have hK := hC.2.2.2.2.2.2.2.2.2.1.1
  have hnw : nativeFrameWords "java/lang/System" "arraycopy" 5 + 11 ≤ 48 := by decide +kernel
  intro T hT Xs
  have hc0 : H[Θ.2.2.1 + a]? = some (vp_cell (Θ.2.1 3) (na, .inr (.inl (M.2 a)))) := hD.2.2.1 a (Θ.2.2.1 + a, .inl (Θ.2.1 3, na, .inr (.inl (M.2 a)))) (by rw [oW_at ha, oE_long hs])
  have hc1 : H[Θ.2.2.1 + b]? = some (vp_cell (Θ.2.1 3) (nb, .inr (.inl (M.2 b)))) := hD.2.2.1 b (Θ.2.2.1 + b, .inl (Θ.2.1 3, nb, .inr (.inl (M.2 b)))) (by rw [oW_at hb, oE_long hsb])
  obtain ⟨-, k0, hk0, cm0, hkk0⟩ := (hK.2 3 _ rfl).1 na (fun j => .long (M.2 a j))
  obtain ⟨vm', X', step⟩ := Xs.arraycopy hC.1 hC.2.2.2.2.1 (hts _ hw) (hts _ oacp.1) (hts _ oacp.2.1) (hts _ oacp.2.2) (src := Θ.2.2.1 + a) (dst := Θ.2.2.1 + b) (cs := vp_cell (Θ.2.1 3) (na, .inr (.inl (M.2 a)))) (cd := vp_cell (Θ.2.1 3) (nb, .inr (.inl (M.2 b)))) (srcPos := sp) (destPos := dp) (n := n) (by rw [hT]; exact hc0) (by rw [hT]; exact hc1)
    (fun _ h => by cases h) (fun _ h => by cases h) (fun h => by cases h) (fun h => by cases h) hk0 hk0 hkk0 hkk0 (by simp [refKind]) hin.1 hin.2.1 hin.2.2.1
    (by rw [oNat_of hin.1, oNat_of hin.2.2.1]; show ¬ _ > ((arrV _ na (fun j => .long (M.2 a j))).slots.size : Int); rw [arrV_size]; omega)
    (by rw [oNat_of hin.2.1, oNat_of hin.2.2.1]; show ¬ _ > ((arrV _ nb (fun j => .long (M.2 b j))).slots.size : Int); rw [arrV_size]; omega)
    (fun vm₁ _ i hi => by
      have e : (vp_cell (Θ.2.1 3) (na, .inr (.inl (M.2 a)))).slots.getD (sp.toNatClampNeg + i) .null = .long (M.2 a (sp.toNatClampNeg + i)) := by
        show (arrV _ na (fun j => .long (M.2 a j))).slots.getD _ _ = _
        rw [Array.getD_eq_getD_getElem?, arrV_read _ _ (by omega)]
        rfl
      refine ⟨?_, ?_⟩
      · rw [e]
        rfl
      · rw [e]
        exact trivial)
    (g := F0 m pc ls (.int n :: .int dp :: .ref (Θ.2.2.1 + b) :: .int sp :: .ref (Θ.2.2.1 + a) :: S.map (oTr Θ))) rfl (hL.1.trans hC.2.2.2.1.symm) (rest := S.map (oTr Θ)) rfl (by rw [hC.2.1]; exact hd) (by omega) (by rw [oCat]; show 2 * 0 + _ + (nativeFrameWords "java/lang/System" "arraycopy" 5 + 11) ≤ _; omega)
  have e1 : copied (vp_cell (Θ.2.1 3) (na, .inr (.inl (M.2 a)))) (vp_cell (Θ.2.1 3) (nb, .inr (.inl (M.2 b)))) sp dp n = vp_cell (Θ.2.1 3) (nb, .inr (.inl (va_cpy (M.2 a) (M.2 b) sp.toNatClampNeg dp.toNatClampNeg n.toNatClampNeg))) := va_copied (fun z => .long z) _ _ _ _ hin.2.2.2.1
  rw [e1] at X' step
  have hl : Θ.2.2.1 + b < H.size := (Array.getElem?_eq_some_iff.mp hc1).1
  generalize hH1 : H.setIfInBounds (Θ.2.2.1 + b) (vp_cell (Θ.2.1 3) (nb, .inr (.inl (va_cpy (M.2 a) (M.2 b) sp.toNatClampNeg dp.toNatClampNeg n.toNatClampNeg)))) = H1
  have z : H1.size = H.size := by rw [← hH1]; simp
  have oq : ∀ q : Nat, q ≠ Θ.2.2.1 + b → H1[q]? = H[q]? := fun q hq => by rw [← hH1]; simp [Array.getElem?_setIfInBounds, Ne.symm hq]
  have e2 : H1[Θ.2.2.1 + b]? = some (vp_cell (Θ.2.1 3) (nb, .inr (.inl (va_cpy (M.2 a) (M.2 b) sp.toNatClampNeg dp.toNatClampNeg n.toNatClampNeg)))) := by rw [← hH1]; simp [Array.getElem?_setIfInBounds, hl]
  obtain ⟨t, a1, b1⟩ := kk p l e R s m args below meth c H1 _ ls Θ n0 ns0 Q hC (hD.set (M' := oRowL M b (va_cpy (M.2 a) (M.2 b) sp.toNatClampNeg dp.toNatClampNeg n.toNatClampNeg)) (K' := K) rfl hb (by rw [oE_long hsb]; show H1[_]? = some (vp_cell _ _); rw [e2]; simp [oRowL]) z oq oRowL_ne (fun q hq => by
      rcases List.mem_append.mp hq with h | h
      · exact Or.inl h
      · obtain ⟨zz, -, hz⟩ := List.mem_map.mp h
        rw [← hz]
        exact Or.inr rfl)) hL h1 h2 hR h3 h4 hQ _ (by rw [← hH1, ← hT]; rfl) X'
  exact ⟨t, step t a1, b1⟩
end COPY
def oMask : List Bool → List (Option Value) → List (Option Value)
  | true :: b, v :: l => v :: oMask b l
  | false :: b, _ :: l => none :: oMask b l
  | _, _ => []
theorem oMask_at : ∀ (b : List Bool) (L : List (Option Value)) (i : Nat) (v : Value), (oMask b L)[i]? = some (some v) → L[i]? = some (some v)
  | [], L, i, v, h => by simp [oMask] at h
  | true :: b, [], i, v, h => by simp [oMask] at h
  | false :: b, [], i, v, h => by simp [oMask] at h
  | true :: b, w :: l, 0, v, h => by simpa [oMask] using h
  | false :: b, w :: l, 0, v, h => by simp [oMask] at h
  | true :: b, w :: l, i + 1, v, h => by
    have := oMask_at b l i v (by simpa [oMask] using h)
    simpa using this
  | false :: b, w :: l, i + 1, v, h => by
    have := oMask_at b l i v (by simpa [oMask] using h)
    simpa using this
/-- fewer locals known is enough -/
theorem oEv.fg {X : oX} {d : Nat} {J : oJ} {pc : Nat} {L : List (Option Value)} {S : List Value} {K K' : oK} {M M' : oM} {r : Option Value} (b : List Bool) (k : oEv X d J pc (oMask b L) S K M r K' M') : oEv X d J pc L S K M r K' M' := by
  intro p l e R s m args below meth c H locs ls Θ n0 ns0 Q hC hD hL h1 h2 hR h3 h4 hQ
  exact k p l e R s m args below meth c H locs ls Θ n0 ns0 Q hC hD ⟨hL.1, hL.2.1, fun i v h => hL.2.2 i v (oMask_at b L i v h)⟩ h1 h2 hR h3 h4 hQ
theorem oCt {β : Type} {A B r : β} (h : cond true A B = r) : A = r := h
theorem oCf {β : Type} {A B r : β} (h : cond false A B = r) : B = r := h
theorem oCsN {β : Type} {A r : β} {B : Nat → β} (h : oCs none A B = r) : A = r := h
theorem oCsS {β : Type} {A r : β} {B : Nat → β} {x : Nat} (h : oCs (some x) A B = r) : B x = r := h
