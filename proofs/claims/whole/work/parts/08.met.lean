/-! a method's contract out of its walk -/
def oArgs : List Value → List (Option Value)
  | [] => []
  | v :: vs => if v.category = 2 then some v :: none :: oArgs vs else some v :: oArgs vs
theorem oArgs_mem {Θ : oT} {n : Nat} : ∀ (A : List Value) (k j : Nat) (v : Value), (oArgs A ++ List.replicate n none)[j]? = some (some v) → (k + j, oTr Θ v) ∈ lv_args k (A.map (oTr Θ))
  | [], k, j, v, h => by
    have h2 := List.mem_of_getElem? h
    simp [oArgs] at h2
  | w :: vs, k, j, v, h => by
    by_cases hc : w.category = 2
    · have hc2 : (oTr Θ w).category = 2 := by rw [oTr_cat]; exact hc
      simp only [oArgs, hc, if_true, List.cons_append] at h
      show _ ∈ (k, oTr Θ w) :: lv_args (if (oTr Θ w).category = 2 then k + 2 else k + 1) (vs.map (oTr Θ))
      rw [if_pos hc2]
      match j, h with
      | 0, h =>
        simp at h
        rw [h]
        exact List.mem_cons_self
      | 1, h => simp at h
      | j + 2, h =>
        have h3 := oArgs_mem (Θ := Θ) vs (k + 2) j v (by simpa using h)
        rw [show k + (j + 2) = k + 2 + j by omega]
        exact List.mem_cons_of_mem _ h3
    · have hc2 : ¬ (oTr Θ w).category = 2 := by rw [oTr_cat]; exact hc
      simp only [oArgs, hc, if_false, List.cons_append] at h
      show _ ∈ (k, oTr Θ w) :: lv_args (if (oTr Θ w).category = 2 then k + 2 else k + 1) (vs.map (oTr Θ))
      rw [if_neg hc2]
      match j, h with
      | 0, h =>
        simp at h
        rw [h]
        exact List.mem_cons_self
      | j + 1, h =>
        have h3 := oArgs_mem (Θ := Θ) vs (k + 1) j v (by simpa using h)
        rw [show k + (j + 1) = k + 1 + j by omega]
        exact List.mem_cons_of_mem _ h3
theorem oArgs_len {Θ : oT} : ∀ (A : List Value), (lg_sl (A.map (oTr Θ))).length = (oArgs A).length
  | [] => rfl
  | w :: vs => by
    have ih := oArgs_len (Θ := Θ) vs
    by_cases hc : w.category = 2
    · have hc2 : (oTr Θ w).category = 2 := by rw [oTr_cat]; exact hc
      simp only [oArgs, hc, if_true, List.map_cons, lg_sl, List.flatMap_cons, hc2, List.length_append, List.length_cons, List.length_nil] at ih ⊢
      omega
    · have hc2 : ¬ (oTr Θ w).category = 2 := by rw [oTr_cat]; exact hc
      simp only [oArgs, hc, if_false, List.map_cons, lg_sl, List.flatMap_cons, hc2, List.length_append, List.length_cons, List.length_nil] at ih ⊢
      omega
theorem oEntry {Θ : oT} {A : List Value} {nl : Nat} (h : (oArgs A).length ≤ nl) : oLoc Θ nl ((lg_sl (A.map (oTr Θ)) ++ List.replicate (nl - (lg_sl (A.map (oTr Θ))).length) Slot.unset).toArray) (oArgs A ++ List.replicate (nl - (oArgs A).length) none) := by
  have hl := lv_entry (A.map (oTr Θ)) (n := nl) (by rw [oArgs_len]; exact h)
  refine ⟨hl.1, hl.2.1, fun i v hi => ?_⟩
  have h3 := oArgs_mem (Θ := Θ) A 0 i v hi
  rw [Nat.zero_add] at h3
  exact hl.2.2 _ h3
section MET
variable {X : oX} {d : Nat} {J : oJ} {L : List (Option Value)} {K K' : oK} {M M' : oM} {r : Option Value}
theorem oMet_of {A : List Value} {n : Nat} (hJ : oMC J n) (ho : J.2.2.2.2 = J.1.cls) (hA : (oArgs A).length ≤ J.2.2.1) (hL : oArgs A ++ List.replicate (J.2.2.1 - (oArgs A).length) none = L) (h3 : K.1 ≤ K'.1) (h4 : K.2.1 ≤ K'.2.1) (h : oEv X d J 0 L [] K M r K' M') : oMet X d J A K M r K' M' := by
  intro l Θ
  refine Met.ofW (ws' := oGood) (cc := J.2.1) (maxL := J.2.2.1) (ret := J.2.2.2.1) hJ.2.2.2.1 rfl ?_
  intro p e s m args below meth c s₁ B hml hv
  obtain ⟨rfl, hrel⟩ := hv
  have hts : ∀ w ∈ oGood, w.before (A.map (oTr Θ)).toArray s = true := fun w hw => atoms_spec (ws := oWs J) B.pre w (List.mem_cons_of_mem _ hw)
  have hown : s.vm.findClass J.2.2.2.2 = some m.cls := by rw [ho]; exact findClass_of_methodNamed B.named
  have hC : oCtx Θ X J p s m (A.map (oTr Θ)).toArray meth c := ⟨B.exec, B.bytes, B.returns, hml, hown, hts, B.notSynchronized, fun h => (name_of_methodNamed B.named B.method).1.trans h, by rw [hrel.1]; exact Nat.le_add_right _ _, hrel.2.2.2.1, hrel.2.2.2.2⟩
  have hD : oDyn Θ K M s s.heap [] := ⟨hrel.1, hrel.2.1, hrel.2.2.1, va_S.rf⟩
  rw [lg_entry_eq]
  have k9 := h p l e (oRoom d (K'.1 - K.1) (K'.2.1 - K.2.1)) s m (A.map (oTr Θ)).toArray below meth c s.heap [] _ Θ K.1 K.2.1 (MQ below (oQ Θ X r K' M') (A.map (oTr Θ)).toArray s (K'.1 - K.1) (K'.2.1 - K.2.1) (fun q : Nat => Θ.2.2.1 ≤ q)) hC hD (by rw [← hL]; exact oEntry hA) (Nat.le_refl _) (Nat.le_refl _) ⟨Nat.le_refl _, Nat.le_refl _, Nat.le_refl _, Nat.le_refl _⟩ h3 h4 ?_
  · rw [Nat.sub_self, Nat.sub_self] at k9
    exact k9
  · intro H' locs' ls' pc' hD' hRt
    have fin : ∀ (o : Option Value) (t : State), o = r → t.heap = H' → s.WarmedH t.vm → oQ Θ X r K' M' (A.map (oTr Θ)).toArray s (.returned (o.map (oTr Θ))) t := by
      intro o t ho ht hW
      subst ho
      exact ⟨rfl, oRelOf hC hD' t ht hW, hD'.2.2.2.F ht⟩
    match r, hRt, fin with
    | none, hRt, fin => exact W.vret hC.1 hC.2.1 (hC.2.2.1.trans hRt.2) (fun t ht hW => fin none t rfl ht hW) hD'.2.2.2.2.2 hRt.1 hC.2.2.2.2.2.2.1
    | some (.int v), hRt, fin =>
      obtain ⟨hdg, ty, hty, hn⟩ := hRt
      exact W.zret hC.1 hC.2.1 (hC.2.2.1.trans hty) hn (fun t ht hW => fin (some (.int v)) t rfl ht hW) hD'.2.2.2.2.2 hdg hC.2.2.2.2.2.2.1
    | some (.long v), hRt, fin => exact W.lret hC.1 hC.2.1 (hC.2.2.1.trans hRt.2) (fun t ht hW => fin (some (.long v)) t rfl ht hW) hD'.2.2.2.2.2 hRt.1 hC.2.2.2.2.2.2.1
    | some .null, hRt, fin =>
      obtain ⟨hdg, C, hC2⟩ := hRt
      exact W.aret hC.1 hC.2.1 (hC.2.2.1.trans hC2) (Or.inl ⟨C, rfl⟩) (Or.inl rfl) (fun t ht hW => fin (some .null) t rfl ht hW) hD'.2.2.2.2.2 hdg hC.2.2.2.2.2.2.1
    | some (.ref a), hRt, fin =>
      obtain ⟨hdg, C, hC2⟩ := hRt
      exact W.aret hC.1 hC.2.1 (hC.2.2.1.trans hC2) (Or.inl ⟨C, rfl⟩) (Or.inr ⟨_, rfl⟩) (fun t ht hW => fin (some (.ref a)) t rfl ht hW) hD'.2.2.2.2.2 hdg hC.2.2.2.2.2.2.1
end MET
