/-! calls, and a method's contract out of its walk -/
theorem oGW {J : oJ} {n : Nat} (h : oMC J n) : GoodIn oGood (oWs J) := by
  intro w hw
  have hm : w ∈ oGood := by
    rcases List.mem_cons.mp hw with rfl | h2
    · exact h.1
    · exact h2
  exact ⟨hm, good_of_word (List.mem_filter.mp hm).2⟩
section CALL
variable {X : oX} {d : Nat} {J : oJ} {pc : Nat} {L : List (Option Value)} {S : List Value} {K K' : oK} {M M' : oM} {r : Option Value}
/-- behind a call -/
theorem oAfter {p : Program} {l : Launch} {e : Env} {R : Room} {s : State} {m : MethodId} {args : Array Value} {below : List Frame} {meth : Method} {c : Code} {H : Heap} {locs : List Loc} {ls : Array Slot} {Θ : oT} {n0 ns0 : Nat} {Q : State → Prop} {K1 : oK} {M1 : oM} {rv : Option Value} {st0 : List Value} {a : Array Value}
    (hr : va_Run p l e R s m args below meth c H locs (K.1 - n0) (K.2.1 - ns0) (K1.1 - K.1) (K1.2.1 - K.2.1) (F0 m pc ls st0) (S.map (oTr Θ)) (oQ Θ X rv K1 M1 a) (fun q : Nat => Θ.2.2.1 ≤ q))
    (hC : oCtx Θ X J p s m args meth c) (hD : oDyn Θ K M s H locs) (h1 : n0 ≤ K.1) (h2 : ns0 ≤ K.2.1) (h3 : K.1 ≤ K1.1) (h4 : K.2.1 ≤ K1.2.1)
    (kk : ∀ (H1 : Heap) (locs1 : List Loc), oDyn Θ K1 M1 s H1 locs1 → W p l e R s m args below meth c H1 locs1 (K1.1 - n0) (K1.2.1 - ns0) Q (F0 m (pc + 3) ls ((rv.toList ++ S).map (oTr Θ)))) :
    W p l e R s m args below meth c H locs (K.1 - n0) (K.2.1 - ns0) Q (F0 m pc ls st0) := by
  intro T hT Xs
  obtain ⟨v, st₀, t, T', Lc, h0, X', hL, e1, e2, ⟨hv, hrel, hF⟩, st⟩ := hr T hT Xs
  have hv : v = rv.map (oTr Θ) := Outcome.returned.inj hv
  subst hv
  have hD1 : oDyn Θ K1 M1 s T'.heap (locs ++ Lc) := by
    rw [e1]
    refine ⟨hrel.1, hrel.2.1, hrel.2.2.1, ?_, fun q g1 g2 => ?_, fun q hq => ?_⟩
    · exact Nat.le_trans hD.2.2.2.1 (by rw [← h0]; exact hF.1)
    · rw [hF.2 q (by rw [h0]; exact Nat.lt_of_lt_of_le g1 hD.2.2.2.1) g2, h0]
      exact hD.2.2.2.2.1 q g1 g2
    · rcases List.mem_append.mp hq with h | h
      · exact hD.2.2.2.2.2 q h
      · exact hL q h
  have k9 := kk T'.heap (locs ++ Lc) hD1
  have ec : K1.1 - n0 = K.1 - n0 + (K1.1 - K.1) := by omega
  have es : K1.2.1 - ns0 = K.2.1 - ns0 + (K1.2.1 - K.2.1) := by omega
  rw [ec, es] at k9
  obtain ⟨t2, a1, b1⟩ := k9 T' rfl X'
  refine ⟨t2, st t2 ?_, b1⟩
  rw [show ((rv.map (oTr Θ)).toList ++ S.map (oTr Θ)) = (rv.toList ++ S).map (oTr Θ) by cases rv <;> simp]
  exact a1
theorem oRelOf {p : Program} {s : State} {m : MethodId} {args : Array Value} {meth : Method} {c : Code} {H : Heap} {locs : List Loc} {Θ : oT} (hC : oCtx Θ X J p s m args meth c) (hD : oDyn Θ K M s H locs) : ∀ U : State, U.heap = H → s.WarmedH U.vm → oRel Θ X K M U U.heap := by
  intro U hU hW
  refine ⟨by rw [hU]; exact hD.1, hD.2.1, by rw [hU]; exact hD.2.2.1, hC.2.2.2.2.2.2.2.2.2.1.warm hW, ?_⟩
  have h := hC.2.2.2.2.2.2.2.2.2.2.moved (U := U) hW.alike
  refine h.kept (fun q hq => ?_)
  rw [hU]
  exact hD.2.2.2.2.1 q (Nat.lt_of_lt_of_le hq hC.2.2.2.2.2.2.2.2.1) (Nat.not_le.mpr hq)
theorem oRm {R : Room} {d d2 ml mc ms : Nat} (h : d ≤ R.frames ∧ d * 64 ≤ R.locals) (hd : d2 < d) (hm : ml ≤ 40) : (oRoom d2 mc ms).frames + 1 ≤ R.frames ∧ 8 + (ml + 11) + (oRoom d2 mc ms).locals ≤ R.locals := by
  constructor
  · show d2 + 1 ≤ R.frames; omega
  · show 8 + (ml + 11) + d2 * 64 ≤ R.locals; omega
theorem oCat {Θ : oT} : (S.map (oTr Θ)).map (fun v => v.category) = S.map (fun v => v.category) := by
  rw [List.map_map]
  apply List.map_congr_left
  intro v _
  exact oTr_cat Θ v
/-- a method of an object -/
theorem oe_callV {J2 : oJ} {A St : List Value} {K1 : oK} {M1 : oM} {rv : Option Value} {b n idx d2 ci : Nat} (hd : decode J.2.1 pc = .ok (.invokevirtual idx, 3)) (hM : oMet X d2 J2 (.ref b :: A) K M rv K1 M1) (hd2 : d2 < d) (hw : Cond.methodLink J.2.2.2.2 idx J2.1 ∈ oGood) (hJ : oMV J2 n) (hn : A.length = n) (hst : St = A.reverse ++ .ref b :: S)
    (hb : b < K.1) (hsb : (K.2.2.1 b).1 = ci + 6) (hc : oCK ci) (hcn : oRn ci = J2.1.cls) (hS8 : (S.map fun v => v.category).sum ≤ 8) (h3 : K.1 ≤ K1.1 ∧ K1.1 ≤ K'.1) (h4 : K.2.1 ≤ K1.2.1 ∧ K1.2.1 ≤ K'.2.1)
    (kk : oEv X d J (pc + 3) L (rv.toList ++ S) K1 M1 r K' M') : oEv X d J pc L St K M r K' M' := by
  intro p l e R s m args below meth c H locs ls Θ n0 ns0 Q hC hD hL h1 h2 hR h5 h6 hQ
  subst hst
  have ea := oAd_lt (Θ := Θ) (Nat.lt_of_lt_of_le hb hD.2.1)
  have hts := hC.2.2.2.2.2.1
  refine oAfter (a := (Value.ref (oAd Θ b) :: A.map (oTr Θ)).toArray) (K1 := K1) (M1 := M1) (rv := rv) (S := S) (va_runV (As := A.map (oTr Θ)) (b := oAd Θ b) (C := J2.1.cls) (bytes := J2.2.1) (maxL := J2.2.2.1) (ret := J2.2.2.2.1) (n := n) (nL := J.2.2.1) (own := J.2.2.2.2) (Ts := oGood) ⟨hC.1, hC.2.1, hC.2.2.2.1, hC.2.2.2.2.1, hts⟩ (hM l Θ) ?_ ⟨oRel.blind, ?_, ?_⟩ rfl (by simpa using hn) hL.1 ?_ ?_ hd ?_) hC hD h1 h2 h3.1 h4.1 ?_
  · exact cwV n hts (fun w h => by
      rcases List.mem_append.mp (show w ∈ ([.methodLink J.2.2.2.2 idx J2.1, .instanceMethod J2.1, .selects J2.1.cls J2.1 J2.1, .initialized J2.1.cls] : List Cond) ++ oWs J2 from h) with h9 | h9
      · have hg : w ∈ oGood := by
          simp only [List.mem_cons, List.not_mem_nil, or_false] at h9
          rcases h9 with rfl | rfl | rfl | rfl
          · exact hw
          · exact hJ.2.1
          · exact hJ.2.2
          · exact hJ.1.2.1
        exact ⟨hg, good_of_word (List.mem_filter.mp hg).2⟩
      · exact oGW hJ.1 w h9) rfl rfl rfl ⟨rfl, hJ.1.2.2.1⟩ (oRm ⟨hR.1, hR.2.1⟩ hd2 hJ.1.2.2.2.2)
  · obtain ⟨r', hr', cellV, g1, g2, g3, -⟩ := hD.2.2.1 b _ (by rw [oW_at hb, oE_obj hsb])
    refine ⟨cellV, by rw [ea]; exact g1, by rw [g3]; rfl, ?_⟩
    have hcls := (hC.2.2.2.2.2.2.2.2.2.1.1.1 ci _ hc.1).2
    rw [g2, ← hcn]
    exact hcls.1
  · exact fun U hU hW => ⟨by simp [oTr], oRelOf hC hD U hU hW⟩
  · simp [List.map_append, List.map_reverse, oTr]
  · exact lv_room (by rw [oCat]; exact hS8)
  · exact ⟨by omega, by omega⟩
  · exact fun H1 locs1 hD1 => kk p l e R s m args below meth c H1 locs1 ls Θ n0 ns0 Q hC hD1 hL (by omega) (by omega) hR h3.2 h4.2 hQ
/-- a method of no object -/
theorem oe_callS {J2 : oJ} {A St : List Value} {K1 : oK} {M1 : oM} {rv : Option Value} {n idx d2 : Nat} (hd : decode J.2.1 pc = .ok (.invokestatic idx, 3)) (hM : oMet X d2 J2 A K M rv K1 M1) (hd2 : d2 < d) (hw : Cond.methodLink J.2.2.2.2 idx J2.1 ∈ oGood) (hJ : oMS J2 n) (hn : A.length = n) (hst : St = A.reverse ++ S)
    (hS8 : (S.map fun v => v.category).sum ≤ 8) (h3 : K.1 ≤ K1.1 ∧ K1.1 ≤ K'.1) (h4 : K.2.1 ≤ K1.2.1 ∧ K1.2.1 ≤ K'.2.1)
    (kk : oEv X d J (pc + 3) L (rv.toList ++ S) K1 M1 r K' M') : oEv X d J pc L St K M r K' M' := by
  intro p l e R s m args below meth c H locs ls Θ n0 ns0 Q hC hD hL h1 h2 hR h5 h6 hQ
  subst hst
  have hts := hC.2.2.2.2.2.1
  refine oAfter (a := (A.map (oTr Θ)).toArray) (K1 := K1) (M1 := M1) (rv := rv) (S := S) (va_runS (As := A.map (oTr Θ)) (bytes := J2.2.1) (maxL := J2.2.2.1) (ret := J2.2.2.2.1) (n := n) (nL := J.2.2.1) (own := J.2.2.2.2) (Ts := oGood) ⟨hC.1, hC.2.1, hC.2.2.2.1, hC.2.2.2.2.1, hts⟩ (hM l Θ) ?_ ⟨oRel.blind, ?_⟩ rfl (by simpa using hn) hL.1 ?_ ?_ hd ?_) hC hD h1 h2 h3.1 h4.1 ?_
  · exact ⟨callB_of n hts (oGW hJ.1) rfl rfl rfl (hts _ hJ.1.2.1) (hts _ hw) hJ.1.2.2.1 (oRm ⟨hR.1, hR.2.1⟩ hd2 hJ.1.2.2.2.2), hts _ hJ.2⟩
  · exact fun U hU hW => ⟨rfl, oRelOf hC hD U hU hW⟩
  · simp [List.map_append, List.map_reverse]
  · exact lv_room (by rw [oCat]; exact hS8)
  · exact ⟨by omega, by omega⟩
  · exact fun H1 locs1 hD1 => kk p l e R s m args below meth c H1 locs1 ls Θ n0 ns0 Q hC hD1 hL (by omega) (by omega) hR h3.2 h4.2 hQ
/-- a constructor -/
theorem oe_callI {J2 : oJ} {A St : List Value} {K1 : oK} {M1 : oM} {b n idx d2 : Nat} (hd : decode J.2.1 pc = .ok (.invokespecial idx, 3)) (hM : oMet X d2 J2 (.ref b :: A) K M none K1 M1) (hd2 : d2 < d) (hw : Cond.methodLink J.2.2.2.2 idx J2.1 ∈ oGood) (hJ : oMI J2 n) (hn : A.length = n) (hst : St = A.reverse ++ .ref b :: S)
    (hS8 : (S.map fun v => v.category).sum ≤ 8) (h3 : K.1 ≤ K1.1 ∧ K1.1 ≤ K'.1) (h4 : K.2.1 ≤ K1.2.1 ∧ K1.2.1 ≤ K'.2.1)
    (kk : oEv X d J (pc + 3) L S K1 M1 r K' M') : oEv X d J pc L St K M r K' M' := by
  intro p l e R s m args below meth c H locs ls Θ n0 ns0 Q hC hD hL h1 h2 hR h5 h6 hQ
  subst hst
  have hts := hC.2.2.2.2.2.1
  have hJr : J2.2.2.2.1 = none := hJ.2.2.2
  refine oAfter (a := (Value.ref (oAd Θ b) :: A.map (oTr Θ)).toArray) (K1 := K1) (M1 := M1) (rv := none) (S := S) (va_runI (ws := oWs J2) (As := A.map (oTr Θ)) (b := oAd Θ b) (bytes := J2.2.1) (maxL := J2.2.2.1) (n := n) (nL := J.2.2.1) (own := J.2.2.2.2) (Ts := oGood) ⟨hC.1, hC.2.1, hC.2.2.2.1, hC.2.2.2.2.1, hts⟩ (hM l Θ) ?_ ⟨oRel.blind, ?_⟩ rfl (by simpa using hn) hL.1 ?_ ?_ hd ?_) hC hD h1 h2 h3.1 h4.1 ?_
  · refine ⟨callB_of (ws' := oGood) n hts (oGW hJ.1) (by unfold oWs; rw [hJr]) rfl rfl (hts _ hJ.1.2.1) (hts _ hw) hJ.1.2.2.1 (oRm ⟨hR.1, hR.2.1⟩ hd2 hJ.1.2.2.2.2), hJ.2.2.1, hts _ hJ.2.1⟩
  · exact fun U hU hW => ⟨by simp [oTr], oRelOf hC hD U hU hW⟩
  · simp [List.map_append, List.map_reverse, oTr]
  · exact lv_room (by rw [oCat]; exact hS8)
  · exact ⟨by omega, by omega⟩
  · exact fun H1 locs1 hD1 => kk p l e R s m args below meth c H1 locs1 ls Θ n0 ns0 Q hC hD1 hL (by omega) (by omega) hR h3.2 h4.2 hQ
/-- a constructor of a nest mate -/
theorem oe_callN {J2 : oJ} {A St : List Value} {K1 : oK} {M1 : oM} {b n idx d2 : Nat} {host : String} (hd : decode J.2.1 pc = .ok (.invokespecial idx, 3)) (hM : oMet X d2 J2 (.ref b :: A) K M none K1 M1) (hd2 : d2 < d) (hw : ∀ U, oNw U → va_Nw (.methodLinkNest J.2.2.2.2 idx J2.1 host) U) (hJ : oMI J2 n) (hn : A.length = n) (hst : St = A.reverse ++ .ref b :: S)
    (hS8 : (S.map fun v => v.category).sum ≤ 8) (h3 : K.1 ≤ K1.1 ∧ K1.1 ≤ K'.1) (h4 : K.2.1 ≤ K1.2.1 ∧ K1.2.1 ≤ K'.2.1)
    (kk : oEv X d J (pc + 3) L S K1 M1 r K' M') : oEv X d J pc L St K M r K' M' := by
  intro p l e R s m args below meth c H locs ls Θ n0 ns0 Q hC hD hL h1 h2 hR h5 h6 hQ
  subst hst
  have hts := hC.2.2.2.2.2.1
  have hJr : J2.2.2.2.1 = none := hJ.2.2.2
  refine oAfter (a := (Value.ref (oAd Θ b) :: A.map (oTr Θ)).toArray) (K1 := K1) (M1 := M1) (rv := none) (S := S) (va_runIN (ws := oWs J2) (host := host) (As := A.map (oTr Θ)) (b := oAd Θ b) (bytes := J2.2.1) (maxL := J2.2.2.1) (n := n) (nL := J.2.2.1) (own := J.2.2.2.2) (Ts := oGood) ⟨hC.1, hC.2.1, hC.2.2.2.1, hC.2.2.2.2.1, hts⟩ (hM l Θ) ?_ ⟨oRel.blind, ?_⟩ rfl (by simpa using hn) hL.1 ?_ ?_ hd ?_) hC hD h1 h2 h3.1 h4.1 ?_
  · refine ⟨va_cnB (ws' := oGood) n hts (oGW hJ.1) (by unfold oWs; rw [hJr]) rfl rfl (hw s hC.2.2.2.2.2.2.2.2.2.1.2.2.2) (hts _ hJ.1.2.1) hJ.1.2.2.1 (oRm ⟨hR.1, hR.2.1⟩ hd2 hJ.1.2.2.2.2), hJ.2.2.1, hts _ hJ.2.1⟩
  · exact fun U hU hW => ⟨by simp [oTr], oRelOf hC hD U hU hW⟩
  · simp [List.map_append, List.map_reverse, oTr]
  · exact lv_room (by rw [oCat]; exact hS8)
  · exact ⟨by omega, by omega⟩
  · exact fun H1 locs1 hD1 => kk p l e R s m args below meth c H1 locs1 ls Θ n0 ns0 Q hC hD1 hL (by omega) (by omega) hR h3.2 h4.2 hQ
/-- the constructor of java.lang.Object -/
theorem oe_obj {b idx : Nat} (hd : decode J.2.1 pc = .ok (.invokespecial idx, 3)) (hw : Cond.methodLink J.2.2.2.2 idx Lib.objectInit ∈ oGood) (hd1 : 1 ≤ d) (hS8 : (S.map fun v => v.category).sum ≤ 8)
    (kk : oEv X d J (pc + 3) L S K M r K' M') : oEv X d J pc L (.ref b :: S) K M r K' M' := by
  intro p l e R s m args below meth c H locs ls Θ n0 ns0 Q hC hD hL h1 h2 hR h5 h6 hQ
  have hts := hC.2.2.2.2.2.1
  have k9 := kk p l e R s m args below meth c H locs ls Θ n0 ns0 Q hC hD hL h1 h2 hR h5 h6 hQ
  refine W.objInit hC.1 hC.2.1 hC.2.2.2.2.1 (hts _ hw) (hts _ oobj.1) (hts _ oobj.2) rfl (hL.1.trans hC.2.2.2.1.symm) rfl hd (by omega) ?_ k9
  rw [oCat]
  show 2 * 0 + _ + 12 ≤ _
  omega
theorem oe_mmax {x y : Int32} {idx : Nat} (hd : decode J.2.1 pc = .ok (.invokestatic idx, 3)) (hw : Cond.methodLink J.2.2.2.2 idx Lib.Math.max.name ∈ oGood) (hd1 : 1 ≤ d) (hS8 : (S.map fun v => v.category).sum ≤ 8)
    (kk : oEv X d J (pc + 3) L (.int (if x < y then y else x) :: S) K M r K' M') : oEv X d J pc L (.int y :: .int x :: S) K M r K' M' := by
  intro p l e R s m args below meth c H locs ls Θ n0 ns0 Q hC hD hL h1 h2 hR h5 h6 hQ
  have hts := hC.2.2.2.2.2.1
  exact va_mmax hC.1 hC.2.1 (hC.2.2.2.1.trans hL.1.symm) hC.2.2.2.2.1 (hts _ hw) (hts _ oma_max.1) (hts _ oma_max.2.1) (hts _ oma_max.2.2) (by omega) (by rw [oCat]; omega) (by omega) (by omega) hd (kk p l e R s m args below meth c H locs ls Θ n0 ns0 Q hC hD hL h1 h2 hR h5 h6 hQ)
theorem oe_mmin {x y : Int32} {idx : Nat} (hd : decode J.2.1 pc = .ok (.invokestatic idx, 3)) (hw : Cond.methodLink J.2.2.2.2 idx Lib.Math.min.name ∈ oGood) (hd1 : 1 ≤ d) (hS8 : (S.map fun v => v.category).sum ≤ 8)
    (kk : oEv X d J (pc + 3) L (.int (if y < x then y else x) :: S) K M r K' M') : oEv X d J pc L (.int y :: .int x :: S) K M r K' M' := by
  intro p l e R s m args below meth c H locs ls Θ n0 ns0 Q hC hD hL h1 h2 hR h5 h6 hQ
  have hts := hC.2.2.2.2.2.1
  exact va_mmin hC.1 hC.2.1 (hC.2.2.2.1.trans hL.1.symm) hC.2.2.2.2.1 (hts _ hw) (hts _ oma_min.1) (hts _ oma_min.2.1) (hts _ oma_min.2.2) (by omega) (by rw [oCat]; omega) (by omega) (by omega) hd (kk p l e R s m args below meth c H locs ls Θ n0 ns0 Q hC hD hL h1 h2 hR h5 h6 hQ)
end CALL
