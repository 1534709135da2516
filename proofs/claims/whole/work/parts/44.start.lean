/-! the start: what the Statement gives of it, as the picture wants it -/
/-! THE CLAIM OUT OF ONE WALK OF THE LAW'S BODY. Your part is whole_start (and what it stands on); all else here is the same for every law, but numbers. -/
def R_law : String := "OverHillLaw"
def lw_P (b : Addr) (xs : List Int32) (args : Array Value) (s : State) : Prop := args = #[.ref b] ∧ s.IntsAt b xs ∧ xs.length ≤ 384 ∧ (Jvm.Cond.and given_1 narrow_1).before args s = true
def lw_Q (_ : Array Value) (s : State) (o : Outcome) (t : State) : Prop := o = .returned (some (.int 1)) ∧ Framed s o t [] 600000 7302250
def lw_Z (below : List Frame) (a : Array Value) (s : State) : State → Prop := fun t => ∃ o, t.status = .running ∧ Ended t below o ∧ lw_Q a s o t
/-- the law's own end, with 1 on the stack, nothing written that was there before, its room as the claim has it -/
theorem lw_ret {p : Program} {l : Launch} {e : Env} {s : State} {m : MethodId} {below : List Frame} {meth : Method} {c : Code} {b : Nat} (hx : p.tables.exec = Jvm.exec) (hb : c.code = code) (hr : meth.sig.returnType = ret) (hlocks : meth.locks = false) {pc : Nat} {H : Heap} {ls : Array Slot} (hdg : decode code pc = .ok (.ireturn, 1)) : W p l e room_1 s m #[Value.ref b] below meth c H [] 600000 7302250 (lw_Z below #[Value.ref b] s) (F0 m pc ls [.int 1]) := by
  intro T hT X
  obtain ⟨fs, hret, hrun, hended, hW, hframe⟩ := X.leave (v := some (.int 1)) (hlocks := hlocks) (fun h => by rw [hr] at h; cases h)
  have hmeth' : T.vm.method? m = some meth := X.method'
  refine ⟨T.setFrames fs, ?_, .returned (some (.int 1)), hrun, hended, rfl, ⟨_, rfl⟩, hW, hframe⟩
  jvm_step X.here [X.here.top, hx, hb, hdg, hmeth', hr, ret, narrow_b1]
  (try refine ⟨rfl, ?_⟩); (try refine ⟨rfl, ?_⟩)
  first | (intro acts; rw [hret _ acts rfl rfl rfl]) | rw [hret _ _ rfl rfl rfl]
  exact Steps.refl _
/-- what holds at the law's entry: the machine, the code, the tables' words (any of lw_tbl by 'hts w (by decide +kernel)'), the script of L ints xs at the cell b, what the Statement gives of the start (any of its parts by flat_of_before) -/
def lw_At (p : Program) (s : State) (m : MethodId) (meth : Method) (c : Code) (b L : Nat) (xs : Nat → Int32) : Prop :=
  p.tables.exec = Jvm.exec ∧ c.code = code ∧ meth.sig.returnType = ret ∧ c.maxLocals = 4 ∧ s.vm.findClass R_law = some m.cls ∧ (∀ w ∈ lw_tbl, w.before #[Value.ref b] s = true) ∧ va_X b L xs s s.heap ∧ b < s.heap.size ∧ meth.locks = false ∧ (Jvm.Cond.and given_1 narrow_1).before #[Value.ref b] s = true

theorem oKn_all {args : Array Value} {s : State} (hts : ∀ w ∈ oGood, w.before args s = true) : ∃ (dC : Nat → ClassId) (dI : Nat → Nat → Nat), ∀ (k : Nat) (q : vw_C), oCl[k]? = some q → u_Kn s q.1 q.2.1 q.2.2 (dC k) (dI k) := by
  obtain ⟨c0, i0, h0⟩ := u_known (C := oR0) (T := oT0) (N := 5) (n := 5) hts oin0 (hts _ oins0)
  obtain ⟨c1, i1, h1⟩ := u_known (C := oR1) (T := oT1) (N := 7) (n := 7) hts oin1 (hts _ oins1)
  obtain ⟨c2, i2, h2⟩ := u_known (C := oR2) (T := oT2) (N := 9) (n := 9) hts oin2 (hts _ oins2)
  obtain ⟨c3, i3, h3⟩ := u_known (C := oR3) (T := oT3) (N := 7) (n := 7) hts oin3 (hts _ oins3)
  obtain ⟨c4, i4, h4⟩ := u_known (C := oR4) (T := oT4) (N := 7) (n := 7) hts oin4 (hts _ oins4)
  obtain ⟨c5, i5, h5⟩ := u_known (C := oR5) (T := oT5) (N := 5) (n := 5) hts oin5 (hts _ oins5)
  obtain ⟨c6, i6, h6⟩ := u_known (C := oR6) (T := oT6) (N := 8) (n := 8) hts oin6 (hts _ oins6)
  obtain ⟨c7, i7, h7⟩ := u_known (C := oR7) (T := oT7) (N := 16) (n := 16) hts oin7 (hts _ oins7)
  obtain ⟨c8, i8, h8⟩ := u_known (C := oR8) (T := oT8) (N := 6) (n := 6) hts oin8 (hts _ oins8)
  obtain ⟨c9, i9, h9⟩ := u_known (C := oR9) (T := oT9) (N := 5) (n := 5) hts oin9 (hts _ oins9)
  obtain ⟨c10, i10, h10⟩ := u_known (C := oR10) (T := oT10) (N := 4) (n := 4) hts oin10 (hts _ oins10)
  obtain ⟨c11, i11, h11⟩ := u_known (C := oR11) (T := oT11) (N := 12) (n := 12) hts oin11 (hts _ oins11)
  obtain ⟨c12, i12, h12⟩ := u_known (C := oR12) (T := oT12) (N := 66) (n := 66) hts oin12 (hts _ oins12)
  refine ⟨fun k => [c0, c1, c2, c3, c4, c5, c6, c7, c8, c9, c10, c11, c12].getD k c0, fun k => [i0, i1, i2, i3, i4, i5, i6, i7, i8, i9, i10, i11, i12].getD k i0, ?_⟩
  intro k q hq
  match k, hq with
  | 0, hq => cases hq; exact h0
  | 1, hq => cases hq; exact h1
  | 2, hq => cases hq; exact h2
  | 3, hq => cases hq; exact h3
  | 4, hq => cases hq; exact h4
  | 5, hq => cases hq; exact h5
  | 6, hq => cases hq; exact h6
  | 7, hq => cases hq; exact h7
  | 8, hq => cases hq; exact h8
  | 9, hq => cases hq; exact h9
  | 10, hq => cases hq; exact h10
  | 11, hq => cases hq; exact h11
  | 12, hq => cases hq; exact h12
  | k + 13, hq => simp [oCl] at hq
theorem oArI {args : Array Value} {s : State} {ty : FieldType} (h : (Cond.arrayClass ty).before args s = true) (hr : ∀ C, ty ≠ .object C) : ∃ cA : ClassId, ArrOfT s cA ty ∧ va_RA s cA ty := by
  obtain ⟨cA, kA, comp, h1, h2, h3⟩ := Cond.arrayClass_spec h
  refine ⟨cA, fun n z => ⟨fun k h => (by cases h), kA, h2, comp, h3⟩, ?_⟩
  cases ty with
  | object C => exact absurd rfl (hr C)
  | _ => exact h1
theorem oArO {args : Array Value} {s : State} {C : String} (h : (Cond.arrayOver (.object C)).before args s = true) : ∃ cA : ClassId, ArrOfT s cA (.object C) ∧ va_RA s cA (.object C) := by
  obtain ⟨comp, c, k, h1, -, h3, h4, h5⟩ := Cond.arrayOver_spec h
  exact ⟨c, fun n z => ⟨fun k h => (by cases h), k, h3, comp, h4⟩, k, comp, h3, h4, h1, h5⟩
theorem oTab1 {args : Array Value} {s : State} (hgv : (Jvm.Cond.and given_1 narrow_1).before args s = true) (hls : (Cond.laysStatic "OverHill" "MOST_SETTING" "[I").before args s = true) (hini : (Cond.initialized "OverHill").before args s = true) {A : Nat → Prop} (hA : ∀ a : Nat, a < s.heap.size → ¬ A a) : ∃ q : Nat, va_T .int q 3 (fun j => .int (oTb 1 j)) A s s.heap ∧ va_Z "OverHill" "MOST_SETTING" "[I" (.ref q) A s s.heap := by
  have hs := flat_of_before _ hgv
  have hel : ∀ j : Nat, j < 3 → (Term.elem (.static "OverHill" "MOST_SETTING" "[I") (.int (Int32.ofNat j))).eval args s none [] s = some (.int (oTb 1 j)) := by
    intro j hj
    match j, hj with
    | 0, _ => exact va_eqt (hs (.eq (.elem (.static "OverHill" "MOST_SETTING" "[I") (.int 0)) (.int 99999)) (by decide +kernel))
    | 1, _ => exact va_eqt (hs (.eq (.elem (.static "OverHill" "MOST_SETTING" "[I") (.int 1)) (.int 99)) (by decide +kernel))
    | 2, _ => exact va_eqt (hs (.eq (.elem (.static "OverHill" "MOST_SETTING" "[I") (.int 2)) (.int 99)) (by decide +kernel))
    | k + 3, hj => exact absurd hj (by omega)
  obtain ⟨q, h1, h2⟩ := va_Tof (tm := .static "OverHill" "MOST_SETTING" "[I") (ty := .int) (N := 3) (f := fun j => .int (oTb 1 j)) (A := A) (by decide) (hs (.arrayOf (.static "OverHill" "MOST_SETTING" "[I") .int) (by decide +kernel)) (va_eqt (hs (.eq (.length (.static "OverHill" "MOST_SETTING" "[I")) (.int 3)) (by decide +kernel))) hel hA
  exact ⟨q, h2, va_Zof hls hini h1 hA⟩
theorem oTab2 {args : Array Value} {s : State} (hgv : (Jvm.Cond.and given_1 narrow_1).before args s = true) (hls : (Cond.laysStatic "OverHill" "KIND_ABOVE" "[I").before args s = true) (hini : (Cond.initialized "OverHill").before args s = true) {A : Nat → Prop} (hA : ∀ a : Nat, a < s.heap.size → ¬ A a) : ∃ q : Nat, va_T .int q 6 (fun j => .int (oTb 2 j)) A s s.heap ∧ va_Z "OverHill" "KIND_ABOVE" "[I" (.ref q) A s s.heap := by
  have hs := flat_of_before _ hgv
  have hel : ∀ j : Nat, j < 6 → (Term.elem (.static "OverHill" "KIND_ABOVE" "[I") (.int (Int32.ofNat j))).eval args s none [] s = some (.int (oTb 2 j)) := by
    intro j hj
    match j, hj with
    | 0, _ => exact va_eqt (hs (.eq (.elem (.static "OverHill" "KIND_ABOVE" "[I") (.int 0)) (.int (-1))) (by decide +kernel))
    | 1, _ => exact va_eqt (hs (.eq (.elem (.static "OverHill" "KIND_ABOVE" "[I") (.int 1)) (.int 0)) (by decide +kernel))
    | 2, _ => exact va_eqt (hs (.eq (.elem (.static "OverHill" "KIND_ABOVE" "[I") (.int 2)) (.int 0)) (by decide +kernel))
    | 3, _ => exact va_eqt (hs (.eq (.elem (.static "OverHill" "KIND_ABOVE" "[I") (.int 3)) (.int 1)) (by decide +kernel))
    | 4, _ => exact va_eqt (hs (.eq (.elem (.static "OverHill" "KIND_ABOVE" "[I") (.int 4)) (.int 2)) (by decide +kernel))
    | 5, _ => exact va_eqt (hs (.eq (.elem (.static "OverHill" "KIND_ABOVE" "[I") (.int 5)) (.int 0)) (by decide +kernel))
    | k + 6, hj => exact absurd hj (by omega)
  obtain ⟨q, h1, h2⟩ := va_Tof (tm := .static "OverHill" "KIND_ABOVE" "[I") (ty := .int) (N := 6) (f := fun j => .int (oTb 2 j)) (A := A) (by decide) (hs (.arrayOf (.static "OverHill" "KIND_ABOVE" "[I") .int) (by decide +kernel)) (va_eqt (hs (.eq (.length (.static "OverHill" "KIND_ABOVE" "[I")) (.int 6)) (by decide +kernel))) hel hA
  exact ⟨q, h2, va_Zof hls hini h1 hA⟩
theorem oTab3 {args : Array Value} {s : State} (hgv : (Jvm.Cond.and given_1 narrow_1).before args s = true) (hls : (Cond.laysStatic "OverHill$Acts" "BODIES" "[I").before args s = true) (hini : (Cond.initialized "OverHill$Acts").before args s = true) {A : Nat → Prop} (hA : ∀ a : Nat, a < s.heap.size → ¬ A a) : ∃ q : Nat, va_T .int q 24 (fun j => .int (oTb 3 j)) A s s.heap ∧ va_Z "OverHill$Acts" "BODIES" "[I" (.ref q) A s s.heap := by
  have hs := flat_of_before _ hgv
  have hel : ∀ j : Nat, j < 24 → (Term.elem (.static "OverHill$Acts" "BODIES" "[I") (.int (Int32.ofNat j))).eval args s none [] s = some (.int (oTb 3 j)) := by
    intro j hj
    match j, hj with
    | 0, _ => exact va_eqt (hs (.eq (.elem (.static "OverHill$Acts" "BODIES" "[I") (.int 0)) (.int 1)) (by decide +kernel))
    | 1, _ => exact va_eqt (hs (.eq (.elem (.static "OverHill$Acts" "BODIES" "[I") (.int 1)) (.int 10)) (by decide +kernel))
    | 2, _ => exact va_eqt (hs (.eq (.elem (.static "OverHill$Acts" "BODIES" "[I") (.int 2)) (.int 11)) (by decide +kernel))
    | 3, _ => exact va_eqt (hs (.eq (.elem (.static "OverHill$Acts" "BODIES" "[I") (.int 3)) (.int 2)) (by decide +kernel))
    | 4, _ => exact va_eqt (hs (.eq (.elem (.static "OverHill$Acts" "BODIES" "[I") (.int 4)) (.int 0)) (by decide +kernel))
    | 5, _ => exact va_eqt (hs (.eq (.elem (.static "OverHill$Acts" "BODIES" "[I") (.int 5)) (.int 0)) (by decide +kernel))
    | 6, _ => exact va_eqt (hs (.eq (.elem (.static "OverHill$Acts" "BODIES" "[I") (.int 6)) (.int 20)) (by decide +kernel))
    | 7, _ => exact va_eqt (hs (.eq (.elem (.static "OverHill$Acts" "BODIES" "[I") (.int 7)) (.int 0)) (by decide +kernel))
    | 8, _ => exact va_eqt (hs (.eq (.elem (.static "OverHill$Acts" "BODIES" "[I") (.int 8)) (.int 0)) (by decide +kernel))
    | 9, _ => exact va_eqt (hs (.eq (.elem (.static "OverHill$Acts" "BODIES" "[I") (.int 9)) (.int 30)) (by decide +kernel))
    | 10, _ => exact va_eqt (hs (.eq (.elem (.static "OverHill$Acts" "BODIES" "[I") (.int 10)) (.int 0)) (by decide +kernel))
    | 11, _ => exact va_eqt (hs (.eq (.elem (.static "OverHill$Acts" "BODIES" "[I") (.int 11)) (.int 0)) (by decide +kernel))
    | 12, _ => exact va_eqt (hs (.eq (.elem (.static "OverHill$Acts" "BODIES" "[I") (.int 12)) (.int 40)) (by decide +kernel))
    | 13, _ => exact va_eqt (hs (.eq (.elem (.static "OverHill$Acts" "BODIES" "[I") (.int 13)) (.int 0)) (by decide +kernel))
    | 14, _ => exact va_eqt (hs (.eq (.elem (.static "OverHill$Acts" "BODIES" "[I") (.int 14)) (.int 41)) (by decide +kernel))
    | 15, _ => exact va_eqt (hs (.eq (.elem (.static "OverHill$Acts" "BODIES" "[I") (.int 15)) (.int 0)) (by decide +kernel))
    | 16, _ => exact va_eqt (hs (.eq (.elem (.static "OverHill$Acts" "BODIES" "[I") (.int 16)) (.int 0)) (by decide +kernel))
    | 17, _ => exact va_eqt (hs (.eq (.elem (.static "OverHill$Acts" "BODIES" "[I") (.int 17)) (.int 51)) (by decide +kernel))
    | 18, _ => exact va_eqt (hs (.eq (.elem (.static "OverHill$Acts" "BODIES" "[I") (.int 18)) (.int 0)) (by decide +kernel))
    | 19, _ => exact va_eqt (hs (.eq (.elem (.static "OverHill$Acts" "BODIES" "[I") (.int 19)) (.int 50)) (by decide +kernel))
    | 20, _ => exact va_eqt (hs (.eq (.elem (.static "OverHill$Acts" "BODIES" "[I") (.int 20)) (.int 0)) (by decide +kernel))
    | 21, _ => exact va_eqt (hs (.eq (.elem (.static "OverHill$Acts" "BODIES" "[I") (.int 21)) (.int 0)) (by decide +kernel))
    | 22, _ => exact va_eqt (hs (.eq (.elem (.static "OverHill$Acts" "BODIES" "[I") (.int 22)) (.int 60)) (by decide +kernel))
    | 23, _ => exact va_eqt (hs (.eq (.elem (.static "OverHill$Acts" "BODIES" "[I") (.int 23)) (.int 0)) (by decide +kernel))
    | k + 24, hj => exact absurd hj (by omega)
  obtain ⟨q, h1, h2⟩ := va_Tof (tm := .static "OverHill$Acts" "BODIES" "[I") (ty := .int) (N := 24) (f := fun j => .int (oTb 3 j)) (A := A) (by decide) (hs (.arrayOf (.static "OverHill$Acts" "BODIES" "[I") .int) (by decide +kernel)) (va_eqt (hs (.eq (.length (.static "OverHill$Acts" "BODIES" "[I")) (.int 24)) (by decide +kernel))) hel hA
  exact ⟨q, h2, va_Zof hls hini h1 hA⟩
theorem o_start {p : Program} {s : State} {m : MethodId} {meth : Method} {c : Code} {b L : Nat} {xs : Nat → Int32} (C0 : lw_At p s m meth c b L xs) : ∃ Θ : oT, Θ.2.2.1 = s.heap.size ∧ Θ.2.2.2 0 = b ∧ oSt Θ s ∧ oSp Θ (L, xs) s s.heap := by
  obtain ⟨hx, hb, hr, hml, hown, hts0, hX, hbl, hlocks, hgv⟩ := C0
  have hts : ∀ w ∈ oGood, w.before #[Value.ref b] s = true := fun w hw => hts0 w (List.mem_filter.mp hw).1
  obtain ⟨dC, dI, hKc⟩ := oKn_all hts
  have hoL : (Cond.arrayOver (.object "OverHill$Laying")).before #[Value.ref b] s = true := hts0 _ (List.mem_of_getElem? (i := 206) (by decide +kernel))
  have hoS : (Cond.arrayOver (.object "OverHill$Shelf")).before #[Value.ref b] s = true := hts0 _ (List.mem_of_getElem? (i := 378) (by decide +kernel))
  obtain ⟨a0, p0, q0⟩ := oArI (hts _ oarI) (fun C h => by cases h)
  obtain ⟨a1, p1, q1⟩ := oArI (hts _ oarB) (fun C h => by cases h)
  obtain ⟨a2, p2, q2⟩ := oArI (hts _ oarZ) (fun C h => by cases h)
  obtain ⟨a3, p3, q3⟩ := oArI (hts _ oarL) (fun C h => by cases h)
  obtain ⟨a4, p4, q4⟩ := oArO hoL
  obtain ⟨a5, p5, q5⟩ := oArO hoS
  have hA : ∀ a : Nat, a < s.heap.size → ¬ (fun q : Nat => s.heap.size ≤ q) a := fun a h => Nat.not_le.mpr h
  obtain ⟨t1, f1, z1⟩ := oTab1 (A := fun q : Nat => s.heap.size ≤ q) hgv (hts0 _ (List.mem_of_getElem? (i := 501) (by decide +kernel))) (hts _ oini11) hA
  obtain ⟨t2, f2, z2⟩ := oTab2 (A := fun q : Nat => s.heap.size ≤ q) hgv (hts0 _ (List.mem_of_getElem? (i := 988) (by decide +kernel))) (hts _ oini11) hA
  obtain ⟨t3, f3, z3⟩ := oTab3 (A := fun q : Nat => s.heap.size ≤ q) hgv (hts0 _ (List.mem_of_getElem? (i := 986) (by decide +kernel))) (hts _ oini0) hA
  refine ⟨((dC, dI), fun k => [a0, a1, a2, a3, a4, a5].getD k a0, s.heap.size, fun k => [b, t1, t2, t3].getD k b), rfl, rfl, ⟨⟨hKc, ?_⟩, va_AO.of hoL, va_AO.of hoS, ?_⟩, ⟨hX, hbl⟩, ?_⟩
  · intro k q hq
    match k, hq with
    | 0, hq => cases hq; exact ⟨p0, q0⟩
    | 1, hq => cases hq; exact ⟨p1, q1⟩
    | 2, hq => cases hq; exact ⟨p2, q2⟩
    | 3, hq => cases hq; exact ⟨p3, q3⟩
    | 4, hq => cases hq; exact ⟨p4, q4⟩
    | 5, hq => cases hq; exact ⟨p5, q5⟩
    | k + 6, hq => simp [oTys] at hq
  · exact ⟨va_Nw.of rfl (hts0 _ (List.mem_of_getElem? (i := 186) (by decide +kernel))), va_Nw.of rfl (hts0 _ (List.mem_of_getElem? (i := 300) (by decide +kernel))), va_Nw.of rfl (hts0 _ (List.mem_of_getElem? (i := 325) (by decide +kernel))), va_Nw.of rfl (hts0 _ (List.mem_of_getElem? (i := 356) (by decide +kernel))), va_Nw.of rfl (hts0 _ (List.mem_of_getElem? (i := 380) (by decide +kernel))), va_Nw.of rfl (hts0 _ (List.mem_of_getElem? (i := 987) (by decide +kernel)))⟩
  · intro t h1 h2
    match t, h1, h2 with
    | 1, _, _ => exact ⟨f1, z1⟩
    | 2, _, _ => exact ⟨f2, z2⟩
    | 3, _, _ => exact ⟨f3, z3⟩
    | k + 4, _, h2 => exact absurd h2 (by omega)
set_option maxRecDepth 20000 in
/-- from the law's entry to its loop -/
theorem law_head {X : oX} {K' : oK} {M' : oM} (h3 : 101 ≤ K'.1 ∧ ck206.2.1 ≤ K'.2.1) (h : oEv X 40 J_L 18 (oHd (nI 0)) [] ck206 cm119 (some (.int 1)) K' M') : oEv X 40 J_L 0 [some (.ref 1000000), none, none, none] [] ck0 cm0 (some (.int 1)) K' M' := by
  have e0 : 1 ≤ K'.1 ∧ 12 ≤ K'.2.1 := ⟨by omega, Nat.le_trans (Nat.le_of_ble_eq_true rfl) h3.2⟩
  refine oe_new (pc := 0) (ci := 11) d_L_0 cl_L_7 ock11 oins11 oini11 (by decide) e0.1 e0.2 (Nat.le_of_ble_eq_true rfl) ?_
  refine oEv.re (K2 := ck1) (M2 := cm1) (S2 := [.ref 0]) rfl rfl rfl ?_
  refine oe_dup (pc := 3) d_L_3 rfl ?_
  have e1 : ck123.1 ≤ K'.1 ∧ ck123.2.1 ≤ K'.2.1 := ⟨Nat.le_trans (Nat.le_of_ble_eq_true rfl) h3.1, Nat.le_trans (Nat.le_of_ble_eq_true rfl) h3.2⟩
  refine oe_callI (pc := 4) d_L_4 ct_16 (by decide) ml_L_9 jJ_X11_init rfl rfl (Nat.le_of_ble_eq_true rfl) ⟨Nat.le_of_ble_eq_true rfl, e1.1⟩ ⟨Nat.le_of_ble_eq_true rfl, e1.2⟩ ?_
  refine oe_astore_n (pc := 7) (L2 := [some (.ref 1000000), some (.ref 0), none, none]) d_L_7 rfl rfl (Nat.le_of_ble_eq_true rfl) rfl ?_
  have e2 : ck124.1 ≤ K'.1 ∧ ck124.2.1 ≤ K'.2.1 := ⟨Nat.le_trans (Nat.le_of_ble_eq_true rfl) h3.1, Nat.le_trans (Nat.le_of_ble_eq_true rfl) h3.2⟩
  refine oe_new (pc := 8) (ci := 12) d_L_8 cl_L_10 ock12 oins12 oini12 (by decide) e2.1 e2.2 (Nat.le_of_ble_eq_true rfl) ?_
  refine oEv.re (K2 := ck124) (M2 := cm66) (S2 := [.ref 59]) rfl rfl rfl ?_
  refine oe_dup (pc := 11) d_L_11 rfl ?_
  refine oe_callI (pc := 12) d_L_12 ct_17 (by decide) ml_L_12 jJ_X12_init rfl rfl (Nat.le_of_ble_eq_true rfl) ⟨Nat.le_of_ble_eq_true rfl, h3.1⟩ ⟨Nat.le_of_ble_eq_true rfl, h3.2⟩ ?_
  refine oe_astore_n (pc := 15) (L2 := [some (.ref 1000000), some (.ref 0), some (.ref 59), none]) d_L_15 rfl rfl (Nat.le_of_ble_eq_true rfl) rfl ?_
  refine oe_iconst (pc := 16) (v := 0) d_L_16 rfl ?_
  exact oe_istore_n (pc := 17) (L2 := [some (.ref 1000000), some (.ref 0), some (.ref 59), some (.int 0)]) d_L_17 rfl rfl (Nat.le_of_ble_eq_true rfl) rfl h
