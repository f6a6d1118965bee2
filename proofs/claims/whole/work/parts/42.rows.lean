/-! rows of the judgement for what makes objects and arrays -/
section JX2
variable {k : jK} {cc : ByteArray} {nL : Nat} {Ts : List Cond} {own : String} {G : jG} {A : Nat → Prop} {l : Launch} {rm : Room} {n1 n2 : Nat} {ws : va_W} {pc : Nat} {lv : List (Nat × Value)} {st : List Value}
theorem jx_objInit (hk : jok k cc nL Ts own G A l rm) {ix a : Nat} (h1 : Cond.methodLink own ix objectInit ∈ Ts) (h2 : Cond.instanceMethod objectInit ∈ Ts) (h3 : Cond.code objectInit ⟨#[0xb1]⟩ 1 none ∈ Ts) (hd : decode cc pc = .ok (.invokespecial ix, 3)) (hf : 1 ≤ rm.frames) (hl0 : (st.map fun v => v.category).sum + 12 ≤ rm.locals) (kk : jx k G A nL n1 n2 ws (pc + 3) lv st) : jx k G A nL n1 n2 ws pc lv (.ref a :: st) := by
  obtain ⟨p, l0, e, R, s, m, args, below, meth, c, Q⟩ := k
  obtain ⟨hx, hb, hml, hown, hts, hK, hA, hev, rfl, rfl⟩ := hk
  intro H locs ls hP hD hS hl
  refine W.objInit hx hb hown (hts _ h1) (hts _ h2) (hts _ h3) (g := F0 m pc ls (.ref a :: st)) rfl (by rw [hml]; exact hl.1) rfl hd hf (by show 2 * 0 + _ + 12 ≤ _; omega) ?_
  exact kk H locs ls hP hD hS hl
theorem jx_newi (hk : jok k cc nL Ts own G A l rm) {n : Int32} {N : Nat} (harr : Cond.arrayClass .int ∈ Ts) (hd : decode cc pc = .ok (.newarray .int, 2)) (hn : (decide (¬ n < 0) && decide (n.toNatClampNeg = N) && decide (N * 4 ≤ 536870912)) = true) (hroom : n1 + 1 ≤ rm.cells ∧ n2 + N ≤ rm.slots) (kk : ∀ q : Nat, jx k G A nL (n1 + 1) (n2 + N) (ws ++ [jai G q N (fun _ => 0)]) (pc + 2) lv (.ref q :: st)) : jx k G A nL n1 n2 ws pc lv (.int n :: st) := by
  obtain ⟨p, l0, e, R, s, m, args, below, meth, c, Q⟩ := k
  obtain ⟨hx, hb, hml, hown, hts, hK, hA, hev, rfl, rfl⟩ := hk
  intro H locs ls hP hD hS hl
  rw [Bool.and_eq_true, Bool.and_eq_true, decide_eq_true_eq, decide_eq_true_eq, decide_eq_true_eq] at hn
  refine va_newa (atype := .int) (ty := .int) hx hb (hts _ harr) rfl hK hP hD hS hA (a0 := (N, .inl (fun _ => 0))) (fun _ => rfl) hn.1.1 hn.1.2 hn.2 hroom.1 hroom.2 hd (fun q cA H1 hK1 hP1 hD1 hS1 => ?_)
  have e : cA = G.2.1.1 := Option.some.inj ((hK1.2 4 (cA, .int) rfl).2.symm.trans (hK.2 0 (G.2.1.1, .int) rfl).2)
  subst e
  exact kk q H1 locs ls hP1 hD1 hS1 hl
theorem jx_newj (hk : jok k cc nL Ts own G A l rm) {n : Int32} {N : Nat} (harr : Cond.arrayClass .long ∈ Ts) (hd : decode cc pc = .ok (.newarray .long, 2)) (hn : (decide (¬ n < 0) && decide (n.toNatClampNeg = N) && decide (N * 8 ≤ 536870912)) = true) (hroom : n1 + 1 ≤ rm.cells ∧ n2 + N ≤ rm.slots) (kk : ∀ q : Nat, jx k G A nL (n1 + 1) (n2 + N) (ws ++ [jaj G q N (fun _ => 0)]) (pc + 2) lv (.ref q :: st)) : jx k G A nL n1 n2 ws pc lv (.int n :: st) := by
  obtain ⟨p, l0, e, R, s, m, args, below, meth, c, Q⟩ := k
  obtain ⟨hx, hb, hml, hown, hts, hK, hA, hev, rfl, rfl⟩ := hk
  intro H locs ls hP hD hS hl
  rw [Bool.and_eq_true, Bool.and_eq_true, decide_eq_true_eq, decide_eq_true_eq, decide_eq_true_eq] at hn
  refine va_newa (atype := .long) (ty := .long) hx hb (hts _ harr) rfl hK hP hD hS hA (a0 := (N, .inr (.inl (fun _ => 0)))) (fun _ => rfl) hn.1.1 hn.1.2 hn.2 hroom.1 hroom.2 hd (fun q cA H1 hK1 hP1 hD1 hS1 => ?_)
  have e : cA = G.2.1.2.1 := Option.some.inj ((hK1.2 4 (cA, .long) rfl).2.symm.trans (hK.2 1 (G.2.1.2.1, .long) rfl).2)
  subst e
  exact kk q H1 locs ls hP1 hD1 hS1 hl
theorem jx_newz (hk : jok k cc nL Ts own G A l rm) {n : Int32} {N : Nat} (harr : Cond.arrayClass .boolean ∈ Ts) (hd : decode cc pc = .ok (.newarray .boolean, 2)) (hn : (decide (¬ n < 0) && decide (n.toNatClampNeg = N) && decide (N * 1 ≤ 536870912)) = true) (hroom : n1 + 1 ≤ rm.cells ∧ n2 + N ≤ rm.slots) (kk : ∀ q : Nat, jx k G A nL (n1 + 1) (n2 + N) (ws ++ [jaz G q N (fun _ => 0)]) (pc + 2) lv (.ref q :: st)) : jx k G A nL n1 n2 ws pc lv (.int n :: st) := by
  obtain ⟨p, l0, e, R, s, m, args, below, meth, c, Q⟩ := k
  obtain ⟨hx, hb, hml, hown, hts, hK, hA, hev, rfl, rfl⟩ := hk
  intro H locs ls hP hD hS hl
  rw [Bool.and_eq_true, Bool.and_eq_true, decide_eq_true_eq, decide_eq_true_eq, decide_eq_true_eq] at hn
  refine va_newa (atype := .boolean) (ty := .boolean) hx hb (hts _ harr) rfl hK hP hD hS hA (a0 := (N, .inl (fun _ => 0))) (fun _ => rfl) hn.1.1 hn.1.2 hn.2 hroom.1 hroom.2 hd (fun q cA H1 hK1 hP1 hD1 hS1 => ?_)
  have e : cA = G.2.1.2.2.1 := Option.some.inj ((hK1.2 4 (cA, .boolean) rfl).2.symm.trans (hK.2 2 (G.2.1.2.2.1, .boolean) rfl).2)
  subst e
  exact kk q H1 locs ls hP1 hD1 hS1 hl
theorem jx_newq (hk : jok k cc nL Ts own G A l rm) {n : Int32} {N ix : Nat} (hcl : Cond.classLink own ix RX2 ∈ Ts) (hd : decode cc pc = .ok (.anewarray ix, 3)) (hn : (decide (¬ n < 0) && decide (n.toNatClampNeg = N) && decide (N * 4 ≤ 536870912)) = true) (hroom : n1 + 1 ≤ rm.cells ∧ n2 + N ≤ rm.slots) (kk : ∀ q : Nat, jx k G A nL (n1 + 1) (n2 + N) (ws ++ [jaq G q N (fun _ => none)]) (pc + 3) lv (.ref q :: st)) : jx k G A nL n1 n2 ws pc lv (.int n :: st) := by
  obtain ⟨p, l0, e, R, s, m, args, below, meth, c, Q⟩ := k
  obtain ⟨hx, hb, hml, hown, hts, hK, hA, hev, rfl, rfl⟩ := hk
  intro H locs ls hP hD hS hl
  rw [Bool.and_eq_true, Bool.and_eq_true, decide_eq_true_eq, decide_eq_true_eq, decide_eq_true_eq] at hn
  refine va_newq hx hb hown (hts _ hcl) hev.2.1.1 hK hP hD hS hA hn.1.1 hn.1.2 hn.2 hroom.1 hroom.2 hd (fun q cA H1 hK1 hP1 hD1 hS1 => ?_)
  obtain ⟨kA, comp, u1, u2, u3, u4⟩ := (hK1.2 4 (cA, .object RX2) rfl).2
  obtain ⟨kB, comq, v1, v2, v3, v4⟩ := (hK.2 3 (G.2.1.2.2.2, .object RX2) rfl).2
  have e : cA = G.2.1.2.2.2 := Option.some.inj (u4.symm.trans v4)
  subst e
  exact kk q H1 locs ls hP1 hD1 hS1 hl
theorem jx_aastore (hk : jok k cc nL Ts own G A l rm) {a n v : Nat} {vs : List Value} {f : Nat → Option Nat} {i : Int32} {ws' : va_W} (hd : decode cc pc = .ok (.aastore, 1)) (q0 qk : Nat) (ha : ws[q0]? = some (jaq G a n f)) (hv : ws[qk]? = some (job v 2 vs)) (hin : vp_in i n) (hw : ws.set q0 (jaq G a n (va_up f i.toNatClampNeg (some v))) = ws') (kk : jx k G A nL n1 n2 ws' (pc + 1) lv st) : jx k G A nL n1 n2 ws pc lv (.ref v :: .int i :: .ref a :: st) := by
  obtain ⟨p, l0, e, R, s, m, args, below, meth, c, Q⟩ := k
  obtain ⟨hx, hb, hml, hown, hts, hK, hA, hev, rfl, rfl⟩ := hk
  intro H locs ls hP hD hS hl
  subst hw
  exact va_astq hx hb hK hP hD hS q0 3 qk 2 (r := (RX2, TX2, 4)) ha rfl hv rfl hin hd (fun H1 locs1 hP1 hD1 hS1 => kk H1 locs1 ls hP1 hD1 hS1 hl)
theorem jx_new (hk : jok k cc nL Ts own G A l rm) {C : String} {T : u_T} {N ci ix : Nat} {fs : List Value} (hin : ∀ w ∈ u_ws C T N, w ∈ Ts) (ty0 : Nat → FieldType) (hty : ∀ k, k < N → parseFieldDescriptor (T k).2.2.1 = some (ty0 k)) (hcl : Cond.classLink own ix C ∈ Ts) (hinst : Cond.instantiable C N ∈ Ts) (hini : Cond.initialized C ∈ Ts) (hc : vwCl[ci]? = some (C, T, N)) (hfs : ∀ j, j < N → defaultValue (ty0 j) = vp_V fs j) (hroom : n1 + 1 ≤ rm.cells ∧ n2 + N ≤ rm.slots) (hd : decode cc pc = .ok (.new ix, 3)) (kk : ∀ q : Nat, jx k G A nL (n1 + 1) (n2 + N) (ws ++ [job q ci fs]) (pc + 3) lv (.ref q :: st)) : jx k G A nL n1 n2 ws pc lv st := by
  obtain ⟨p, l0, e, R, s, m, args, below, meth, c, Q⟩ := k
  obtain ⟨hx, hb, hml, hown, hts, hK, hA, hev, rfl, rfl⟩ := hk
  intro H locs ls hP hD hS hl
  exact va_new hx hb hts hin ty0 hty hown (hts _ hcl) (hts _ hinst) (hts _ hini) hK hP hD hS hA hc hfs hroom.1 hroom.2 hd (fun q H1 hP1 hD1 hS1 => kk q H1 locs ls hP1 hD1 hS1 hl)
theorem jx_gsF (hk : jok k cc nL Ts own G A l rm) {ix : Nat} {host : String} (hlk : Cond.fieldLinkNest own ix "InkSwaths" "AT_FIRST" "[I" host ∈ jnest) (hd : decode cc pc = .ok (.getstatic ix, 3)) (kk : jx k G A nL n1 n2 ws (pc + 3) lv (.ref G.2.2.1 :: st)) : jx k G A nL n1 n2 ws pc lv st := by
  obtain ⟨p, l0, e, R, s, m, args, below, meth, c, Q⟩ := k
  obtain ⟨hx, hb, hml, hown, hts, hK, hA, hev, rfl, rfl⟩ := hk
  intro H locs ls hP hD hS hl
  exact va_getsN hx hb hev.2.2.1.1 hS hown (va_Nw.use (A := args) rfl (hev.1 _ hlk)) (fun _ h => h) hd (kk H locs ls hP hD hS hl)
theorem jx_castI (hk : jok k cc nL Ts own G A l rm) {a n ix : Nat} {f : Nat → Int32} (hlk : Cond.classLink own ix "[I" ∈ Ts) (q0 : Nat) (ha : ws[q0]? = some (jai G a n f)) (hd : decode cc pc = .ok (.checkcast ix, 3)) (kk : jx k G A nL n1 n2 ws (pc + 3) lv (.ref a :: st)) : jx k G A nL n1 n2 ws pc lv (.ref a :: st) := by
  obtain ⟨p, l0, e, R, s, m, args, below, meth, c, Q⟩ := k
  obtain ⟨hx, hb, hml, hown, hts, hK, hA, hev, rfl, rfl⟩ := hk
  intro H locs ls hP hD hS hl
  exact va_castA hx hb hown (hts _ hlk) hP q0 ha (va_nm_int (hK.2 0 (G.2.1.1, .int) rfl).2) hd (kk H locs ls hP hD hS hl)
theorem jx_cloneF (hk : jok k cc nL Ts own G A l rm) {ix : Nat} (h1 : Cond.methodLink own ix ⟨"[I", "clone", "()Ljava/lang/Object;"⟩ ∈ Ts) (h2 : Cond.sameMethod "[I" "java/lang/Object" "clone" "()Ljava/lang/Object;" ∈ Ts) (h3 : Cond.native ⟨"java/lang/Object", "clone", "()Ljava/lang/Object;"⟩ ∈ Ts) (h4 : Cond.instanceMethod ⟨"java/lang/Object", "clone", "()Ljava/lang/Object;"⟩ ∈ Ts) (h5 : Cond.selects "[I" ⟨"[I", "clone", "()Ljava/lang/Object;"⟩ ⟨"java/lang/Object", "clone", "()Ljava/lang/Object;"⟩ ∈ Ts) (h6 : Cond.castable "[I" "java/lang/Cloneable" ∈ jnest) (hf : 1 ≤ rm.frames) (hl0 : (st.map fun v => v.category).sum + 14 ≤ rm.locals) (hroom : n1 + 1 ≤ rm.cells ∧ n2 + 9 ≤ rm.slots) (hd : decode cc pc = .ok (.invokevirtual ix, 3)) (kk : ∀ q : Nat, jx k G A nL (n1 + 1) (n2 + 9) (ws ++ [jai G q 9 jtF]) (pc + 3) lv (.ref q :: st)) : jx k G A nL n1 n2 ws pc lv (.ref G.2.2.1 :: st) := by
  obtain ⟨p, l0, e, R, s, m, args, below, meth, c, Q⟩ := k
  obtain ⟨hx, hb, hml, hown, hts, hK, hA, hev, rfl, rfl⟩ := hk
  intro H locs ls hP hD hS hl
  obtain ⟨cell, z1, z2, z3, z4, z5, z6⟩ := hev.2.1.2
  have hsz : cell.slots.size = 9 := by rw [z5]; exact arrV_size _ _ _
  have hcellE : ({ cls := cell.cls, slots := cell.slots } : Cell) = vp_cell G.2.1.1 (9, .inl jtF) := by
    rw [z2, z5]; rfl
  have hnm := va_nm_int (hK.2 0 (G.2.1.1, .int) rfl).2
  obtain ⟨c0, t0', f1, f2, f3⟩ := Cond.castable_spec (va_Nw.use (A := args) rfl (hev.1 _ h6))
  cases hnm.symm.trans f1
  have hcH : H[G.2.2.1]? = some cell := by rw [hS.2.1 _ (Array.getElem?_eq_some_iff.mp z1).1 z6]; exact z1
  intro T hT X
  have hcellT : T.heap[G.2.2.1]? = some cell := by rw [hT]; exact hcH
  obtain ⟨-, kA, hkA, comp, hkind⟩ := State.isArrayOf_alike X.warmed.alike ((hK.2 0 (G.2.1.1, .int) rfl).1 0 (fun _ => .null))
  obtain ⟨-, kS, hkS, compS, hkindS⟩ := (hK.2 0 (G.2.1.1, .int) rfl).1 0 (fun _ => .null)
  obtain ⟨vm', X', stp⟩ := X.cloneArray hx hown (hts _ h1) (hts _ h2) (hts _ h3) (hts _ h4) (hts _ h5) (a := G.2.2.1) (cell := cell) hcellT (fun k h => by rw [h] at z4; cases z4) z3 (by rw [z2]; exact hnm) f2 (by rw [z2]; exact f3)
    (fun i v hv => by
      rw [z2]
      have hk' : T.vm.classes[G.2.1.1]? = some kA := hkA
      rw [z5] at hv
      have := va_fit (cA := G.2.1.1) (n := 9) (F := fun j => .int (jtF j)) (ty := .int) (fun _ _ => rfl) i v hv
      simpa [State.fitsSlot, State.slotType?, hk', hkind] using this)
    (g := F0 m pc ls (.ref G.2.2.1 :: st)) rfl (by rw [hml]; exact hl.1) rfl (by rw [hb]; exact hd) hf (by show 2 * 0 + _ + 14 ≤ _; omega) hroom.1 (by rw [hsz]; exact hroom.2) (hloader := by rw [z2]; exact Vm.clonesLoader_of_array hkS hkindS)
  rw [hcellE, hsz] at X'
  generalize hH1 : H.push (vp_cell G.2.1.1 (9, .inl jtF)) = H1
  have w1 : H1.size = H.size + 1 := by rw [← hH1, Array.size_push]
  have e1 : H1[H.size]? = some (vp_cell G.2.1.1 (9, .inl jtF)) := by rw [← hH1, Array.getElem?_push_size]
  have o1 : ∀ q : Nat, q < H.size → H1[q]? = H[q]? := fun q hq => by rw [← hH1, Array.getElem?_push, if_neg (Nat.ne_of_lt hq)]
  have hkp : ∀ (k : Nat) (y : Nat × va_E), ws[k]? = some y → H1[y.1]? = H[y.1]? := fun k y hy => o1 y.1 ((hP k y hy).lt)
  obtain ⟨t, b1, b2⟩ := kk H.size H1 locs ls ((hP.kept hkp).app (fun k y hy => by
      have hz : k < 1 := (List.getElem?_eq_some_iff.mp hy).1
      rw [show k = 0 by omega] at hy
      cases hy
      exact e1)) (hD.push hP rfl (hA _ hS.1)) ⟨Nat.le_trans hS.1 (by omega), fun y g1 g2 => (o1 y (Nat.lt_of_lt_of_le g1 hS.1)).trans (hS.2.1 y g1 g2), hS.2.2⟩ hl
    ((T.setVm vm').pushCell (vp_cell G.2.1.1 (9, .inl jtF))) (by rw [← hH1, ← hT]; rfl) X'
  refine ⟨t, stp t ?_, b2⟩
  rw [hcellE, hT]
  exact b1
end JX2
