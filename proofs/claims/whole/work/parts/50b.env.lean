/-! what the law's start gives -/
set_option maxRecDepth 20000 in
theorem nest_in : ∀ w ∈ jnest, w ∈ tables_1 := pick_in [24, 37, 39, 41, 43, 46, 48, 51, 53, 55, 57, 100, 118, 120, 122, 124, 20, 92, 113, 135, 143, 257, 261, 265, 298, 299, 304, 325, 338, 342, 350, 358, 371, 382, 474, 487, 491, 503, 517, 31] (by decide +kernel)
theorem jisn_on {w : Cond} (h : jisn w = true) : w.onTables = true := by
  cases w <;> first | rfl | (simp [jisn] at h; done)
theorem len_small {t : Term} {v : Value} {args : Array Value} {s : State} {a : Addr} {cell : Cell} (hv : (Term.length t).eval args s none [] s = some v) (ht : t.eval args s none [] s = some (.ref a)) (ha : s.arrayAt? a = some cell) : cell.slots.size < 2 ^ 31 := by
  simp only [Term.eval, ht, ha, Option.bind_eq_bind, Option.bind_some] at hv
  by_cases hlt : cell.slots.size < 2147483648
  · exact hlt
  · simp [hlt] at hv
theorem st_of {args : Array Value} {s : State} {A : Nat → Prop} {nm : String} {N : Nat} {f : Nat → Int32} (hN : N < 2 ^ 31) (hA : ∀ a : Nat, a < s.heap.size → ¬ A a) (hl : (Cond.laysStatic "InkSwaths" nm "[I").before args s = true) (hini : (Cond.initialized "InkSwaths").before args s = true) (harr : (Cond.arrayOf (.static "InkSwaths" nm "[I") .int).before args s = true) (hlen : (Cond.eq (.length (.static "InkSwaths" nm "[I")) (.int (Int32.ofNat N))).before args s = true) (hel : ∀ j : Nat, j < N → (Cond.eq (.elem (.static "InkSwaths" nm "[I") (.int (Int32.ofNat j))) (.int (f j))).before args s = true) (hex : (Cond.exactly (.static "InkSwaths" nm "[I") "[I").before args s = true) :
    ∃ t : Nat, (va_Z "InkSwaths" nm "[I" (.ref t) A s s.heap ∧ va_T .int t N (fun j => .int (f j)) A s s.heap) ∧ ∀ cI : ClassId, s.vm.findClass "[I" = some cI → ∃ cell : Cell, s.heap[t]? = some cell ∧ cell.cls = cI ∧ cell.vm ≠ .unknown ∧ cell.vm.isStatics = false ∧ cell.slots = (arrV cI N (fun j => .int (f j))).slots ∧ ¬ A t := by
  have hv := va_eqt hlen
  obtain ⟨t, ht, hT⟩ := va_Tof (tm := .static "InkSwaths" nm "[I") (ty := .int) (N := N) (f := fun j => .int (f j)) hN harr hv (fun j hj => va_eqt (hel j hj)) hA
  refine ⟨t, ⟨va_Zref hl hini ht hA, hT⟩, fun cI hI => ?_⟩
  obtain ⟨a, c, cell, k, g1, g2, g3, g4, g5, g6, -⟩ := Cond.exactly_spec hex
  cases g1.symm.trans ht
  cases g2.symm.trans hI
  obtain ⟨cell2, k1, k2, k3, k4, k5, k6, k7⟩ := hT
  cases g3.symm.trans k1
  obtain ⟨b, cell3, r1, r2, r3⟩ := Term.length_spec hv
  cases r1.symm.trans ht
  have hsm := len_small hv ht r2
  cases (State.arrayAt?_spec r2).1.symm.trans k1
  have hsz : cell.slots.size = N := (nI_eq hsm hN).mp k5
  refine ⟨cell, k1, g6, k3, g5, ?_, k7⟩
  apply Array.ext_getElem?
  intro j
  by_cases hj : j < N
  · rw [k6 j hj, arrV_read _ _ hj]
  · rw [Array.getElem?_eq_none (by omega), Array.getElem?_eq_none (by rw [arrV_size]; omega)]

set_option maxHeartbeats 4000000 in
set_option maxRecDepth 20000 in
theorem law_jok {p : Program} {l : Launch} {e : Env} {s : State} {m : MethodId} {below : List Frame} {meth : Method} {c : Code} {b L : Nat} {xs : Nat → Int32} (C0 : lw_At p s m meth c b L xs) : ∃ G : jG, jok (p, l, e, room_1, s, m, #[Value.ref b], below, meth, c, lw_Z below #[Value.ref b] s) cL_law 4 wsL_law RL G (fun q => s.heap.size ≤ q) l room_1 := by
  obtain ⟨hx, hb, hr, hml, hown, hts, hX, hbl, hlocks, hgv⟩ := C0
  obtain ⟨c0, i0, hn0⟩ := u_known (C := RX0) (T := TX0) (N := 4) (n := 4) hts inX0 (hts (.instantiable RX0 4) (List.mem_append_right _ (List.mem_of_getElem? (i := 91) (by decide +kernel))))
  obtain ⟨c1, i1, hn1⟩ := u_known (C := RX1) (T := TX1) (N := 14) (n := 14) hts inX1 (hts (.instantiable RX1 14) (List.mem_append_right _ (List.mem_of_getElem? (i := 19) (by decide +kernel))))
  obtain ⟨c2, i2, hn2⟩ := u_known (C := RX2) (T := TX2) (N := 4) (n := 4) hts inX2 (hts (.instantiable RX2 4) (List.mem_append_right _ (List.mem_of_getElem? (i := 112) (by decide +kernel))))
  obtain ⟨c3, i3, hn3⟩ := u_known (C := RX3) (T := TX3) (N := 11) (n := 11) hts inX3 (hts (.instantiable RX3 11) (List.mem_append_right _ (List.mem_of_getElem? (i := 11) (by decide +kernel))))
  obtain ⟨c4, i4, hn4⟩ := u_known (C := RX4) (T := TX4) (N := 34) (n := 34) hts inX4 (hts (.instantiable RX4 34) (List.mem_append_right _ (List.mem_of_getElem? (i := 557) (by decide +kernel))))
  obtain ⟨aI, kI, pI, fI, gI, hI⟩ := Cond.arrayClass_spec (hts (.arrayClass .int) (List.mem_append_right _ (List.mem_of_getElem? (i := 89) (by decide +kernel))))
  obtain ⟨aJ, kJ, pJ, fJ, gJ, hJ⟩ := Cond.arrayClass_spec (hts (.arrayClass .long) (List.mem_append_right _ (List.mem_of_getElem? (i := 134) (by decide +kernel))))
  obtain ⟨aZ, kZ, pZ, fZ, gZ, hZ⟩ := Cond.arrayClass_spec (hts (.arrayClass .boolean) (List.mem_append_right _ (List.mem_of_getElem? (i := 665) (by decide +kernel))))
  have hov := hts (.arrayOver (.object RX2)) (List.mem_append_right _ (List.mem_of_getElem? (i := 111) (by decide +kernel)))
  obtain ⟨pQ, aQ, kQ, fQ, -, gQ, hQ, nQ⟩ := Cond.arrayOver_spec hov
  have hA : ∀ a : Nat, a < s.heap.size → ¬ (fun q : Nat => s.heap.size ≤ q) a := fun a h => Nat.not_le.mpr h
  have hsg := flat_of_before _ hgv
  have hini : (Cond.initialized "InkSwaths").before #[Value.ref b] s = true := hts _ (List.mem_append_right _ (List.mem_of_getElem? (i := 1) (by decide +kernel)))
  obtain ⟨tF, sF, xF⟩ := st_of (nm := "AT_FIRST") (N := 9) (f := jtF) (A := fun q : Nat => s.heap.size ≤ q) (by decide) hA (hts (.laysStatic "InkSwaths" "AT_FIRST" "[I") (List.mem_append_right _ (List.mem_of_getElem? (i := 25) (by decide +kernel)))) hini (hsg _ (by decide +kernel)) (hsg _ (by decide +kernel)) (fun j hj => by
    rcases (show j = 0 ∨ j = 1 ∨ j = 2 ∨ j = 3 ∨ j = 4 ∨ j = 5 ∨ j = 6 ∨ j = 7 ∨ j = 8 by omega) with h | h | h | h | h | h | h | h | h <;> subst h <;> exact hsg _ (by decide +kernel)) (hsg _ (by decide +kernel))
  obtain ⟨tL, sL, xL⟩ := st_of (nm := "LOWEST") (N := 9) (f := jtL) (A := fun q : Nat => s.heap.size ≤ q) (by decide) hA (hts (.laysStatic "InkSwaths" "LOWEST" "[I") (List.mem_append_right _ (List.mem_of_getElem? (i := 249) (by decide +kernel)))) hini (hsg _ (by decide +kernel)) (hsg _ (by decide +kernel)) (fun j hj => by
    rcases (show j = 0 ∨ j = 1 ∨ j = 2 ∨ j = 3 ∨ j = 4 ∨ j = 5 ∨ j = 6 ∨ j = 7 ∨ j = 8 by omega) with h | h | h | h | h | h | h | h | h <;> subst h <;> exact hsg _ (by decide +kernel)) (hsg _ (by decide +kernel))
  obtain ⟨tH, sH, xH⟩ := st_of (nm := "HIGHEST") (N := 9) (f := jtH) (A := fun q : Nat => s.heap.size ≤ q) (by decide) hA (hts (.laysStatic "InkSwaths" "HIGHEST" "[I") (List.mem_append_right _ (List.mem_of_getElem? (i := 251) (by decide +kernel)))) hini (hsg _ (by decide +kernel)) (hsg _ (by decide +kernel)) (fun j hj => by
    rcases (show j = 0 ∨ j = 1 ∨ j = 2 ∨ j = 3 ∨ j = 4 ∨ j = 5 ∨ j = 6 ∨ j = 7 ∨ j = 8 by omega) with h | h | h | h | h | h | h | h | h <;> subst h <;> exact hsg _ (by decide +kernel)) (hsg _ (by decide +kernel))
  obtain ⟨tB, sB, xB⟩ := st_of (nm := "BETTER_BY") (N := 3) (f := jtB) (A := fun q : Nat => s.heap.size ≤ q) (by decide) hA (hts (.laysStatic "InkSwaths" "BETTER_BY" "[I") (List.mem_append_right _ (List.mem_of_getElem? (i := 380) (by decide +kernel)))) hini (hsg _ (by decide +kernel)) (hsg _ (by decide +kernel)) (fun j hj => by
    rcases (show j = 0 ∨ j = 1 ∨ j = 2 by omega) with h | h | h <;> subst h <;> exact hsg _ (by decide +kernel)) (hsg _ (by decide +kernel))
  refine ⟨((fun k => match k with | 0 => c0 | 1 => c1 | 2 => c2 | 3 => c3 | _ => c4, fun k => match k with | 0 => i0 | 1 => i1 | 2 => i2 | 3 => i3 | _ => i4), (aI, aJ, aZ, aQ), (tF, tL, tH, tB)), hx, hb, hml, hown, fun w hw => hts w (wsL_law_in w hw), ⟨fun k q hq => ?_, fun k q hq => ?_⟩, fun q h => h, ⟨fun w hw => va_Nw.of (jisn_on (List.all_eq_true.mp jnest_all w hw)) (hts w (List.mem_append_right _ (nest_in w hw))), ⟨va_AO.of hov, xF aI fI⟩, sF, sL, sH, sB⟩, rfl, rfl⟩
  · match k, hq with
    | 0, hq => cases hq; exact hn0
    | 1, hq => cases hq; exact hn1
    | 2, hq => cases hq; exact hn2
    | 3, hq => cases hq; exact hn3
    | 4, hq => cases hq; exact hn4
    | k + 5, hq => simp [vwCl] at hq
  · match k, hq with
    | 0, hq => cases hq; exact ⟨fun n z => ⟨fun k h => (by cases h), kI, gI, pI, hI⟩, fI⟩
    | 1, hq => cases hq; exact ⟨fun n z => ⟨fun k h => (by cases h), kJ, gJ, pJ, hJ⟩, fJ⟩
    | 2, hq => cases hq; exact ⟨fun n z => ⟨fun k h => (by cases h), kZ, gZ, pZ, hZ⟩, fZ⟩
    | 3, hq => cases hq; exact ⟨fun n z => ⟨fun k h => (by cases h), kQ, gQ, pQ, hQ⟩, kQ, pQ, gQ, hQ, fQ, nQ⟩
    | k + 4, hq => simp [jty] at hq
