/-! the class prints a dot, a line, all lines -/
theorem oI_some {b : Option Nat} {i : Nat} (h : b = some i) : oI b = nI i := by rw [h]; rfl
theorem ph_up {ph : Nat → Int32} {st : Nat → PSt} (h : ∀ y, y < 16 → ∀ x, x < 8 → ph (8 * y + x) = oI ((st y).2.1 x)) {y x i : Nat} (hy : y < 16) (hx : x < 8) {t : PSt} (ht : t.2.1 = va_up (st y).2.1 x (some i)) : ∀ z, z < 16 → ∀ u, u < 8 → upd ph (8 * y + x) (nI i) (8 * z + u) = oI ((va_up st y t z).2.1 u) := by
  intro z hz u hu
  by_cases ez : z = y
  · subst ez
    rw [va_up_self, ht]
    by_cases eu : u = x
    · subst eu; rw [pk_us, va_up_self]; rfl
    · rw [pk_un (by omega), va_up_ne _ _ eu]; exact h z hz u hu
  · rw [pk_un (by omega), va_up_ne _ _ ez]; exact h z hz u hu
theorem row_up {st : Nat → PSt} {P : Nat → PSt → Int32 → Prop} {f : Nat → Int32} (h : ∀ y, y < 16 → P y (st y) (f y)) {y : Nat} {t : PSt} {v : Int32} (hv : P y t v) : ∀ z, z < 16 → P z (va_up st y t z) (upd f y v z) := by
  intro z hz
  by_cases ez : z = y
  · subst ez; rw [va_up_self, pk_us]; exact hv
  · rw [va_up_ne _ _ ez, pk_un ez]; exact h z hz
theorem row_keep {st : Nat → PSt} {P : Nat → PSt → Int32 → Prop} {f : Nat → Int32} (h : ∀ y, y < 16 → P y (st y) (f y)) {y : Nat} {t : PSt} (hv : ∀ v, P y (st y) v → P y t v) : ∀ z, z < 16 → P z (va_up st y t z) (f z) := by
  intro z hz
  by_cases ez : z = y
  · subst ez; rw [va_up_self]; exact hv _ (h z hz)
  · rw [va_up_ne _ _ ez]; exact h z hz
theorem stp_some {s : Nat → Nat} {al : Nat → Nat → Bool} {y x i : Nat} {t : PSt} (h : fst1 s al y x t.1 = some i) : stp s al y t x = (va_up t.1 i (t.1 i + 1), va_up t.2.1 x (some i), t.2.2.1, t.2.2.2.1, if i = wn s y x then t.2.2.2.2.1 else t.2.2.2.2.1 + 1, if i = wn s y x then t.2.2.2.2.2 + 1 else t.2.2.2.2.2) := by
  unfold stp; rw [h]
theorem stp_none {s : Nat → Nat} {al : Nat → Nat → Bool} {y x : Nat} {t : PSt} (h : fst1 s al y x t.1 = none) : stp s al y t x = (t.1, t.2.1, t.2.2.1 ||| 2 ^ x, t.2.2.2.1 + 1, t.2.2.2.2.1, t.2.2.2.2.2) := by
  unfold stp; rw [h]
theorem s_printDot {s : Nat → Nat} {al : Nat → Nat → Bool} {head pic hc hp cc : Nat → Int32} (hh : Hd s head) (hH : ClsH s hc hp) {st : Nat → PSt} {d y x : Nat} (hy : y < 16) (hx : x < 8) (hC : CcOk s al y (hs s y).length cc) {str : Int32} {ph md fp lp dp : Nat → Int32} (hP : ClsP s st str ph md fp lp dp) (hB : Bnd s st) (hpic : pic y = nI d) (hd : d < 256) (hbit : d.testBit x = true) {post : (Int32 × (Nat → Int32) × (Nat → Int32) × (Nat → Int32) × (Nat → Int32) × (Nat → Int32)) → Prop}
    (h : ∀ str' ph' md' fp' lp' dp', ClsP s (va_up st y (stp s al y (st y) x)) str' ph' md' fp' lp' dp' → post (str', ph', md', fp', lp', dp')) : wp_X1_printDot (nI y) (nI x) str pic head hc hp ph md fp lp dp cc post := by
  have H := hh.1
  obtain ⟨a0, a1, a2, a3, a4, a5, a6, a7, a8⟩ := id H
  have hl12 := hs_len12 H y
  obtain ⟨p1, p2, p3, p4, p5, p6⟩ := hP
  unfold wp_X1_printDot
  refine s_wantedHit hh hH hy hx hpic hd ?_
  refine s_firstHit (al := al) hh hH hy hx hC p6 hB (fun h0 => ?_) ?_
  · unfold wnt; rw [if_pos ⟨by omega, hbit⟩]; rfl
  cases hf : fst1 s al y x (st y).1 with
  | none =>
    refine ⟨fun c => absurd rfl c, fun _ => ?_⟩
    simp (disch := omega) only [q_in, true_and, forall_eq, nI_clamp, p3 y hy, fa_lit]
    rw [q_shl (by omega) (by
      have : 2 ^ x ≤ 2 ^ 7 := Nat.pow_le_pow_right (by decide) (by omega)
      omega), Nat.one_mul, fa_or]
    refine h _ _ _ _ _ _ ?_
    rw [stp_none hf]
    refine ⟨?_, fun z hz u hu => ?_, row_up (P := fun _ t v => v = nI t.2.2.1) p3 rfl, row_keep (P := fun z t v => ∃ b, FirstOf (hs s z) t.1 b ∧ v = oI b) p4 (fun _ h => h), row_keep (P := fun z t v => ∃ b, LastOf (hs s z) t.1 b ∧ v = oI b) p5 (fun _ h => h), dp_keep p6 rfl⟩
    · rw [sm16_eq _ st hy]
      · exact p1
      · rfl
    · by_cases ez : z = y
      · subst ez; rw [va_up_self]; exact p2 z hz u hu
      · rw [va_up_ne _ _ ez]; exact p2 z hz u hu
  | some i =>
    obtain ⟨f1, f2, f3⟩ := fst1_spec hf
    obtain ⟨q, hq⟩ := hs_get (s := s) (y := y) f1
    obtain ⟨b1, b2, b3, b4⟩ := hs_bd H hq
    have hwn : wnt s d y x = some (wn s y x) := by unfold wnt; rw [if_pos ⟨by omega, hbit⟩]
    have hwl := wn_lt (s := s) (x := x) (y := y) (by omega)
    rw [hwn]
    refine ⟨fun _ => ?_, fun c => absurd c (q_m1 i (by omega))⟩
    refine s_pass H hH hy hq ?_
    have hpi := hH.at hy hq
    rw [Nat.mul_comm] at hpi
    have hdi := p6.1 y hy i q hq
    simp (disch := omega) only [forall_eq, fa_lit, pk_mul, nI_add, q_in, nI_clamp, hpi, hdi, true_and, oI, nI_eq]
    have fin129 : ∀ (str' : Int32) (fq : Int32), str' = nI (sm16 (fun t => t.2.2.2.2.1) (va_up st y (stp s al y (st y) x))) → (∃ b, FirstOf (hs s y) (va_up (st y).1 i ((st y).1 i + 1)) b ∧ fq = oI b) → wq_X1_printDot_129 pic head hc hp cc (nI y) (nI x) post (nI q.1) (nI y) fq str' (upd ph (y * 8 + x) (nI i)) md fp lp (upd dp (8 * q.1 + q.2) (nI ((st y).1 i + 1))) := by
      intro str' fq hstr hfq
      unfold wq_X1_printDot_129
      obtain ⟨b, hb1, hb2⟩ := p5 y hy
      simp (disch := omega) only [forall_eq, q_in, nI_clamp, true_and]
      refine h _ _ _ _ _ _ ?_
      rw [hstr]
      have hst := stp_some hf
      refine ⟨rfl, ?_, row_keep (P := fun _ t v => v = nI t.2.2.1) p3 (fun v hv => by rw [hst]; exact hv), row_up (P := fun z t v => ∃ b, FirstOf (hs s z) t.1 b ∧ v = oI b) p4 (by rw [hst]; exact hfq), row_up (P := fun z t v => ∃ b, LastOf (hs s z) t.1 b ∧ v = oI b) p5 ?_, dp_add H p6 hy hq (by rw [hst])⟩
      · have := ph_up p2 hy hx (t := stp s al y (st y) x) (i := i) (by rw [hst])
        rw [Nat.mul_comm 8 y] at this
        exact this
      · rw [hst, hb2]
        refine ⟨_, last_add hb1 hq ((st y).1 i + 1) (by omega), ?_⟩
        cases b with
        | none =>
          show (if oI none < nI q.1 then nI q.1 else oI none) = nI q.1
          rw [if_pos]
          show (-nI 1 : Int32) < nI q.1
          rw [fa_lt, nI_toInt (by omega), show (-nI 1 : Int32).toInt = -1 by decide]
          omega
        | some p =>
          have hpb : p < 12 := by obtain ⟨i', q', h1', h2', -⟩ := hb1.1; have := hs_bd H h1'; omega
          show (if nI p < nI q.1 then nI q.1 else nI p) = oI (some (if p < q.1 then q.1 else p))
          by_cases c : p < q.1
          · rw [if_pos (nI_lt c (by omega)), if_pos c]; rfl
          · rw [if_neg (fun k => c ((nI_ltI (by omega) (by omega)).mp k)), if_neg c]; rfl
    have fin94 : ∀ (dlt : Nat), sm16 (fun t => t.2.2.2.2.1) (va_up st y (stp s al y (st y) x)) = sm16 (fun t => t.2.2.2.2.1) st + dlt → wq_X1_printDot_94 pic head hc hp cc (nI y) (nI x) post (nI q.1) str (nI dlt) str (upd ph (y * 8 + x) (nI i)) md fp lp (upd dp (8 * q.1 + q.2) (nI ((st y).1 i + 1))) := by
      intro dlt hdlt
      unfold wq_X1_printDot_94
      obtain ⟨b, hb1, hb2⟩ := p4 y hy
      have hfa := first_add hb1 hq ((st y).1 i + 1) (by omega)
      simp (disch := omega) only [forall_eq, q_in, nI_clamp, true_and, p1, nI_add, fa_lit, hb2]
      have hs' : nI (sm16 (fun t => t.2.2.2.2.1) st + dlt) = nI (sm16 (fun t => t.2.2.2.2.1) (va_up st y (stp s al y (st y) x))) := by rw [hdlt]
      refine ⟨fun c => ?_, fun c => ?_⟩
      · refine fin129 _ _ hs' ?_
        cases b with
        | none => exact absurd rfl c
        | some p =>
          have hpb : p < 12 := by obtain ⟨i', q', h1', h2', -⟩ := hb1.1; have := hs_bd H h1'; omega
          refine ⟨_, hfa, ?_⟩
          show (if nI q.1 < nI p then nI q.1 else nI p) = oI (some (if q.1 < p then q.1 else p))
          by_cases c : q.1 < p
          · rw [if_pos (nI_lt c (by omega)), if_pos c]; rfl
          · rw [if_neg (fun k => c ((nI_ltI (by omega) (by omega)).mp k)), if_neg c]; rfl
      · refine fin129 _ _ hs' ?_
        cases b with
        | none => exact ⟨_, hfa, rfl⟩
        | some p =>
          have hpb : p < 12 := by obtain ⟨i', q', h1', h2', -⟩ := hb1.1; have := hs_bd H h1'; omega
          exact absurd c (q_m1 p (by omega))
    refine ⟨fun c => fin94 1 ?_, fun c => fin94 0 ?_⟩
    · refine sm16_up _ st hy _ 1 ?_
      rw [stp_some hf]
      show (if i = wn s y x then _ else _) = _
      rw [if_neg c]
    · refine sm16_up _ st hy _ 0 ?_
      rw [stp_some hf]
      show (if i = wn s y x then _ else _) = _
      rw [if_pos c]; rfl
/-- folds -/
theorem pf_snoc (s : Nat → Nat) (al : Nat → Nat → Bool) (y : Nat) (xs : List Nat) (x : Nat) : pf s al y (xs ++ [x]) = stp s al y (pf s al y xs) x := by simp [pf, List.foldl_append]
theorem pf_bnd (s : Nat → Nat) (al : Nat → Nat → Bool) (y : Nat) (xs : List Nat) : ∀ i, (pf s al y xs).1 i ≤ s 5 := by
  suffices hh : ∀ t : PSt, (∀ i, t.1 i ≤ s 5) → ∀ i, (xs.foldl (stp s al y) t).1 i ≤ s 5 from hh ps0 (fun i => Nat.zero_le _)
  induction xs with
  | nil => intro t h i; exact h i
  | cons x xs ih => intro t h i; exact ih _ (stp_bnd h) i
theorem ordk_no {s : Nat → Nat} {al : Nat → Nat → Bool} {d y n k : Nat} (h : ¬ (d.testBit k = true ∧ cm s al y k = n)) : ordk s al d y n (k + 1) = ordk s al d y n k := by
  unfold ordk
  rw [List.range_succ, List.filter_append]
  have : (d.testBit k && decide (cm s al y k = n)) = false := by
    cases e : (d.testBit k && decide (cm s al y k = n)) with
    | false => rfl
    | true => simp only [Bool.and_eq_true, decide_eq_true_eq] at e; exact absurd e h
  simp [this]
theorem ordk_yes {s : Nat → Nat} {al : Nat → Nat → Bool} {d y n k : Nat} (h1 : d.testBit k = true) (h2 : cm s al y k = n) : ordk s al d y n (k + 1) = ordk s al d y n k ++ [k] := by
  unfold ordk
  rw [List.range_succ, List.filter_append]
  simp [h1, h2]
theorem ordp_s (s : Nat → Nat) (al : Nat → Nat → Bool) (d y N : Nat) : ordp s al d y (N + 1) = ordp s al d y N ++ ordk s al d y N 8 := by
  simp [ordp, List.range_succ]
theorem ordp_0 (s : Nat → Nat) (al : Nat → Nat → Bool) (d y : Nat) : ordp s al d y 0 = [] := rfl
theorem cm_le (s : Nat → Nat) (al : Nat → Nat → Bool) (y x : Nat) : cm s al y x ≤ (hs s y).length := List.countP_le_length
theorem ordk_big {s : Nat → Nat} {al : Nat → Nat → Bool} {d y n k : Nat} (h : (hs s y).length < n) : ordk s al d y n k = [] := by
  unfold ordk
  rw [List.filter_eq_nil_iff]
  intro x _ q
  simp only [Bool.and_eq_true, decide_eq_true_eq] at q
  have := cm_le s al y x
  omega
theorem ordp_big {s : Nat → Nat} {al : Nat → Nat → Bool} {d y : Nat} : ∀ {k : Nat}, ordp s al d y ((hs s y).length + 1 + k) = ordp s al d y ((hs s y).length + 1) := by
  intro k
  induction k with
  | zero => rfl
  | succ k ih => rw [← Nat.add_assoc, ordp_s, ih, ordk_big (by omega), List.append_nil]
theorem fin_eq {s : Nat → Nat} (H : Hok s) (al : Nat → Nat → Bool) (d y : Nat) : fin s al d y = pf s al y (ordp s al d y ((hs s y).length + 1)) := by
  have := hs_len12 H y
  unfold fin
  rw [show 13 = (hs s y).length + 1 + (12 - (hs s y).length) by omega, ordp_big]
theorem ordp_zero (s : Nat → Nat) (al : Nat → Nat → Bool) (y N : Nat) : ordp s al 0 y N = [] := by
  induction N with
  | zero => rfl
  | succ N ih =>
    rw [ordp_s, ih]
    simp [ordk]
theorem s_printLine {s : Nat → Nat} {al : Nat → Nat → Bool} {head pic living hc hp cc0 cn0 : Nat → Int32} (hh : Hd s head) (hL : LivOk al living) (hH : ClsH s hc hp) {st : Nat → PSt} {d y : Nat} (hy : y < 16) {str : Int32} {ph md fp lp dp : Nat → Int32} (hP : ClsP s st str ph md fp lp dp) (hB : Bnd s st) (h0 : st y = ps0) (hpic : pic y = nI d) (hd : d < 256) {post : (Int32 × (Nat → Int32) × (Nat → Int32) × (Nat → Int32) × (Nat → Int32) × (Nat → Int32) × (Nat → Int32) × (Nat → Int32)) → Prop}
    (h : ∀ str' ph' md' fp' lp' dp' cc' cn', ClsP s (va_up st y (fin s al d y)) str' ph' md' fp' lp' dp' → post (str', ph', md', fp', lp', dp', cc', cn')) : wp_X1_printLine (nI y) str pic head living hc hp ph md fp lp dp cc0 cn0 post := by
  have H := hh.1
  have hl12 := hs_len12 H y
  have ups : ∀ (st : Nat → PSt) (t u : PSt), va_up (va_up st y t) y u = va_up st y u := fun st t u => bx_uu st y t u
  have upe : va_up st y ps0 = st := by
    funext z
    by_cases e : z = y
    · subst e; rw [va_up_self, h0]
    · rw [va_up_ne _ _ e]
  unfold wp_X1_printLine
  refine ⟨vp_in_nI hy (by omega), ?_⟩
  rw [nI_clamp (by omega), hpic]
  refine ⟨fun c => ?_, fun c => ?_⟩
  · refine s_lookAtHits hh hL hH hy (fun cc cn hC hN => ?_)
    have hN : ∀ x, x < 8 → cn x = nI (cm s al y x) := fun x hx => by rw [hN x hx, List.take_length]; rfl
    have inner : ∀ (n : Nat), n ≤ (hs s y).length → ∀ (Ke : Int32 → (Nat → Int32) → (Nat → Int32) → (Nat → Int32) → (Nat → Int32) → (Nat → Int32) → Prop), (∀ str ph md fp lp dp, ClsP s (va_up st y (pf s al y (ordp s al d y (n + 1)))) str ph md fp lp dp → Ke str ph md fp lp dp) → ∀ (m x : Nat) (str : Int32) (ph md fp lp dp : Nat → Int32), x ≤ 8 → 8 - x < m → ClsP s (va_up st y (pf s al y (ordp s al d y n ++ ordk s al d y n x))) str ph md fp lp dp → wq_X1_printLine_29 pic head living hc hp (nI y) (nI n) cc cn post Ke m (nI x) str ph md fp lp dp := by
      intro n hn Ke hK m
      induction m with
      | zero => intro x str ph md fp lp dp g1 g2; omega
      | succ m ih =>
        intro x str ph md fp lp dp g1 g2 hP
        unfold wq_X1_printLine_29
        simp (disch := omega) only [fa_lit, nI_leI]
        refine ⟨fun c => ?_, fun c => ?_⟩
        · have : x = 8 := by omega
          subst this
          rw [← ordp_s] at hP
          exact hK _ _ _ _ _ _ hP
        · have hx : x < 8 := by omega
          have hcm := cm_le s al y x
          simp (disch := omega) only [q_in, true_and, forall_eq, nI_clamp, hN x hx, nI_eq, nI_add]
          refine ⟨fun c1 => ih (x + 1) _ _ _ _ _ _ (by omega) (by omega) (by rw [ordk_no (fun q => c1 q.2)]; exact hP), fun c1 => ?_⟩
          refine s_isDot hy (by omega) hpic (by omega) ?_
          rw [show (nI 0 : Int32) = 0 from rfl, b01_0]
          refine ⟨fun c2 => ih (x + 1) _ _ _ _ _ _ (by omega) (by omega) (by rw [ordk_no (fun q => by rw [c2] at q; exact absurd q.1 (by decide))]; exact hP), fun c2 => ?_⟩
          have c2 : d.testBit x = true := by cases e : d.testBit x with
            | false => exact absurd e c2
            | true => rfl
          refine s_printDot hh hH hy hx hC hP (bnd_up hB (pf_bnd s al y _)) hpic hd c2 (fun str' ph' md' fp' lp' dp' hP' => ?_)
          rw [va_up_self, ← pf_snoc, ups, List.append_assoc, ← ordk_yes c2 c1] at hP'
          exact ih (x + 1) _ _ _ _ _ _ (by omega) (by omega) hP'
    have outer : ∀ (m n : Nat) (str : Int32) (ph md fp lp dp : Nat → Int32), n ≤ (hs s y).length + 1 → (hs s y).length + 1 - n < m → ClsP s (va_up st y (pf s al y (ordp s al d y n))) str ph md fp lp dp → wq_X1_printLine_17 pic head living hc hp (nI y) cc cn post (fun d55 d56 d57 d58 d59 d60 => post (d55, d56, d57, d58, d59, d60, cc, cn)) m (nI n) str ph md fp lp dp := by
      intro m
      induction m with
      | zero => intro n str ph md fp lp dp g1 g2; omega
      | succ m ih =>
        intro n str ph md fp lp dp g1 g2 hP
        unfold wq_X1_printLine_17
        refine ⟨vp_in_nI hy (by omega), ?_⟩
        simp (disch := omega) only [nI_clamp, hH.cnt hy, nI_ltI]
        refine ⟨fun c => ?_, fun c => ?_⟩
        · have : n = (hs s y).length + 1 := by omega
          subst this
          rw [← fin_eq H] at hP
          exact h _ _ _ _ _ _ _ _ hP
        · refine ⟨9, inner n (by omega) _ (fun str' ph' md' fp' lp' dp' hP' => ?_) 9 0 str ph md fp lp dp (by omega) (by omega) (by rw [show ordk s al d y n 0 = [] from rfl, List.append_nil]; exact hP)⟩
          intro v hv
          rw [hv, nI_1]
          exact ih (n + 1) _ _ _ _ _ _ (by omega) (by omega) hP'
    refine ⟨(hs s y).length + 2, outer _ 0 str ph md fp lp dp (by omega) (by omega) ?_⟩
    rw [ordp_0]
    show ClsP s (va_up st y ps0) str ph md fp lp dp
    rw [upe]; exact hP
  · have hd0 : d = 0 := (nI_eq (by omega) (by decide)).mp c
    subst hd0
    refine h _ _ _ _ _ _ _ _ ?_
    unfold fin
    rw [ordp_zero]
    show ClsP s (va_up st y ps0) str ph md fp lp dp
    rw [upe]; exact hP
