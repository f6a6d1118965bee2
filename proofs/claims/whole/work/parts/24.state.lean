/-! the state that both sides hold, and the reference's run of what is told -/
theorem yes1 {c A B : Prop} (hc : c) (h : A) : (c → A) ∧ (¬ c → B) := ⟨fun _ => h, fun q => absurd hc q⟩
theorem no1 {c A B : Prop} (hc : ¬ c) (h : B) : (c → A) ∧ (¬ c → B) := ⟨fun q => absurd q hc, fun _ => h⟩
theorem yes2 {c A B : Prop} (hc : c) (h : B) : (¬ c → A) ∧ (c → B) := ⟨fun q => absurd hc q, fun _ => h⟩
theorem no2 {c A B : Prop} (hc : ¬ c) (h : A) : (¬ c → A) ∧ (c → B) := ⟨fun _ => h, fun q => absurd q hc⟩
theorem one0 : ¬ (1 : Int32) = 0 := by decide
theorem s_withinT {x0 x1 x2 : Int32} {post : Int32 → Unit → Prop} (c : x1 ≤ x0 ∧ x0 ≤ x2) (h : post 1 ()) : wp_X3_within x0 x1 x2 post := s_within (by rw [decide_eq_true c]; exact h)
theorem s_withinF {x0 x1 x2 : Int32} {post : Int32 → Unit → Prop} (c : ¬ (x1 ≤ x0 ∧ x0 ≤ x2)) (h : post 0 ()) : wp_X3_within x0 x1 x2 post := s_within (by rw [decide_eq_false c]; exact h)
theorem r_inT {x0 x1 x2 : Int32} {post : Int32 → Unit → Prop} (c : x1 ≤ x0 ∧ x0 ≤ x2) (h : post 1 ()) : wp_X4_in x0 x1 x2 post := s_withinT c h
theorem r_inF {x0 x1 x2 : Int32} {post : Int32 → Unit → Prop} (c : ¬ (x1 ≤ x0 ∧ x0 ≤ x2)) (h : post 0 ()) : wp_X4_in x0 x1 x2 post := s_withinF c h
theorem s_lineT {x : Int32} {post : Int32 → Unit → Prop} (c : (0 : Int32) ≤ x ∧ x ≤ 15) (h : post 1 ()) : wp_X3_isLine x post := s_isLine (by rw [decide_eq_true c]; exact h)
theorem s_lineF {x : Int32} {post : Int32 → Unit → Prop} (c : ¬ ((0 : Int32) ≤ x ∧ x ≤ 15)) (h : post 0 ()) : wp_X3_isLine x post := s_isLine (by rw [decide_eq_false c]; exact h)
theorem r_lineT {x : Int32} {post : Int32 → Unit → Prop} (c : (0 : Int32) ≤ x ∧ x ≤ 15) (h : post 1 ()) : wp_X4_isLine x post := r_isLine (by rw [decide_eq_true c]; exact h)
theorem r_lineF {x : Int32} {post : Int32 → Unit → Prop} (c : ¬ ((0 : Int32) ≤ x ∧ x ≤ 15)) (h : post 0 ()) : wp_X4_isLine x post := r_isLine (by rw [decide_eq_false c]; exact h)
theorem r_twoT {x : Int32} {post : Int32 → Unit → Prop} (c : (0 : Int32) ≤ x ∧ x ≤ 1) (h : post 1 ()) : wp_X4_isTwo x post := r_isTwo (by rw [decide_eq_true c]; exact h)
theorem r_twoF {x : Int32} {post : Int32 → Unit → Prop} (c : ¬ ((0 : Int32) ≤ x ∧ x ≤ 1)) (h : post 0 ()) : wp_X4_isTwo x post := r_isTwo (by rw [decide_eq_false c]; exact h)
theorem r_threeT {x : Int32} {post : Int32 → Unit → Prop} (c : (0 : Int32) ≤ x ∧ x ≤ 2) (h : post 1 ()) : wp_X4_isThree x post := r_isThree (by rw [decide_eq_true c]; exact h)
theorem r_threeF {x : Int32} {post : Int32 → Unit → Prop} (c : ¬ ((0 : Int32) ≤ x ∧ x ≤ 2)) (h : post 0 ()) : wp_X4_isThree x post := r_isThree (by rw [decide_eq_false c]; exact h)
theorem r_colT {x : Int32} {post : Int32 → Unit → Prop} (c : (0 : Int32) ≤ x ∧ x ≤ 7) (h : post 1 ()) : wp_X4_isColumn x post := r_isColumn (by rw [decide_eq_true c]; exact h)
theorem r_colF {x : Int32} {post : Int32 → Unit → Prop} (c : ¬ ((0 : Int32) ≤ x ∧ x ≤ 7)) (h : post 0 ()) : wp_X4_isColumn x post := r_isColumn (by rw [decide_eq_false c]; exact h)
theorem s_shT {x : Int32} {post : Int32 → Unit → Prop} (c : (0 : Int32) ≤ x ∧ x ≤ 3) (h : post 1 ()) : wp_X3_isSheet x post := s_isSheet (by rw [decide_eq_true c]; exact h)
theorem s_shF {x : Int32} {post : Int32 → Unit → Prop} (c : ¬ ((0 : Int32) ≤ x ∧ x ≤ 3)) (h : post 0 ()) : wp_X3_isSheet x post := s_isSheet (by rw [decide_eq_false c]; exact h)
theorem r_shT {x : Int32} {post : Int32 → Unit → Prop} (c : (0 : Int32) ≤ x ∧ x ≤ 3) (h : post 1 ()) : wp_X4_isSheet x post := r_isSheet (by rw [decide_eq_true c]; exact h)
theorem r_shF {x : Int32} {post : Int32 → Unit → Prop} (c : ¬ ((0 : Int32) ≤ x ∧ x ≤ 3)) (h : post 0 ()) : wp_X4_isSheet x post := r_isSheet (by rw [decide_eq_false c]; exact h)
theorem s_formT {x : Int32} {post : Int32 → Unit → Prop} (c : (0 : Int32) ≤ x ∧ x ≤ 2) (h : post 1 ()) : wp_X3_isForm x post := s_isForm (by rw [decide_eq_true c]; exact h)
theorem s_formF {x : Int32} {post : Int32 → Unit → Prop} (c : ¬ ((0 : Int32) ≤ x ∧ x ≤ 2)) (h : post 0 ()) : wp_X3_isForm x post := s_isForm (by rw [decide_eq_false c]; exact h)
theorem in_nI {j n : Nat} (h : j ≤ n) (hn : n < 2 ^ 31) : (0 : Int32) ≤ nI j ∧ nI j ≤ nI n := ⟨nI_pos' (by omega), nI_le h hn⟩
/-- who is alive -/
theorem bst_cong {ea en : Nat → Nat} {c1 c2 : Nat → Bool} {p j : Nat} : ∀ {n : Nat}, (∀ e, e < n → c1 e = c2 e) → bst ea en c1 p j n = bst ea en c2 p j n := by
  intro n
  induction n with
  | zero => intro _; rfl
  | succ n ih =>
    intro h
    unfold bst
    rw [ih (fun e he => h e (by omega)), h n (by omega)]
theorem alv_cong {n : Nat} {ek ea en : Nat → Nat} {c1 c2 : Nat → Bool} (h : ∀ e, e < n → c1 e = c2 e) : alv n ek ea en c1 = alv n ek ea en c2 := by
  funext p j
  unfold alv
  rw [bst_cong h]
theorem bst_none {ea en : Nat → Nat} {c1 : Nat → Bool} {p j : Nat} : ∀ {n : Nat}, (∀ e, e < n → c1 e = false) → bst ea en c1 p j n = none := by
  intro n
  induction n with
  | zero => intro _; rfl
  | succ n ih =>
    intro h
    unfold bst
    rw [ih (fun e he => h e (by omega)), h n (by omega), if_neg (by intro q; exact absurd q.2.2 (by decide))]
def al0 (n : Nat) (ek ea en : Nat → Nat) : Nat → Nat → Bool := alv n ek ea en (fun _ => true)
/-- all but the events of ne -/
def alN (n : Nat) (ek ea en : Nat → Nat) (ne : Nat) : Nat → Nat → Bool := alv n ek ea en (fun e => !ne.testBit e)
/-- one nozzle dead alone -/
def alD (k : Nat) : Nat → Nat → Bool := fun _ j => decide (j ≠ k)
theorem alN_0 (n : Nat) (ek ea en : Nat → Nat) : alN n ek ea en 0 = al0 n ek ea en := alv_cong (fun e _ => by rw [Nat.zero_testBit]; rfl)
theorem r_alN {n : Nat} {ek ea en : Nat → Nat} {ck ca cn : Nat → Int32} (hE : EvOk n ek ea en ck ca cn) {ne : Nat} (hne : ne < 2 ^ 31) : RAlv (alN n ek ea en ne) (nI n) (nI ne) (-1) ck ca cn := by
  have h := r_alv hE (dd := none) hne (fun x h => by cases h)
  have e : (fun p j => decide ((none : Option Nat) ≠ some j) && alv n ek ea en (fun e => !ne.testBit e) p j) = alN n ek ea en ne := by
    funext p j
    simp [alN]
  rw [e] at h
  exact h
theorem r_alD {n : Nat} {ek ea en : Nat → Nat} {ck ca cn : Nat → Int32} (hE : EvOk n ek ea en ck ca cn) {k : Nat} (hk : k < 2 ^ 31) : RAlv (alD k) (nI n) (nI 255) (nI k) ck ca cn := by
  have h := r_alv hE (ne := 255) (dd := some k) (by decide) (fun x h => by cases h; exact hk)
  have h8 := hE.1
  have q255 : ∀ e, e < 8 → Nat.testBit 255 e = true := by decide
  have e : (fun p j => decide ((some k : Option Nat) ≠ some j) && alv n ek ea en (fun e => !Nat.testBit 255 e) p j) = alD k := by
    funext p j
    have : alv n ek ea en (fun e => !Nat.testBit 255 e) p j = true := by
      unfold alv
      rw [bst_none (fun e he => by rw [q255 e (by omega)]; rfl)]
    rw [this, Bool.and_true]
    unfold alD
    simp only [ne_eq, decide_eq_decide, Option.some.injEq]
    constructor
    · intro h q; exact h q.symm
    · intro h q; exact h q.symm
  rw [e] at h
  exact h
def RefI (d s : Nat → Nat) (n : Nat) (ek ea en : Nat → Nat) (told head : Nat → Int32) (ev : Int32) (ck ca cn : Nat → Int32) : Prop := PicOk d told ∧ Hd s head ∧ ev = nI n ∧ EvOk n ek ea en ck ca cn
theorem r_asTold {d s : Nat → Nat} {f_this_notEvents : Int32} {f_this_deadNow : Int32} {c_this_told : Nat → Int32} {c_this_head : Nat → Int32} {c_this_dots : Nat → Int32} {c_this_now : Nat → Int32} {post : (Int32 × Int32 × (Nat → Int32) × (Nat → Int32)) → Prop} (hp : PicOk d c_this_told) (hh : Hd s c_this_head) (h : ∀ dots now, PicOk d dots → Hd s now → post (0, -1, dots, now)) : wp_X4_asTold f_this_notEvents f_this_deadNow c_this_told c_this_head c_this_dots c_this_now post := by
  unfold wp_X4_asTold
  have k2 : ∀ (dots : Nat → Int32), PicOk d dots → ∀ (m k : Nat) (now : Nat → Int32), k ≤ 9 → 9 - k < m → (∀ i, i < k → now i = hv s i) → wq_X4_asTold_28 c_this_told c_this_head f_this_notEvents f_this_deadNow dots post (fun d16 => post (0, -1, dots, d16)) m (nI k) now := by
    intro dots hd m
    induction m with
    | zero => intro k now g1 g2; omega
    | succ m ih =>
      intro k now g1 g2 hI
      unfold wq_X4_asTold_28
      simp (disch := omega) only [fa_lit, nI_leI]
      refine ⟨fun q => h _ _ hd ⟨hh.1, fun i hi => hI i (by omega)⟩, fun q => ?_⟩
      simp (disch := omega) only [q_in, true_and, forall_eq, nI_clamp, nI_add]
      refine ih (k + 1) _ (by omega) (by omega) (fun i hi => ?_)
      by_cases e : i = k
      · subst e; rw [pk_us]; exact hh.2 i (by omega)
      · rw [pk_un e]; exact hI i (by omega)
  have k1 : ∀ (m k : Nat) (dots : Nat → Int32), k ≤ 16 → 16 - k < m → (∀ i, i < k → dots i = nI (d i) ∧ d i < 256) → wq_X4_asTold_2 c_this_told c_this_head f_this_notEvents f_this_deadNow c_this_now post (fun d15 => ∃ n17 : Nat, wq_X4_asTold_28 c_this_told c_this_head f_this_notEvents f_this_deadNow d15 post (fun d16 => post (0, -1, d15, d16)) n17 0 c_this_now) m (nI k) dots := by
    intro m
    induction m with
    | zero => intro k dots g1 g2; omega
    | succ m ih =>
      intro k dots g1 g2 hI
      unfold wq_X4_asTold_2
      simp (disch := omega) only [fa_lit, nI_leI]
      refine ⟨fun q => ⟨10, k2 dots (fun i hi => hI i (by omega)) 10 0 c_this_now (by omega) (by omega) (fun i hi => by omega)⟩, fun q => ?_⟩
      simp (disch := omega) only [q_in, true_and, forall_eq, nI_clamp, nI_add]
      refine ih (k + 1) _ (by omega) (by omega) (fun i hi => ?_)
      by_cases e : i = k
      · subst e; rw [pk_us]; exact hp i (by omega)
      · rw [pk_un e]; exact hI i (by omega)
  exact ⟨17, k1 17 0 _ (by omega) (by omega) (fun i hi => by omega)⟩
theorem r_runsTold {d s : Nat → Nat} {n : Nat} {ek ea en : Nat → Nat} {f_this_events : Int32} {f_this_notEvents : Int32} {f_this_deadNow : Int32} {f_this_allMissed : Int32} {f_this_allWanted : Int32} {f_this_allPrinted : Int32} {c_this_told : Nat → Int32} {c_this_head : Nat → Int32} {c_this_eventKind : Nat → Int32} {c_this_eventAt : Nat → Int32} {c_this_eventNozzle : Nat → Int32} {c_this_dots : Nat → Int32} {c_this_now : Nat → Int32} {c_this_hitMany : Nat → Int32} {c_this_hitPass : Nat → Int32} {c_this_hitNozzle : Nat → Int32} {c_this_hitPrints : Nat → Int32} {c_this_canMany : Nat → Int32} {c_this_printedBy : Nat → Int32} {c_this_missing : Nat → Int32} {c_this_prints : Nat → Int32} {c_this_gutter : Nat → Int32} {post : (Int32 × Int32 × Int32 × Int32 × Int32 × (Nat → Int32) × (Nat → Int32) × (Nat → Int32) × (Nat → Int32) × (Nat → Int32) × (Nat → Int32) × (Nat → Int32) × (Nat → Int32) × (Nat → Int32) × (Nat → Int32) × (Nat → Int32)) → Prop} (I : RefI d s n ek ea en c_this_told c_this_head f_this_events c_this_eventKind c_this_eventAt c_this_eventNozzle) (h : ∀ aM aW aP dots now hm hP hN hR cM pB mi pt gt, PicOk d dots → Hd s now → RAlv (al0 n ek ea en) f_this_events 0 (-1) c_this_eventKind c_this_eventAt c_this_eventNozzle → RunOk s (al0 n ek ea en) d aM aW aP hm hP hN hR cM pB mi pt gt → post (0, -1, aM, aW, aP, dots, now, hm, hP, hN, hR, cM, pB, mi, pt, gt)) : wp_X4_runsTold f_this_events f_this_notEvents f_this_deadNow f_this_allMissed f_this_allWanted f_this_allPrinted c_this_told c_this_head c_this_eventKind c_this_eventAt c_this_eventNozzle c_this_dots c_this_now c_this_hitMany c_this_hitPass c_this_hitNozzle c_this_hitPrints c_this_canMany c_this_printedBy c_this_missing c_this_prints c_this_gutter post := by
  obtain ⟨i1, i2, i3, i4⟩ := I
  unfold wp_X4_runsTold
  refine r_asTold i1 i2 (fun dots now hd hn => ?_)
  have hA := r_alN i4 (ne := 0) (by decide)
  rw [alN_0, ← i3] at hA
  exact r_runs hn hA hd (fun aM aW aP hm hP hN hR cM pB mi pt gt hR' => h _ _ _ _ _ _ _ _ _ _ _ _ _ _ hd hn hA hR')
/-- the last and the first pass that prints a dot of a line -/
def lstf (L : List (Nat × Nat)) (pr : Nat → Nat) : Nat → Option Nat
  | 0 => none
  | k + 1 => match L[k]? with
    | some q => if 0 < pr k then some q.1 else lstf L pr k
    | none => lstf L pr k
def fstf (L : List (Nat × Nat)) (pr : Nat → Nat) : Nat → Option Nat
  | 0 => none
  | k + 1 => match fstf L pr k with
    | some a => some a
    | none => match L[k]? with
      | some q => if 0 < pr k then some q.1 else none
      | none => none
theorem hs_lt {s : Nat → Nat} (H : Hok s) {y i k : Nat} {q r : Nat × Nat} (hq : (hs s y)[i]? = some q) (hr : (hs s y)[k]? = some r) (h : i < k) : q.1 < r.1 := by
  obtain ⟨h1, e1⟩ := List.getElem?_eq_some_iff.mp hq
  obtain ⟨h2, e2⟩ := List.getElem?_eq_some_iff.mp hr
  have := List.pairwise_iff_getElem.mp (hs_inc H y) i k h1 h2 h
  rw [e1, e2] at this
  exact this
theorem lstf_ok {s : Nat → Nat} (H : Hok s) (y : Nat) (pr : Nat → Nat) : LastOf (hs s y) pr (lstf (hs s y) pr (hs s y).length) := by
  have key : ∀ k, k ≤ (hs s y).length → match lstf (hs s y) pr k with
      | none => ∀ (i : Nat) (q : Nat × Nat), i < k → (hs s y)[i]? = some q → pr i = 0
      | some p => (∃ (i : Nat) (q : Nat × Nat), (hs s y)[i]? = some q ∧ q.1 = p ∧ 0 < pr i) ∧ ∀ (i : Nat) (q : Nat × Nat), i < k → (hs s y)[i]? = some q → 0 < pr i → q.1 ≤ p := by
    intro k
    induction k with
    | zero => intro _ i q h; omega
    | succ k ih =>
      intro hk
      obtain ⟨r, hr⟩ := hs_get (s := s) (y := y) (i := k) (by omega)
      have ih := ih (by omega)
      unfold lstf
      rw [hr]
      by_cases c : 0 < pr k
      · simp only [if_pos c]
        refine ⟨⟨k, r, hr, rfl, c⟩, fun i q hi hq hp => ?_⟩
        by_cases e : i = k
        · subst e; rw [hr] at hq; cases hq; exact Nat.le_refl _
        · exact Nat.le_of_lt (hs_lt H hq hr (by omega))
      · simp only [if_neg c]
        cases hl : lstf (hs s y) pr k with
        | none =>
          rw [hl] at ih
          intro i q hi hq
          by_cases e : i = k
          · subst e; omega
          · exact ih i q (by omega) hq
        | some p =>
          rw [hl] at ih
          refine ⟨ih.1, fun i q hi hq hp => ?_⟩
          by_cases e : i = k
          · subst e; omega
          · exact ih.2 i q (by omega) hq hp
  have h := key _ (Nat.le_refl _)
  have hb : ∀ (i : Nat) (q : Nat × Nat), (hs s y)[i]? = some q → i < (hs s y).length := fun i q hq => (List.getElem?_eq_some_iff.mp hq).1
  cases hl : lstf (hs s y) pr (hs s y).length with
  | none => rw [hl] at h; exact fun i q hq => h i q (hb i q hq) hq
  | some p => rw [hl] at h; exact ⟨h.1, fun i q hq => h.2 i q (hb i q hq) hq⟩
theorem fstf_ok {s : Nat → Nat} (H : Hok s) (y : Nat) (pr : Nat → Nat) : FirstOf (hs s y) pr (fstf (hs s y) pr (hs s y).length) := by
  have key : ∀ k, k ≤ (hs s y).length → match fstf (hs s y) pr k with
      | none => ∀ (i : Nat) (q : Nat × Nat), i < k → (hs s y)[i]? = some q → pr i = 0
      | some p => (∃ (i : Nat) (q : Nat × Nat), i < k ∧ (hs s y)[i]? = some q ∧ q.1 = p ∧ 0 < pr i) ∧ ∀ (i : Nat) (q : Nat × Nat), (hs s y)[i]? = some q → 0 < pr i → p ≤ q.1 := by
    intro k
    induction k with
    | zero => intro _ i q h; omega
    | succ k ih =>
      intro hk
      obtain ⟨r, hr⟩ := hs_get (s := s) (y := y) (i := k) (by omega)
      have ih := ih (by omega)
      unfold fstf
      cases hl : fstf (hs s y) pr k with
      | some p =>
        rw [hl] at ih
        obtain ⟨⟨i, q, h1, h2⟩, h3⟩ := ih
        exact ⟨⟨i, q, by omega, h2⟩, h3⟩
      | none =>
        rw [hl] at ih
        have ih : ∀ (i : Nat) (q : Nat × Nat), i < k → (hs s y)[i]? = some q → pr i = 0 := ih
        rw [hr]
        by_cases c : 0 < pr k
        · simp only [if_pos c]
          refine ⟨⟨k, r, by omega, hr, rfl, c⟩, fun i q hq hp => ?_⟩
          by_cases e : i < k
          · have := ih i q e hq; omega
          · by_cases e2 : i = k
            · subst e2; rw [hr] at hq; cases hq; exact Nat.le_refl _
            · exact Nat.le_of_lt (hs_lt H hr hq (by omega))
        · simp only [if_neg c]
          intro i q hi hq
          by_cases e : i = k
          · subst e; omega
          · exact ih i q (by omega) hq
  have h := key _ (Nat.le_refl _)
  have hb : ∀ (i : Nat) (q : Nat × Nat), (hs s y)[i]? = some q → i < (hs s y).length := fun i q hq => (List.getElem?_eq_some_iff.mp hq).1
  cases hl : fstf (hs s y) pr (hs s y).length with
  | none => rw [hl] at h; exact fun i q hq => h i q (hb i q hq) hq
  | some p =>
    rw [hl] at h
    obtain ⟨⟨i, q, h1, h2⟩, h3⟩ := h
    exact ⟨⟨i, q, h2⟩, h3⟩
theorem lstf_lt {s : Nat → Nat} (H : Hok s) {y : Nat} {pr : Nat → Nat} : ∀ {k p : Nat}, lstf (hs s y) pr k = some p → p < 12 := by
  intro k
  induction k with
  | zero => intro p h; cases h
  | succ k ih =>
    intro p h
    unfold lstf at h
    cases hq : (hs s y)[k]? with
    | none => rw [hq] at h; exact ih h
    | some q =>
      rw [hq] at h
      by_cases c : 0 < pr k
      · simp only [if_pos c] at h; cases h; exact (hs_bd H hq).2.1
      · simp only [if_neg c] at h; exact ih h
theorem fstf_lt {s : Nat → Nat} (H : Hok s) {y : Nat} {pr : Nat → Nat} : ∀ {k p : Nat}, fstf (hs s y) pr k = some p → p < 12 := by
  intro k
  induction k with
  | zero => intro p h; cases h
  | succ k ih =>
    intro p h
    unfold fstf at h
    cases hf : fstf (hs s y) pr k with
    | some a => rw [hf] at h; cases h; exact ih hf
    | none =>
      rw [hf] at h
      cases hq : (hs s y)[k]? with
      | none => rw [hq] at h; cases h
      | some q =>
        rw [hq] at h
        by_cases c : 0 < pr k
        · simp only [if_pos c] at h; cases h; exact (hs_bd H hq).2.1
        · simp only [if_neg c] at h; cases h
def lastP (s : Nat → Nat) (al : Nat → Nat → Bool) (d : Nat → Nat) (y : Nat) : Option Nat := lstf (hs s y) (fin s al (d y) y).1 (hs s y).length
def firstP (s : Nat → Nat) (al : Nat → Nat → Bool) (d : Nat → Nat) (y : Nat) : Option Nat := fstf (hs s y) (fin s al (d y) y).1 (hs s y).length
theorem r_passNow {d s : Nat → Nat} {al : Nat → Nat → Bool} {y w : Nat} {aM aW aP : Int32} {hm hP hN hR cM pB mi pt gt : Nat → Int32} {post : Int32 → Unit → Prop} (H : Hok s) (hR' : RunOk s al d aM aW aP hm hP hN hR cM pB mi pt gt) (hy : y < 16) (hw : w ≤ 1) (h : post (oI (if w = 0 then firstP s al d y else lastP s al d y)) ()) : wp_X4_passNow (nI y) (nI w) hm hP hR post := by
  unfold wp_X4_passNow
  have hH := hR'.1
  have hS := hR'.2.1
  have h12 := hs_len12 H y
  have hst : (stk s al d 16 y).1 = (fin s al (d y) y).1 := by rw [stk_at hy]
  have key : ∀ (m k : Nat), k ≤ (hs s y).length → (hs s y).length - k < m → wq_X4_passNow_5 hm hP hR (nI y) (nI w) post (fun e25 => post e25 ()) m (oI (if w = 0 then fstf (hs s y) (fin s al (d y) y).1 k else lstf (hs s y) (fin s al (d y) y).1 k)) (nI k) := by
    intro m
    induction m with
    | zero => intro k g1 g2; omega
    | succ m ih =>
      intro k g1 g2
      unfold wq_X4_passNow_5
      refine ⟨vp_in_nI hy (by omega), ?_⟩
      rw [nI_clamp (by omega), hH.cnt hy]
      simp (disch := omega) only [nI_leI]
      refine ⟨fun q => ?_, fun q => ?_⟩
      · have e : k = (hs s y).length := by omega
        subst e; exact h
      · obtain ⟨r, hr⟩ := hs_get (s := s) (y := y) (i := k) (by omega)
        obtain ⟨b1, b2, b3, b4⟩ := hs_bd H hr
        have e1 : hR (12 * y + k) = nI ((fin s al (d y) y).1 k) := by rw [← hst]; exact hS.2.2.2.1 y hy k r hr
        have e2 := hH.ps hy hr
        have hb : (fin s al (d y) y).1 k ≤ s 5 := by rw [← hst]; exact stk_bnd s al d 16 y k
        have h5 := H.2.2.2.2.2.1
        have st := ih (k + 1) (by omega) (by omega)
        simp (disch := omega) only [forall_eq, fa_lit, pk_mul, nI_add, q_in, nI_clamp, true_and, e1, e2]
        rw [nI_leI (by omega) (by omega), nI_eq (by omega) (by omega)]
        unfold lstf fstf at st
        rw [hr] at st
        refine ⟨fun c => ?_, fun c => ?_⟩
        · simp only [if_neg (show ¬ 0 < (fin s al (d y) y).1 k by omega)] at st
          have e3 : (match fstf (hs s y) (fin s al (d y) y).1 k with | some a => some a | none => (none : Option Nat)) = fstf (hs s y) (fin s al (d y) y).1 k := by cases fstf (hs s y) (fin s al (d y) y).1 k <;> rfl
          rw [e3] at st
          exact st
        · simp only [if_pos (show 0 < (fin s al (d y) y).1 k by omega)] at st
          by_cases c2 : w = 0
          · subst c2
            refine yes2 rfl ?_
            simp only [if_pos rfl] at st ⊢
            rw [show (-nI 1 : Int32) = -nI 1 from rfl, oI_none _ (fun x hx => by have := fstf_lt H hx; omega)]
            cases hf : fstf (hs s y) (fin s al (d y) y).1 k with
            | none =>
              rw [hf] at st
              exact yes2 rfl st
            | some a =>
              rw [hf] at st
              exact no2 (by intro q; cases q) st
          · refine no2 c2 ?_
            rw [if_neg c2] at st
            exact st
  have := key ((hs s y).length + 1) 0 (by omega) (by omega)
  have e0 : oI (if w = 0 then fstf (hs s y) (fin s al (d y) y).1 0 else lstf (hs s y) (fin s al (d y) y).1 0) = -1 := by
    by_cases c : w = 0
    · rw [if_pos c]; rfl
    · rw [if_neg c]; rfl
  rw [e0] at this
  exact ⟨_, this⟩
